/-! THE TEXT: read letter by letter. A state: the place (0 start, 1 part, 2 kind, 3 move, 4 owner, 5 price), the move, the roll so far -/
abbrev Rd : Type := Nat × Nat × Rl
def mvOf (c : Nat) : Nat := if c = 108 then 1 else if c = 112 then 2 else if c = 102 then 3 else if c = 119 then 4 else 0
def setKd (R : Rl) (k : Nat) : Rl := (rFc R, rGc R, updN (rKd R) (rFc R) k, rMv R, rPr R, rTl R)
def setMv (R : Rl) (m v : Nat) : Rl := (rFc R, rGc R, rKd R, fun f j => if f = rFc R ∧ j = m then v else rMv R f j, rPr R, rTl R)
def incF (R : Rl) : Rl := (rFc R + 1, rGc R, rKd R, rMv R, rPr R, rTl R)
def setTl (R : Rl) (o : Nat) : Rl := (rFc R, rGc R, rKd R, rMv R, rPr R, updN (rTl R) (rGc R) o)
def setPr (R : Rl) (p : Nat) : Rl := (rFc R, rGc R + 1, rKd R, rMv R, updN (rPr R) (rGc R) p, rTl R)
def rdStep (s : Rd) (c : Nat) : Option Rd :=
  if s.1 = 0 then (if c = 66 then some (1, s.2.1, s.2.2) else none)
  else if s.1 = 1 then (if c = 70 ∧ rFc s.2.2 < 6 then some (2, s.2.1, s.2.2) else if c = 71 ∧ rGc s.2.2 < 5 ∧ 0 < rFc s.2.2 then some (4, s.2.1, s.2.2) else none)
  else if s.1 = 2 then (if 48 ≤ c ∧ c - 48 ≤ 3 then some (3, 0, setKd s.2.2 (c - 48)) else none)
  else if s.1 = 3 then (if mvOf c ≠ 0 then (if s.2.1 + 1 = 3 then some (1, 3, incF (setMv s.2.2 s.2.1 (mvOf c))) else some (3, s.2.1 + 1, setMv s.2.2 s.2.1 (mvOf c))) else none)
  else if s.1 = 4 then (if 48 ≤ c ∧ c - 48 < rFc s.2.2 then some (5, s.2.1, setTl s.2.2 (c - 48)) else none)
  else (if 48 ≤ c ∧ c - 48 ≤ 9 then some (1, s.2.1, setPr s.2.2 (c - 48)) else none)
/-- what holds of a state -/
def RdOK (s : Rd) : Prop := s.1 ≤ 5 ∧ RlOK s.2.2 ∧ (s.1 = 2 → rFc s.2.2 < 6) ∧ (s.1 = 3 → rFc s.2.2 < 6 ∧ s.2.1 < 3 ∧ rKd s.2.2 (rFc s.2.2) < 4 ∧ ∀ j, j < s.2.1 → rMv s.2.2 (rFc s.2.2) j < 5 ∧ 0 < rMv s.2.2 (rFc s.2.2) j) ∧ (s.1 = 4 → rGc s.2.2 < 5 ∧ 0 < rFc s.2.2) ∧ (s.1 = 5 → rGc s.2.2 < 5 ∧ rTl s.2.2 (rGc s.2.2) < rFc s.2.2)
/-- the reader's and the draft's cells hold a state -/
def RdAt (μ : Mem) (s : Rd) : Prop := μ.1 18 1 = nI s.1 ∧ DraftAt μ s.2.2 ∧ (s.1 = 3 → μ.1 18 2 = nI s.2.1 ∧ μ.1 (6 + 2 * rFc s.2.2) 0 = nI (rKd s.2.2 (rFc s.2.2)) ∧ ∀ j, j < s.2.1 → μ.1 (6 + 2 * rFc s.2.2 + 1) j = nI (rMv s.2.2 (rFc s.2.2) j)) ∧ (s.1 = 5 → μ.1 5 (rGc s.2.2) = nI (rTl s.2.2 (rGc s.2.2)))
/-- the rows that reading changes -/
def dS : List Nat := [2, 4, 5, 6, 7, 8, 9, 10, 11, 12, 13, 14, 15, 16, 17, 18]
theorem dS_in {a : Nat} (h : (4 ≤ a ∧ a ≤ 18) ∨ a = 2) : a ∈ dS := by unfold dS; simp; omega
theorem mvOf_lt (c : Nat) : mvOf c < 5 := by unfold mvOf; repeat (first | split | omega)
theorem rdStep_ok {s s' : Rd} {c : Nat} (h : RdOK s) (e : rdStep s c = some s') : RdOK s' := by
  obtain ⟨h0, hR, h2, h3, h4, h5⟩ := h
  obtain ⟨r1, r2, r3, r4⟩ := id hR
  unfold rdStep at e
  split at e
  · split at e
    · cases e; exact ⟨by simp, hR, by simp, by simp, by simp, by simp⟩
    · cases e
  · split at e
    · split at e
      · next q => cases e; exact ⟨by simp, hR, fun _ => q.2, by simp, by simp, by simp⟩
      · split at e
        · next q => cases e; exact ⟨by simp, hR, by simp, by simp, fun _ => q.2, by simp⟩
        · cases e
    · split at e
      · next q2 =>
        split at e
        · next q =>
          cases e
          have hf := h2 q2
          refine ⟨by simp, ⟨r1, r2, fun f hf' => ⟨?_, (r3 f hf').2⟩, r4⟩, by simp, fun _ => ⟨hf, by simp, ?_, fun j hj => by simp at hj⟩, by simp, by simp⟩
          · have hff : f < rFc s.2.2 := hf'
            simp only [setKd, rKd, updN]
            rw [if_neg (by simp only [rFc] at hff ⊢; omega)]
            exact (r3 f hff).1
          · simp only [setKd, rKd, rFc, updN]; simp; omega
        · cases e
      · split at e
        · next q3 =>
          obtain ⟨g1, g2, g3, g4⟩ := h3 q3
          have hmv := mvOf_lt c
          split at e
          · next q =>
            split at e
            · next q4 =>
              cases e
              refine ⟨by simp, ⟨?_, r2, fun f hf => ?_, fun g hg => ⟨(r4 g hg).1, ?_⟩⟩, by simp, by simp, by simp, by simp⟩
              · show rFc s.2.2 + 1 ≤ 6; omega
              · have hf' : f < rFc s.2.2 + 1 := hf
                by_cases e1 : f = rFc s.2.2
                · subst e1
                  refine ⟨g3, fun j hj => ?_⟩
                  show (if rFc s.2.2 = rFc s.2.2 ∧ j = s.2.1 then mvOf c else rMv s.2.2 (rFc s.2.2) j) < 5 ∧ 0 < (if rFc s.2.2 = rFc s.2.2 ∧ j = s.2.1 then mvOf c else rMv s.2.2 (rFc s.2.2) j)
                  by_cases e2 : j = s.2.1
                  · rw [if_pos ⟨rfl, e2⟩]; omega
                  · rw [if_neg (fun z => e2 z.2)]; exact g4 j (by omega)
                · refine ⟨(r3 f (by omega)).1, fun j hj => ?_⟩
                  show (if f = rFc s.2.2 ∧ j = s.2.1 then mvOf c else rMv s.2.2 f j) < 5 ∧ 0 < (if f = rFc s.2.2 ∧ j = s.2.1 then mvOf c else rMv s.2.2 f j)
                  rw [if_neg (fun z => e1 z.1)]
                  exact (r3 f (by omega)).2 j hj
              · show rTl s.2.2 g < rFc s.2.2 + 1
                have := (r4 g hg).2; omega
            · next q4 =>
              cases e
              refine ⟨by simp, ⟨r1, r2, fun f hf => ⟨(r3 f hf).1, fun j hj => ?_⟩, r4⟩, by simp, fun _ => ⟨g1, by show s.2.1 + 1 < 3; omega, g3, fun j hj => ?_⟩, by simp, by simp⟩
              · have hff : f < rFc s.2.2 := hf
                show (if f = rFc s.2.2 ∧ j = s.2.1 then mvOf c else rMv s.2.2 f j) < 5 ∧ 0 < (if f = rFc s.2.2 ∧ j = s.2.1 then mvOf c else rMv s.2.2 f j)
                rw [if_neg (fun z => by omega)]
                exact (r3 f hf).2 j hj
              · show (if rFc s.2.2 = rFc s.2.2 ∧ j = s.2.1 then mvOf c else rMv s.2.2 (rFc s.2.2) j) < 5 ∧ 0 < (if rFc s.2.2 = rFc s.2.2 ∧ j = s.2.1 then mvOf c else rMv s.2.2 (rFc s.2.2) j)
                by_cases e2 : j = s.2.1
                · rw [if_pos ⟨rfl, e2⟩]; omega
                · rw [if_neg (fun z => e2 z.2)]; exact g4 j (by simp only at hj; omega)
          · cases e
        · split at e
          · next q4 =>
            obtain ⟨g1, g2⟩ := h4 q4
            split at e
            · next q =>
              cases e
              refine ⟨by simp, ⟨r1, r2, r3, fun g hg => ⟨(r4 g hg).1, ?_⟩⟩, by simp, by simp, by simp, fun _ => ⟨g1, ?_⟩⟩
              · have hgg : g < rGc s.2.2 := hg
                show updN (rTl s.2.2) (rGc s.2.2) (c - 48) g < rFc s.2.2
                unfold updN
                rw [if_neg (by omega)]
                exact (r4 g hg).2
              · show updN (rTl s.2.2) (rGc s.2.2) (c - 48) (rGc s.2.2) < rFc s.2.2
                unfold updN
                rw [if_pos rfl]; exact q.2
            · cases e
          · next n0 n1 n2 n3 n4 =>
            have q5 : s.1 = 5 := by omega
            obtain ⟨g1, g2⟩ := h5 q5
            split at e
            · next q =>
              cases e
              refine ⟨by simp, ⟨r1, ?_, r3, fun g hg => ?_⟩, by simp, by simp, by simp, by simp⟩
              · show rGc s.2.2 + 1 ≤ 5; omega
              · have hgg : g < rGc s.2.2 + 1 := hg
                show updN (rPr s.2.2) (rGc s.2.2) (c - 48) g ≤ 9 ∧ rTl s.2.2 g < rFc s.2.2
                unfold updN
                by_cases e1 : g = rGc s.2.2
                · rw [if_pos e1, e1]; exact ⟨q.2, g2⟩
                · rw [if_neg e1]; exact r4 g (by omega)
            · cases e
theorem DraftAt.kept {μ μ' : Mem} {R : Rl} (h : DraftAt μ R) (h2 : μ'.1 2 3 = μ.1 2 3) (h2' : μ'.1 2 4 = μ.1 2 4) (h4 : ∀ g, g < rGc R → μ'.1 4 g = μ.1 4 g ∧ μ'.1 5 g = μ.1 5 g) (hf : ∀ f, f < rFc R → μ'.1 (6 + 2 * f) 0 = μ.1 (6 + 2 * f) 0 ∧ ∀ j, j < 3 → μ'.1 (6 + 2 * f + 1) j = μ.1 (6 + 2 * f + 1) j) : DraftAt μ' R := by
  obtain ⟨d1, d2, d3, d4⟩ := h
  exact ⟨h2.trans d1, h2'.trans d2, fun f h => ⟨(hf f h).1.trans (d3 f h).1, fun j hj => ((hf f h).2 j hj).trans ((d3 f h).2 j hj)⟩, fun g hg => ⟨(h4 g hg).1.trans (d4 g hg).1, (h4 g hg).2.trans (d4 g hg).2⟩⟩
/-- Reader.moveOf -/
theorem c_X6_moveOf (G : qG) (l : Launch) {μ : Mem} {c : Nat} (hc : c < 256) : CtrI G l M_X6_moveOf [.int (nI c)] μ (fun r μ' => μ' = μ ∧ r = nI (mvOf c)) := by
  refine m_enterI [some (.int (nI c))] (by decide +kernel) rfl (Nat.le_of_ble_eq_true rfl) (fun X hE hR => ?_)
  have hR : qR X = rm_X6_moveOf := hR
  have hE : EI G X _ (some .int) := hE
  show Zm G X cX6_moveOf RX6 _ 0 [some (.int (nI c))] []
  refine z_iload_0 iX6_moveOf_0 ?_
  by_cases c1 : c = 108
  · subst c1
    refine z_lookup (off := 43) (tgt := 44) iX6_moveOf_1 (by decide) (by decide) (by decide) ?_
    refine z_iconst iX6_moveOf_44 kI_1 ?_
    exact m_iret hE iX6_moveOf_45 ⟨rfl, rfl⟩
  · by_cases c2 : c = 112
    · subst c2
      refine z_lookup (off := 45) (tgt := 46) iX6_moveOf_1 (by decide) (by decide) (by decide) ?_
      refine z_iconst iX6_moveOf_46 kI_2 ?_
      exact m_iret hE iX6_moveOf_47 ⟨rfl, rfl⟩
    · by_cases c3 : c = 102
      · subst c3
        refine z_lookup (off := 47) (tgt := 48) iX6_moveOf_1 (by decide) (by decide) (by decide) ?_
        refine z_iconst iX6_moveOf_48 kI_3 ?_
        exact m_iret hE iX6_moveOf_49 ⟨rfl, rfl⟩
      · by_cases c4 : c = 119
        · subst c4
          refine z_lookup (off := 49) (tgt := 50) iX6_moveOf_1 (by decide) (by decide) (by decide) ?_
          refine z_iconst iX6_moveOf_50 kI_4 ?_
          exact m_iret hE iX6_moveOf_51 ⟨rfl, rfl⟩
        · refine z_lookup (off := 51) (tgt := 52) iX6_moveOf_1 (by decide) ?_ (by decide) ?_
          · rw [nI_toInt (by omega)]
            simp [Op.lookupswitch.offset]
            omega
          · refine z_iconst iX6_moveOf_52 kI_0 ?_
            exact m_iret hE iX6_moveOf_53 ⟨rfl, by simp [mvOf, c1, c2, c3, c4]⟩
/-- a letter taken or not -/
def tkP (s : Rd) (c : Nat) (μ : Mem) : Int32 → Mem → Prop := fun r μ' => Fr dS μ μ' ∧ ((r = nI 1 ∧ ∃ s', rdStep s c = some s' ∧ RdAt μ' s') ∨ (r = nI 0 ∧ rdStep s c = none))
theorem c_X6_takesPart (G : qG) (l : Launch) {μ : Mem} {s : Rd} {c : Nat} (hO : RdOK s) (hs : RdAt μ s) (hp : s.1 = 1) (hc : c < 256) : CtrI G l M_X6_takesPart [.ref (qB G + 18), .int (nI c)] μ (tkP s c μ) := by
  refine m_enterI [some (.ref (qB G + 18)), some (.int (nI c))] (by decide +kernel) rfl (Nat.le_of_ble_eq_true rfl) (fun X hE hR => ?_)
  have hR : qR X = rm_X6_takesPart := hR
  have hE : EI G X _ (some .boolean) := hE
  show Zm G X cX6_takesPart RX6 _ 0 [some (.ref (qB G + 18)), some (.int (nI c))] []
  obtain ⟨e1, ⟨d1, d2, d3, d4⟩, e3, e5⟩ := id hs
  have h6 := hO.2.1.1
  have h5 := hO.2.1.2.1
  have go : ∀ pl : Nat, pl ≠ 3 → pl ≠ 5 → RdAt (mw μ 18 1 (nI pl)) (pl, s.2.1, s.2.2) := fun pl n3 n5 => ⟨mw_same _ _ _ _, hs.2.1.kept (mw_ne _ _ (Or.inl (by decide))) (mw_ne _ _ (Or.inl (by decide))) (fun g hg => ⟨mw_ne _ _ (Or.inl (by decide)), mw_ne _ _ (Or.inl (by decide))⟩) (fun f hf => ⟨mw_ne _ _ (Or.inl (by omega)), fun j hj => mw_ne _ _ (Or.inl (by omega))⟩), fun z => absurd z n3, fun z => absurd z n5⟩
  have second : ¬ (c = 70 ∧ rFc s.2.2 < 6) → Zm G X cX6_takesPart RX6 μ 25 [some (.ref (qB G + 18)), some (.int (nI c))] [] := by
    intro no
    have eN : ¬ (c = 71 ∧ rGc s.2.2 < 5 ∧ 0 < rFc s.2.2) → rdStep s c = none := fun no2 => by unfold rdStep; rw [if_neg (by omega), if_pos hp, if_neg no, if_neg no2]
    refine z_iload_1 iX6_takesPart_25 ?_
    refine z_bipush iX6_takesPart_26 kB_71 ?_
    refine z_icmp_neN iX6_takesPart_28 (by omega) (by omega) (fun q1 => ?_) (fun q1 => ?_)
    · refine z_iconst iX6_takesPart_59 kI_0 ?_
      exact m_zret hE iX6_takesPart_60 rfl ⟨Fr.rf, Or.inr ⟨rfl, eN (by omega)⟩⟩
    · refine z_aload_0 iX6_takesPart_31 ?_
      refine m_getR iX6_takesPart_32 g_6_9 rfl ?_
      refine m_getI iX6_takesPart_35 g_6_24 rfl ?_
      refine z_top (d2) ?_
      refine z_iconst iX6_takesPart_38 kI_5 ?_
      refine z_icmp_geN iX6_takesPart_39 (by omega) (by omega) (fun q2 => ?_) (fun q2 => ?_)
      · refine z_iconst iX6_takesPart_59 kI_0 ?_
        exact m_zret hE iX6_takesPart_60 rfl ⟨Fr.rf, Or.inr ⟨rfl, eN (by omega)⟩⟩
      · refine z_aload_0 iX6_takesPart_42 ?_
        refine m_getR iX6_takesPart_43 g_6_9 rfl ?_
        refine m_getI iX6_takesPart_46 g_6_19 rfl ?_
        refine z_top (d1) ?_
        refine z_if_leN iX6_takesPart_49 (by omega) (fun q3 => ?_) (fun q3 => ?_)
        · refine z_iconst iX6_takesPart_59 kI_0 ?_
          exact m_zret hE iX6_takesPart_60 rfl ⟨Fr.rf, Or.inr ⟨rfl, eN (by omega)⟩⟩
        · refine z_aload_0 iX6_takesPart_52 ?_
          refine z_iconst iX6_takesPart_53 kI_4 ?_
          refine m_putI iX6_takesPart_54 p_6_15 rfl ?_
          refine z_iconst iX6_takesPart_57 kI_1 ?_
          exact m_zret hE iX6_takesPart_58 rfl ⟨Fr.rf.mw _ _ (by decide), Or.inl ⟨rfl, _, by unfold rdStep; rw [if_neg (by omega), if_pos hp, if_neg no, if_pos ⟨q1, q2, q3⟩], go 4 (by decide) (by decide)⟩⟩
  refine z_iload_1 iX6_takesPart_0 ?_
  refine z_bipush iX6_takesPart_1 kB_70 ?_
  refine z_icmp_neN iX6_takesPart_3 (by omega) (by omega) (fun q1 => ?_) (fun q1 => ?_)
  · exact second (by omega)
  · refine z_aload_0 iX6_takesPart_6 ?_
    refine m_getR iX6_takesPart_7 g_6_9 rfl ?_
    refine m_getI iX6_takesPart_10 g_6_19 rfl ?_
    refine z_top (d1) ?_
    refine z_bipush iX6_takesPart_13 kB_6 ?_
    refine z_icmp_geN iX6_takesPart_15 (by omega) (by omega) (fun q2 => ?_) (fun q2 => ?_)
    · exact second (by omega)
    · refine z_aload_0 iX6_takesPart_18 ?_
      refine z_iconst iX6_takesPart_19 kI_2 ?_
      refine m_putI iX6_takesPart_20 p_6_15 rfl ?_
      refine z_iconst iX6_takesPart_23 kI_1 ?_
      exact m_zret hE iX6_takesPart_24 rfl ⟨Fr.rf.mw _ _ (by decide), Or.inl ⟨rfl, _, by unfold rdStep; rw [if_neg (by omega), if_pos hp, if_pos ⟨q1, q2⟩], go 2 (by decide) (by decide)⟩⟩

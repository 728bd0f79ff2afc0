/-! BOUTS: a fencer (kind, moves, feet); the state behind t passes (passes, moves, hits); how many passes there are -/
abbrev Fe : Type := Nat × (Nat → Nat) × Nat
abbrev Bs : Type := Nat × Nat × Nat × Nat
def fNext (F1 F2 : Fe) (p : Nat) (s : Bs) : Bs :=
  (fMove F1.1 F1.2.1 F1.2.2 p s.2.1, fMove F2.1 F2.2.1 F2.2.2 p s.1,
   s.2.2.1 + fHit (fMove F1.1 F1.2.1 F1.2.2 p s.2.1) (fMove F2.1 F2.2.1 F2.2.2 p s.1) F2.1,
   s.2.2.2 + fHit (fMove F2.1 F2.2.1 F2.2.2 p s.1) (fMove F1.1 F1.2.1 F1.2.2 p s.2.1) F1.1)
/-- moves and hits behind p passes -/
def fIt (F1 F2 : Fe) : Nat → Bs
  | 0 => (0, 0, 0, 0)
  | p + 1 => fNext F1 F2 p (fIt F1 F2 p)
def fLen (F1 F2 : Fe) (en : Nat) : Nat → Nat → Nat
  | 0, p => p
  | n + 1, p => if en ≤ (fIt F1 F2 p).2.2.1 ∨ en ≤ (fIt F1 F2 p).2.2.2 then p else fLen F1 F2 en n (p + 1)
theorem fIt_le (F1 F2 : Fe) : ∀ p, (fIt F1 F2 p).2.2.1 ≤ p ∧ (fIt F1 F2 p).2.2.2 ≤ p
  | 0 => ⟨Nat.le_refl _, Nat.le_refl _⟩
  | p + 1 => by
    have ih := fIt_le F1 F2 p
    have h1 := fHit_le (fMove F1.1 F1.2.1 F1.2.2 p (fIt F1 F2 p).2.1) (fMove F2.1 F2.2.1 F2.2.2 p (fIt F1 F2 p).1) F2.1
    have h2 := fHit_le (fMove F2.1 F2.2.1 F2.2.2 p (fIt F1 F2 p).1) (fMove F1.1 F1.2.1 F1.2.2 p (fIt F1 F2 p).2.1) F1.1
    constructor
    · show (fIt F1 F2 p).2.2.1 + _ ≤ p + 1
      omega
    · show (fIt F1 F2 p).2.2.2 + _ ≤ p + 1
      omega
theorem fLen_le (F1 F2 : Fe) (en : Nat) : ∀ n p, fLen F1 F2 en n p ≤ n + p
  | 0, p => by simp [fLen]
  | n + 1, p => by
    unfold fLen
    split
    · omega
    · have := fLen_le F1 F2 en n (p + 1); omega
/-- moves are 1 to 4 -/
def FeOK (F : Fe) : Prop := F.1 < 4 ∧ (∀ j, j < 3 → F.2.1 j < 5) ∧ F.2.2 < 3
theorem fMove_lt {F : Fe} (h : FeOK F) (p y : Nat) : fMove F.1 F.2.1 F.2.2 p y < 5 := by
  unfold fMove
  split
  · split
    · omega
    · split
      · omega
      · split <;> omega
  · exact h.2.1 _ (Nat.mod_lt _ (by decide))
theorem fIt_mv {F1 F2 : Fe} (h1 : FeOK F1) (h2 : FeOK F2) : ∀ p, (fIt F1 F2 p).1 < 5 ∧ (fIt F1 F2 p).2.1 < 5
  | 0 => ⟨by show 0 < 5; decide, by show 0 < 5; decide⟩
  | p + 1 => ⟨fMove_lt h1 _ _, fMove_lt h2 _ _⟩
/-- a fencer's cells hold F's kind and moves -/
def FenAt (μ : Mem) (a : Nat) (F : Fe) : Prop := μ.1 a 0 = nI F.1 ∧ ∀ j, j < 3 → μ.1 (a + 1) j = nI (F.2.1 j)
/-- Bout.hits -/
theorem c_X1_hits (G : qG) (l : Launch) {μ : Mem} {a b k : Nat} (ha : a < 1000) (hb : b < 1000) (hk : k < 1000) : CtrI G l M_X1_hits [.int (nI a), .int (nI b), .int (nI k)] μ (fun r μ' => μ' = μ ∧ r = nI (fHit a b k)) := by
  refine m_enterI [some (.int (nI a)), some (.int (nI b)), some (.int (nI k))] (by decide +kernel) rfl (Nat.le_of_ble_eq_true rfl) (fun X hE hR => ?_)
  have hR : qR X = rm_X1_hits := hR
  have hE : EI G X _ (some .int) := hE
  show Zm G X cX1_hits RX1 _ 0 [some (.int (nI a)), some (.int (nI b)), some (.int (nI k))] []
  refine z_iload_0 iX1_hits_0 ?_
  have eT : (nI a).toInt = (a : Int) := nI_toInt (by omega)
  by_cases a1 : a = 1
  · subst a1
    refine z_tableIn (off := 27) (tgt := 28) iX1_hits_1 (by decide) (by decide) (by decide) (by decide) ?_
    refine z_iload_1 iX1_hits_28 ?_
    refine z_iconst iX1_hits_29 kI_3 ?_
    refine z_icmp_eqN iX1_hits_30 (by omega) (by omega) (fun b3 => ?_) (fun b3 => ?_)
    · refine z_iconst iX1_hits_48 kI_1 ?_
      refine z_goto iX1_hits_49 ?_
      exact m_iret hE iX1_hits_53 ⟨rfl, by simp [fHit, b3]⟩
    · refine z_iload_1 iX1_hits_33 ?_
      refine z_iconst iX1_hits_34 kI_4 ?_
      refine z_icmp_eqN iX1_hits_35 (by omega) (by omega) (fun b4 => ?_) (fun b4 => ?_)
      · refine z_iconst iX1_hits_48 kI_1 ?_
        refine z_goto iX1_hits_49 ?_
        exact m_iret hE iX1_hits_53 ⟨rfl, by simp [fHit, b4]⟩
      · refine z_iload_1 iX1_hits_38 ?_
        refine z_iconst iX1_hits_39 kI_1 ?_
        refine z_icmp_neN iX1_hits_40 (by omega) (by omega) (fun b1 => ?_) (fun b1 => ?_)
        · refine z_iconst iX1_hits_52 kI_0 ?_
          exact m_iret hE iX1_hits_53 ⟨rfl, by simp [fHit, b3, b4, b1]⟩
        · refine z_iload_2 iX1_hits_43 ?_
          refine z_iconst iX1_hits_44 kI_1 ?_
          refine z_icmp_eqN iX1_hits_45 (by omega) (by omega) (fun k1 => ?_) (fun k1 => ?_)
          · refine z_iconst iX1_hits_52 kI_0 ?_
            exact m_iret hE iX1_hits_53 ⟨rfl, by simp [fHit, b1, k1]⟩
          · refine z_iconst iX1_hits_48 kI_1 ?_
            refine z_goto iX1_hits_49 ?_
            exact m_iret hE iX1_hits_53 ⟨rfl, by simp [fHit, b1, k1]⟩
  · by_cases a2 : a = 2
    · subst a2
      refine z_tableIn (off := 53) (tgt := 54) iX1_hits_1 (by decide) (by decide) (by decide) (by decide) ?_
      refine z_iload_1 iX1_hits_54 ?_
      refine z_iconst iX1_hits_55 kI_1 ?_
      refine z_icmp_neN iX1_hits_56 (by omega) (by omega) (fun b1 => ?_) (fun b1 => ?_)
      · refine z_iconst iX1_hits_63 kI_0 ?_
        exact m_iret hE iX1_hits_64 ⟨rfl, by simp [fHit, b1]⟩
      · refine z_iconst iX1_hits_59 kI_1 ?_
        refine z_goto iX1_hits_60 ?_
        exact m_iret hE iX1_hits_64 ⟨rfl, by simp [fHit, b1]⟩
    · by_cases a3 : a = 3
      · subst a3
        refine z_tableIn (off := 64) (tgt := 65) iX1_hits_1 (by decide) (by decide) (by decide) (by decide) ?_
        refine z_iload_1 iX1_hits_65 ?_
        refine z_iconst iX1_hits_66 kI_2 ?_
        refine z_icmp_neN iX1_hits_67 (by omega) (by omega) (fun b1 => ?_) (fun b1 => ?_)
        · refine z_iconst iX1_hits_74 kI_0 ?_
          exact m_iret hE iX1_hits_75 ⟨rfl, by simp [fHit, b1]⟩
        · refine z_iconst iX1_hits_70 kI_1 ?_
          refine z_goto iX1_hits_71 ?_
          exact m_iret hE iX1_hits_75 ⟨rfl, by simp [fHit, b1]⟩
      · refine z_tableOut (tgt := 76) iX1_hits_1 (by rw [eT]; omega) (by decide) ?_
        refine z_iconst iX1_hits_76 kI_0 ?_
        exact m_iret hE iX1_hits_77 ⟨rfl, by simp [fHit, a1, a2, a3]⟩
/-- Bout.lead -/
theorem c_X1_lead (G : qG) (l : Launch) {μ : Mem} : CtrI G l M_X1_lead [.ref (qB G + 35)] μ (fun r μ' => μ' = μ ∧ r = μ.1 35 0 - μ.1 35 1) := by
  refine m_enterI [some (.ref (qB G + 35))] (by decide +kernel) rfl (Nat.le_of_ble_eq_true rfl) (fun X hE hR => ?_)
  have hR : qR X = rm_X1_lead := hR
  have hE : EI G X _ (some .int) := hE
  show Zm G X cX1_lead RX1 _ 0 [some (.ref (qB G + 35))] []
  refine z_aload_0 iX1_lead_0 ?_
  refine m_getI iX1_lead_1 g_1_15 rfl ?_
  refine z_aload_0 iX1_lead_4 ?_
  refine m_getI iX1_lead_5 g_1_19 rfl ?_
  refine z_isub iX1_lead_8 ?_
  exact m_iret hE iX1_lead_9 ⟨rfl, rfl⟩
/-- what a bout leaves behind: hits, passes, the leads of its passes -/
def BoutAt (μ : Mem) (F1 F2 : Fe) (p : Nat) : Prop := μ.1 35 0 = nI (fIt F1 F2 p).2.2.1 ∧ μ.1 35 1 = nI (fIt F1 F2 p).2.2.2 ∧ μ.1 35 2 = nI p ∧ ∀ t, t < p → μ.1 36 t = nI (fHit (fIt F1 F2 (t + 1)).1 (fIt F1 F2 (t + 1)).2.1 F2.1) - nI (fHit (fIt F1 F2 (t + 1)).2.1 (fIt F1 F2 (t + 1)).1 F1.1)
/-- Bout.fight -/
theorem c_X1_fight (G : qG) (l : Launch) {μ : Mem} {a b most en : Nat} {F1 F2 : Fe} (ha : isFen a) (hb : isFen b) (h1 : FenAt μ a F1) (h2 : FenAt μ b F2) (o1 : FeOK F1) (o2 : FeOK F2) (hm : most ≤ 9) (hen : en < 2000000) (ha1 : a ∉ [35, 36]) (ha2 : a + 1 ∉ [35, 36]) (hb1 : b ∉ [35, 36]) (hb2 : b + 1 ∉ [35, 36]) :
    CtrV G l M_X1_fight [.ref (qB G + 35), .ref (qB G + a), .int (nI F1.2.2), .ref (qB G + b), .int (nI F2.2.2), .int (nI most), .int (nI en)] μ (fun μ' => Fr [35, 36] μ μ' ∧ BoutAt μ' F1 F2 (fLen F1 F2 en most 0)) := by
  refine m_enterV [some (.ref (qB G + 35)), some (.ref (qB G + a)), some (.int (nI F1.2.2)), some (.ref (qB G + b)), some (.int (nI F2.2.2)), some (.int (nI most)), some (.int (nI en)), none, none, none, none, none, none] (by decide +kernel) rfl (Nat.le_of_ble_eq_true rfl) rfl (fun X hE hR => ?_)
  have hR : qR X = rm_X1_fight := hR
  show Zm G X cX1_fight RX1 _ 0 [some (.ref (qB G + 35)), some (.ref (qB G + a)), some (.int (nI F1.2.2)), some (.ref (qB G + b)), some (.int (nI F2.2.2)), some (.int (nI most)), some (.int (nI en)), none, none, none, none, none, none] []
  have i35 : (35 : Nat) ∈ [35, 36] := by decide
  have i36 : (36 : Nat) ∈ [35, 36] := by decide
  have loop : ∀ (n p : Nat) (μ' : Mem) (w1 w2 w3 : Option Value), n + p = most → fLen F1 F2 en n p = fLen F1 F2 en most 0 → Fr [35, 36] μ μ' → BoutAt μ' F1 F2 p → Zm G X cX1_fight RX1 μ' 24 [some (.ref (qB G + 35)), some (.ref (qB G + a)), some (.int (nI F1.2.2)), some (.ref (qB G + b)), some (.int (nI F2.2.2)), some (.int (nI most)), some (.int (nI en)), some (.int (nI (fIt F1 F2 p).1)), some (.int (nI (fIt F1 F2 p).2.1)), some (.int (nI p)), w1, w2, w3] [] := by
    intro n
    induction n with
    | zero =>
      intro p μ' w1 w2 w3 hnp hl hF hB
      refine z_iload_9 iX1_fight_24 ?_
      refine z_iload_5 iX1_fight_26 ?_
      refine z_icmp_geN iX1_fight_28 (by omega) (by omega) (fun hq => ?_) (fun hq => ?_)
      · exact m_vret hE iX1_fight_162 ⟨hF, by rw [← hl]; exact hB⟩
      · omega
    | succ n ih =>
      intro p μ' w1 w2 w3 hnp hl hF hB
      obtain ⟨B1, B2, B3, B4⟩ := id hB
      have hle := fIt_le F1 F2 p
      have hmv := fIt_mv o1 o2 p
      refine z_iload_9 iX1_fight_24 ?_
      refine z_iload_5 iX1_fight_26 ?_
      refine z_icmp_geN iX1_fight_28 (by omega) (by omega) (fun hq => ?_) (fun hq => ?_)
      · omega
      · refine z_iload_9 iX1_fight_31 ?_
        refine z_bipush iX1_fight_33 kB_9 ?_
        refine z_icmp_geN iX1_fight_35 (by omega) (by omega) (fun hq9 => ?_) (fun hq9 => ?_)
        · omega
        · refine z_aload_0 iX1_fight_38 ?_
          refine m_getI iX1_fight_39 g_1_15 rfl ?_
          refine z_top B1 ?_
          refine z_iload_6 iX1_fight_42 ?_
          have hstop : (en ≤ (fIt F1 F2 p).2.2.1 ∨ en ≤ (fIt F1 F2 p).2.2.2) → BoutAt μ' F1 F2 (fLen F1 F2 en most 0) := fun q => by
            rw [← hl]
            unfold fLen
            rw [if_pos q]
            exact hB
          refine z_icmp_geN iX1_fight_44 (by omega) (by omega) (fun he1 => ?_) (fun he1 => ?_)
          · exact m_vret hE iX1_fight_162 ⟨hF, hstop (Or.inl he1)⟩
          · refine z_aload_0 iX1_fight_47 ?_
            refine m_getI iX1_fight_48 g_1_19 rfl ?_
            refine z_top B2 ?_
            refine z_iload_6 iX1_fight_51 ?_
            refine z_icmp_ltN iX1_fight_53 (by omega) (by omega) (fun he2 => ?_) (fun he2 => ?_)
            · have hk1 : μ'.1 a 0 = nI F1.1 := by rw [hF.1 a ha1]; exact h1.1
              have hk2 : μ'.1 b 0 = nI F2.1 := by rw [hF.1 b hb1]; exact h2.1
              refine z_aload_1 iX1_fight_59 ?_
              refine z_iload_9 iX1_fight_60 ?_
              refine z_iload_2 iX1_fight_62 ?_
              refine z_iload_8 iX1_fight_63 ?_
              refine m_callVi iX1_fight_65 l_1_25 f_X4_moveIn (c_X4_moveIn G _ ha hk1 o1.1 (fun j hj => by rw [hF.1 _ ha2]; exact h1.2 j hj) (by have := o1.2.2; omega) (by omega) (by omega)) ha.2.2.2 rfl rfl (Nat.le_of_ble_eq_true rfl) hR ft_X1_fight_X4_moveIn ⟨rfl, rfl⟩ ?_
              rintro r1 μ1 ⟨rfl, rfl⟩
              refine z_istore_10 iX1_fight_68 rfl ?_
              refine z_aload_3 iX1_fight_70 ?_
              refine z_iload_9 iX1_fight_71 ?_
              refine z_iload_4 iX1_fight_73 ?_
              refine z_iload_7 iX1_fight_75 ?_
              refine m_callVi iX1_fight_77 l_1_25 f_X4_moveIn (c_X4_moveIn G _ hb hk2 o2.1 (fun j hj => by rw [hF.1 _ hb2]; exact h2.2 j hj) (by have := o2.2.2; omega) (by omega) (by omega)) hb.2.2.2 rfl rfl (Nat.le_of_ble_eq_true rfl) hR ft_X1_fight_X4_moveIn ⟨rfl, rfl⟩ ?_
              rintro r2 μ1 ⟨rfl, rfl⟩
              have m1 := fMove_lt o1 p (fIt F1 F2 p).2.1
              have m2 := fMove_lt o2 p (fIt F1 F2 p).1
              have hj1 := fHit_le (fMove F1.1 F1.2.1 F1.2.2 p (fIt F1 F2 p).2.1) (fMove F2.1 F2.2.1 F2.2.2 p (fIt F1 F2 p).1) F2.1
              have hj2 := fHit_le (fMove F2.1 F2.2.1 F2.2.2 p (fIt F1 F2 p).1) (fMove F1.1 F1.2.1 F1.2.2 p (fIt F1 F2 p).2.1) F1.1
              refine z_istore_8 iX1_fight_80 rfl ?_
              refine z_iload_10 iX1_fight_82 ?_
              refine z_istore_7 iX1_fight_84 rfl ?_
              refine z_iload_7 iX1_fight_86 ?_
              refine z_iload_8 iX1_fight_88 ?_
              refine z_aload_3 iX1_fight_90 ?_
              refine m_getI iX1_fight_91 g_1_31 hb.1 ?_
              refine z_top hk2 ?_
              refine m_callSi iX1_fight_94 l_1_34 f_X1_hits (c_X1_hits G _ (by omega) (by omega) (by have := o2.1; omega)) rfl rfl (Nat.le_of_ble_eq_true rfl) hR ft_X1_fight_X1_hits ⟨rfl, rfl⟩ ?_
              rintro r3 μ1 ⟨rfl, rfl⟩
              refine z_istore_11 iX1_fight_97 rfl ?_
              refine z_iload_8 iX1_fight_99 ?_
              refine z_iload_7 iX1_fight_101 ?_
              refine z_aload_1 iX1_fight_103 ?_
              refine m_getI iX1_fight_104 g_1_31 ha.1 ?_
              refine z_top hk1 ?_
              refine m_callSi iX1_fight_107 l_1_34 f_X1_hits (c_X1_hits G _ (by omega) (by omega) (by have := o1.1; omega)) rfl rfl (Nat.le_of_ble_eq_true rfl) hR ft_X1_fight_X1_hits ⟨rfl, rfl⟩ ?_
              rintro r4 μ1 ⟨rfl, rfl⟩
              refine z_istore_12 iX1_fight_110 rfl ?_
              refine z_aload_0 iX1_fight_112 ?_
              refine z_dup iX1_fight_113 rfl ?_
              refine m_getI iX1_fight_114 g_1_15 rfl ?_
              refine z_top B1 ?_
              refine z_iload_11 iX1_fight_117 ?_
              refine z_iaddN iX1_fight_119 ?_
              refine m_putI iX1_fight_120 p_1_15 rfl ?_
              refine z_aload_0 iX1_fight_123 ?_
              refine z_dup iX1_fight_124 rfl ?_
              refine m_getI iX1_fight_125 g_1_19 rfl ?_
              refine z_top ((mw_ne _ _ (Or.inr (by decide))).trans B2) ?_
              refine z_iload_12 iX1_fight_128 ?_
              refine z_iaddN iX1_fight_130 ?_
              refine m_putI iX1_fight_131 p_1_19 rfl ?_
              refine z_aload_0 iX1_fight_134 ?_
              refine m_getR iX1_fight_135 g_1_9 rfl ?_
              refine z_iload_9 iX1_fight_138 ?_
              refine z_iload_11 iX1_fight_140 ?_
              refine z_iload_12 iX1_fight_142 ?_
              refine z_isub iX1_fight_144 ?_
              refine m_iastN iX1_fight_145 rfl (by omega) ?_
              refine z_aload_0 iX1_fight_146 ?_
              refine z_dup iX1_fight_147 rfl ?_
              refine m_getI iX1_fight_148 g_1_22 rfl ?_
              refine z_top ((mw_ne _ _ (Or.inl (by decide))).trans ((mw_ne _ _ (Or.inr (by decide))).trans ((mw_ne _ _ (Or.inr (by decide))).trans B3))) ?_
              refine z_iconst iX1_fight_151 kI_1 ?_
              refine z_iaddN iX1_fight_152 ?_
              refine m_putI iX1_fight_153 p_1_22 rfl ?_
              refine z_iinc_9N iX1_fight_156 rfl ?_
              refine z_goto iX1_fight_159 ?_
              have hF2 := (((hF.mw 0 (nI (fIt F1 F2 (p + 1)).2.2.1) i35).mw 1 (nI (fIt F1 F2 (p + 1)).2.2.2) i35).mw p (nI (fHit (fIt F1 F2 (p + 1)).1 (fIt F1 F2 (p + 1)).2.1 F2.1) - nI (fHit (fIt F1 F2 (p + 1)).2.1 (fIt F1 F2 (p + 1)).1 F1.1)) i36).mw 2 (nI (p + 1)) i35
              refine ih (p + 1) _ _ _ _ (by omega) ?_ hF2 ?_
              · rw [← hl]
                conv => rhs; unfold fLen
                rw [if_neg (by omega)]
              · refine ⟨?_, ?_, ?_, ?_⟩
                · rw [mw_ne _ _ (Or.inr (by decide)), mw_ne _ _ (Or.inl (by decide)), mw_ne _ _ (Or.inr (by decide)), mw_same]; rfl
                · rw [mw_ne _ _ (Or.inr (by decide)), mw_ne _ _ (Or.inl (by decide)), mw_same]; rfl
                · rw [mw_same]
                · intro t ht
                  rw [mw_ne _ _ (Or.inl (by decide))]
                  by_cases htp : t = p
                  · subst htp
                    rw [mw_same]; rfl
                  · rw [mw_ne _ _ (Or.inr htp), mw_ne _ _ (Or.inl (by decide)), mw_ne _ _ (Or.inl (by decide))]
                    exact B4 t (by omega)
            · refine z_goto iX1_fight_56 ?_
              exact m_vret hE iX1_fight_162 ⟨hF, hstop (Or.inr he2)⟩
  refine z_aload_0 iX1_fight_0 ?_
  refine z_iconst iX1_fight_1 kI_0 ?_
  refine m_putI iX1_fight_2 p_1_15 rfl ?_
  refine z_aload_0 iX1_fight_5 ?_
  refine z_iconst iX1_fight_6 kI_0 ?_
  refine m_putI iX1_fight_7 p_1_19 rfl ?_
  refine z_aload_0 iX1_fight_10 ?_
  refine z_iconst iX1_fight_11 kI_0 ?_
  refine m_putI iX1_fight_12 p_1_22 rfl ?_
  refine z_iconst iX1_fight_15 kI_0 ?_
  refine z_istore_7 iX1_fight_16 rfl ?_
  refine z_iconst iX1_fight_18 kI_0 ?_
  refine z_istore_8 iX1_fight_19 rfl ?_
  refine z_iconst iX1_fight_21 kI_0 ?_
  refine z_istore_9 iX1_fight_22 rfl ?_
  refine loop most 0 _ _ _ _ (by omega) rfl (((Fr.rf.mw 0 _ i35).mw 1 _ i35).mw 2 _ i35) ⟨?_, ?_, ?_, fun t ht => absurd ht (by omega)⟩
  · rw [mw_ne _ _ (Or.inr (by decide)), mw_ne _ _ (Or.inr (by decide)), mw_same]; rfl
  · rw [mw_ne _ _ (Or.inr (by decide)), mw_same]; rfl
  · rw [mw_same]

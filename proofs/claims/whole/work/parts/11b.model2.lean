/-! THE REFERENCE: bouts, sets, one level of the holdings -/
theorem fNextC_1 (F1 F2 : Fe) (p : Nat) (s : Bs) : fNextC F1 F2 1 p s = fNext F1 F2 p s := by unfold fNextC fNext; rw [Nat.one_mul, Nat.one_mul]
theorem MFen.fm {μ μ' : Mem} {i : Nat} {F : Fe} {L K : List Nat} (h : MFen μ i F) (hF : Fm L K μ μ') (h1 : 141 ∉ L) (h2 : 142 ∉ L) : MFen μ' i F := ⟨by rw [hF.1 141 h1 (by decide)]; exact h.1, fun j hj => by rw [hF.1 142 h2 (by decide)]; exact h.2 j hj⟩
theorem c_X11_fight (G : qG) (l : Launch) {μ : Mem} {i j : Nat} {F1 F2 : Fe} (hi : i < 7) (hj : j < 7) (h1 : MFen μ i F1) (h2 : MFen μ j F2) (o1 : FeOK F1) (o2 : FeOK F2) :
    CtrV G l M_X11_fight [.ref (qB G + 140), .int (nI i), .int (nI j), .int (nI F1.2.2), .int (nI F2.2.2)] μ (fun μ' => Fm [] kB μ μ' ∧ PassAt μ' (fIt F1 F2 (bLen F1 F2)) (bLen F1 F2)) := by
  refine m_enterV [some (.ref (qB G + 140)), some (.int (nI i)), some (.int (nI j)), some (.int (nI F1.2.2)), some (.int (nI F2.2.2))] (by decide +kernel) rfl (Nat.le_of_ble_eq_true rfl) rfl (fun X hE hR => ?_)
  have hR : qR X = rm_X11_fight := hR
  show Zm G X cX11_fight RX11 _ 0 [some (.ref (qB G + 140)), some (.int (nI i)), some (.int (nI j)), some (.int (nI F1.2.2)), some (.int (nI F2.2.2))] []
  have loop : ∀ (n p : Nat) (μ' : Mem), n + p = 9 → Fm [] kB μ μ' → PassAt μ' (fIt F1 F2 p) p → fLen F1 F2 3 n p = bLen F1 F2 → Zm G X cX11_fight RX11 μ' 4 [some (.ref (qB G + 140)), some (.int (nI i)), some (.int (nI j)), some (.int (nI F1.2.2)), some (.int (nI F2.2.2))] [] := by
    intro n
    induction n with
    | zero =>
      intro p μ' hp hF hP hl
      refine z_aload_0 iX11_fight_4 ?_
      refine m_getI iX11_fight_5 g_11_111 rfl ?_
      refine z_top (hP.2.2.2.2) ?_
      refine z_bipush iX11_fight_8 kB_9 ?_
      refine z_icmp_geN iX11_fight_10 (by omega) (by omega) (fun q => ?_) (fun q => ?_)
      · have e : p = bLen F1 F2 := hl
        rw [e] at hP
        exact m_vret hE iX11_fight_42 ⟨hF, hP⟩
      · omega
    | succ n ih =>
      intro p μ' hp hF hP hl
      have hle := fIt_le F1 F2 p
      have hmv := fIt_mv o1 o2 p
      have out : (3 ≤ (fIt F1 F2 p).2.2.1 ∨ 3 ≤ (fIt F1 F2 p).2.2.2) → Zm G X cX11_fight RX11 μ' 42 [some (.ref (qB G + 140)), some (.int (nI i)), some (.int (nI j)), some (.int (nI F1.2.2)), some (.int (nI F2.2.2))] [] := by
        intro z
        have e : p = bLen F1 F2 := by rw [← hl]; unfold fLen; rw [if_pos z]
        rw [e] at hP
        exact m_vret hE iX11_fight_42 ⟨hF, hP⟩
      refine z_aload_0 iX11_fight_4 ?_
      refine m_getI iX11_fight_5 g_11_111 rfl ?_
      refine z_top (hP.2.2.2.2) ?_
      refine z_bipush iX11_fight_8 kB_9 ?_
      refine z_icmp_geN iX11_fight_10 (by omega) (by omega) (fun q => ?_) (fun q => ?_)
      · omega
      · refine z_aload_0 iX11_fight_13 ?_
        refine m_getI iX11_fight_14 g_11_128 rfl ?_
        refine z_top (hP.2.2.1) ?_
        refine z_iconst iX11_fight_17 kI_3 ?_
        refine z_icmp_geN iX11_fight_18 (by omega) (by omega) (fun q2 => ?_) (fun q2 => ?_)
        · exact out (Or.inl q2)
        · refine z_aload_0 iX11_fight_21 ?_
          refine m_getI iX11_fight_22 g_11_131 rfl ?_
          refine z_top (hP.2.2.2.1) ?_
          refine z_iconst iX11_fight_25 kI_3 ?_
          refine z_icmp_geN iX11_fight_26 (by omega) (by omega) (fun q3 => ?_) (fun q3 => ?_)
          · exact out (Or.inr q3)
          · refine z_aload_0 iX11_fight_29 ?_
            refine z_iload_1 iX11_fight_30 ?_
            refine z_iload_2 iX11_fight_31 ?_
            refine z_iload_3 iX11_fight_32 ?_
            refine z_iload_4 iX11_fight_33 ?_
            refine z_iconst iX11_fight_35 kI_1 ?_
            refine m_callVv iX11_fight_36 l_11_137 f_X11_pass (c_X11_pass (c := 1) G _ hi hj (h1.fm hF (by decide) (by decide)) (h2.fm hF (by decide) (by decide)) o1 o2 hP (by omega) hmv.1 hmv.2 (by decide)) rfl rfl rfl (Nat.le_of_ble_eq_true rfl) hR ft_X11_fight_X11_pass ⟨rfl, rfl⟩ ?_
            rintro μ2 ⟨hF2, hP2⟩
            rw [fNextC_1] at hP2
            refine z_goto iX11_fight_39 ?_
            refine ih (p + 1) μ2 (by omega) (hF.trans hF2) hP2 ?_
            rw [← hl]
            conv => rhs; unfold fLen
            rw [if_neg (by omega)]
  refine z_aload_0 iX11_fight_0 ?_
  refine m_callVv iX11_fight_1 l_11_134 f_X11_begin (c_X11_begin G _) rfl rfl rfl (Nat.le_of_ble_eq_true rfl) hR ft_X11_fight_X11_begin ⟨rfl, rfl⟩ ?_
  rintro μ1 ⟨hF1, hP1⟩
  exact loop 9 0 μ1 (by decide) hF1 hP1 rfl
/-! the roll and the holdings in the reference -/
def MRoll (μ : Mem) (R : Rl) : Prop := μ.1 140 0 = nI (rFc R) ∧ μ.1 140 1 = nI (rGc R) ∧ (∀ f, f < rFc R → μ.1 141 f = nI (rKd R f) ∧ ∀ j, j < 3 → μ.1 142 (3 * f + j) = nI (rMv R f j)) ∧ ∀ g, g < rGc R → μ.1 143 g = nI (rTl R g) ∧ μ.1 144 g = nI (rPr R g)
def NowAt (μ : Mem) (a b : Nat) (R : Rl) (H : Hd) : Prop := (∀ g, g < rGc R → μ.1 a (b + g) = nI (hOw H g)) ∧ (∀ f, f < 6 → μ.1 a (b + 5 + f) = nI (hPu H f)) ∧ (∀ f, f < 6 → μ.1 a (b + 11 + f) = nI (hFe H f)) ∧ μ.1 a (b + 17) = nI (hDy H)
theorem MRoll.fm {μ μ' : Mem} {R : Rl} {L K : List Nat} (h : MRoll μ R) (hF : Fm L K μ μ') (hL : ∀ a, a ∈ L → a < 141 ∨ 144 < a) (hK : ∀ k, k ∈ K → 2 ≤ k) : MRoll μ' R := by
  obtain ⟨h1, h2, h3, h4⟩ := h
  have n : ∀ a, 141 ≤ a → a ≤ 144 → μ'.1 a = μ.1 a := fun a u v => hF.1 a (fun z => by have := hL a z; omega) (by omega)
  refine ⟨by rw [hF.2.1 0 (fun z => by have := hK 0 z; omega)]; exact h1, by rw [hF.2.1 1 (fun z => by have := hK 1 z; omega)]; exact h2, fun f hf => ?_, fun g hg => ?_⟩
  · rw [n 141 (by decide) (by decide), n 142 (by decide) (by decide)]; exact h3 f hf
  · rw [n 143 (by decide) (by decide), n 144 (by decide) (by decide)]; exact h4 g hg
theorem NowAt.row {μ μ' : Mem} {a b : Nat} {R : Rl} {H : Hd} (h : NowAt μ a b R H) (hR : RlOK R) (e : ∀ k, b ≤ k → k < b + 18 → μ'.1 a k = μ.1 a k) : NowAt μ' a b R H := by
  have h5 := hR.2.1
  exact ⟨fun g hg => by rw [e _ (by omega) (by omega)]; exact h.1 g hg, fun f hf => by rw [e _ (by omega) (by omega)]; exact h.2.1 f hf, fun f hf => by rw [e _ (by omega) (by omega)]; exact h.2.2.1 f hf, by rw [e _ (by omega) (by omega)]; exact h.2.2.2⟩
theorem NowAt.fm {μ μ' : Mem} {a b : Nat} {R : Rl} {H : Hd} {L K : List Nat} (h : NowAt μ a b R H) (hR : RlOK R) (hF : Fm L K μ μ') (ha : a ∉ L) (hn : a ≠ 140) : NowAt μ' a b R H := h.row hR (fun k _ _ => by rw [hF.1 a ha hn])
theorem MRoll.fen {μ : Mem} {R : Rl} (h : MRoll μ R) (H : Hd) {i : Nat} (hi : i < rFc R) : MFen μ i (feOf R H i) := h.2.2.1 i hi
theorem c_X11_fightOn (G : qG) (l : Launch) {μ : Mem} {lv i j : Nat} {R : Rl} {H : Hd} (hR0 : RlOK R) (hH0 : HdOK R H) (hR1 : MRoll μ R) (hlv : lv < 2) (hH1 : NowAt μ 145 (18 * lv) R H) (hi : i < rFc R) (hj : j < rFc R) :
    CtrV G l M_X11_fightOn [.ref (qB G + 140), .int (nI lv), .int (nI i), .int (nI j)] μ (fun μ' => Fm [] kB μ μ' ∧ PassAt μ' (fIt (feOf R H i) (feOf R H j) (bLen (feOf R H i) (feOf R H j))) (bLen (feOf R H i) (feOf R H j))) := by
  refine m_enterV [some (.ref (qB G + 140)), some (.int (nI lv)), some (.int (nI i)), some (.int (nI j))] (by decide +kernel) rfl (Nat.le_of_ble_eq_true rfl) rfl (fun X hE hR => ?_)
  have hR : qR X = rm_X11_fightOn := hR
  show Zm G X cX11_fightOn RX11 _ 0 [some (.ref (qB G + 140)), some (.int (nI lv)), some (.int (nI i)), some (.int (nI j))] []
  have h6 := hR0.1
  refine z_aload_0 iX11_fightOn_0 ?_
  refine z_iload_2 iX11_fightOn_1 ?_
  refine z_iload_3 iX11_fightOn_2 ?_
  refine z_aload_0 iX11_fightOn_3 ?_
  refine m_getR iX11_fightOn_4 g_11_22 rfl ?_
  refine z_bipush iX11_fightOn_7 kB_18 ?_
  refine z_iload_1 iX11_fightOn_9 ?_
  refine z_imulN iX11_fightOn_10 ?_
  refine z_bipush iX11_fightOn_11 kB_11 ?_
  refine z_iaddN iX11_fightOn_13 ?_
  refine z_iload_2 iX11_fightOn_14 ?_
  refine z_iaddN iX11_fightOn_15 ?_
  refine m_ialdN iX11_fightOn_16 rfl (by omega) ?_
  refine z_top (hH1.2.2.1 i (by omega)) ?_
  refine z_aload_0 iX11_fightOn_17 ?_
  refine m_getR iX11_fightOn_18 g_11_22 rfl ?_
  refine z_bipush iX11_fightOn_21 kB_18 ?_
  refine z_iload_1 iX11_fightOn_23 ?_
  refine z_imulN iX11_fightOn_24 ?_
  refine z_bipush iX11_fightOn_25 kB_11 ?_
  refine z_iaddN iX11_fightOn_27 ?_
  refine z_iload_3 iX11_fightOn_28 ?_
  refine z_iaddN iX11_fightOn_29 ?_
  refine m_ialdN iX11_fightOn_30 rfl (by omega) ?_
  refine z_top (hH1.2.2.1 j (by omega)) ?_
  refine m_callVv iX11_fightOn_31 l_11_141 f_X11_fight (c_X11_fight G _ (by omega) (by omega) (hR1.fen H hi) (hR1.fen H hj) (feOK hR0 hH0 hi) (feOK hR0 hH0 hj)) rfl rfl rfl (Nat.le_of_ble_eq_true rfl) hR ft_X11_fightOn_X11_fight ⟨rfl, rfl⟩ ?_
  rintro μ1 h
  exact m_vret hE iX11_fightOn_34 h
theorem fIt_sym (F : Fe) : ∀ p, (fIt F F p).1 = (fIt F F p).2.1 ∧ (fIt F F p).2.2.1 = (fIt F F p).2.2.2
  | 0 => ⟨rfl, rfl⟩
  | p + 1 => by
    have ih := fIt_sym F p
    simp only [fIt, fNext]
    rw [ih.1, ih.2]
    exact ⟨rfl, rfl⟩
theorem btB_self (R : Rl) (H : Hd) (i : Nat) : btB R H i i = false := by
  unfold btB bH1 bH2
  rw [(fIt_sym _ _).2]
  simp
theorem bH_lt (F1 F2 : Fe) : bH1 F1 F2 ≤ 9 ∧ bH2 F1 F2 ≤ 9 := by
  have h1 := fIt_le F1 F2 (bLen F1 F2)
  have h2 : bLen F1 F2 ≤ 9 := fLen_le F1 F2 3 9 0
  unfold bH1 bH2
  omega
theorem c_X11_beats (G : qG) (l : Launch) {μ : Mem} {lv i j : Nat} {R : Rl} {H : Hd} (hR0 : RlOK R) (hH0 : HdOK R H) (hR1 : MRoll μ R) (hlv : lv < 2) (hH1 : NowAt μ 145 (18 * lv) R H) (hi : i < rFc R) (hj : j < rFc R) :
    CtrI G l M_X11_beats [.ref (qB G + 140), .int (nI lv), .int (nI i), .int (nI j)] μ (fun r μ' => Fm [] kB μ μ' ∧ ((r = nI 1 ∧ btB R H i j = true) ∨ (r = nI 0 ∧ btB R H i j = false))) := by
  refine m_enterI [some (.ref (qB G + 140)), some (.int (nI lv)), some (.int (nI i)), some (.int (nI j))] (by decide +kernel) rfl (Nat.le_of_ble_eq_true rfl) (fun X hE hR => ?_)
  have hR : qR X = rm_X11_beats := hR
  have hE : EI G X _ (some .boolean) := hE
  show Zm G X cX11_beats RX11 _ 0 [some (.ref (qB G + 140)), some (.int (nI lv)), some (.int (nI i)), some (.int (nI j))] []
  have h6 := hR0.1
  refine z_iload_2 iX11_beats_0 ?_
  refine z_iload_3 iX11_beats_1 ?_
  refine z_icmp_neN iX11_beats_2 (by omega) (by omega) (fun q => ?_) (fun q => ?_)
  · refine z_aload_0 iX11_beats_7 ?_
    refine z_iload_1 iX11_beats_8 ?_
    refine z_iload_2 iX11_beats_9 ?_
    refine z_iload_3 iX11_beats_10 ?_
    refine m_callVv iX11_beats_11 l_11_145 f_X11_fightOn (c_X11_fightOn G _ hR0 hH0 hR1 hlv hH1 hi hj) rfl rfl rfl (Nat.le_of_ble_eq_true rfl) hR ft_X11_beats_X11_fightOn ⟨rfl, rfl⟩ ?_
    rintro μ1 ⟨hF, hP⟩
    have hl := bH_lt (feOf R H i) (feOf R H j)
    have e3 : μ1.1 140 15 = nI (bH1 (feOf R H i) (feOf R H j)) := hP.2.2.1
    have e4 : μ1.1 140 16 = nI (bH2 (feOf R H i) (feOf R H j)) := hP.2.2.2.1
    refine z_aload_0 iX11_beats_14 ?_
    refine m_getI iX11_beats_15 g_11_128 rfl ?_
    refine z_top (e3) ?_
    refine z_aload_0 iX11_beats_18 ?_
    refine m_getI iX11_beats_19 g_11_131 rfl ?_
    refine z_top (e4) ?_
    refine z_icmp_leN iX11_beats_22 (by omega) (by omega) (fun q2 => ?_) (fun q2 => ?_)
    · refine z_iconst iX11_beats_29 kI_0 ?_
      exact m_zret hE iX11_beats_30 rfl ⟨hF, Or.inr ⟨rfl, by unfold btB; simp; omega⟩⟩
    · refine z_iconst iX11_beats_25 kI_1 ?_
      refine z_goto iX11_beats_26 ?_
      exact m_zret hE iX11_beats_30 rfl ⟨hF, Or.inl ⟨rfl, by unfold btB; simp; omega⟩⟩
  · refine z_iconst iX11_beats_5 kI_0 ?_
    exact m_zret hE iX11_beats_6 rfl ⟨Fm.rf, Or.inr ⟨rfl, by rw [q]; exact btB_self R H j⟩⟩
theorem or_0 (x : Int32) : x ||| nI 0 = x := by
  rw [nI_0]; simp
theorem c_X11_beatenBy (G : qG) (l : Launch) {μ : Mem} {f : Nat} {R : Rl} {H : Hd} (hR0 : RlOK R) (hH0 : HdOK R H) (hR1 : MRoll μ R) (hH1 : NowAt μ 145 0 R H) (hf : f < rFc R) : CtrI G l M_X11_beatenBy [.ref (qB G + 140), .int (nI f)] μ (fun r μ' => Fm [] kB μ μ' ∧ r = nI (btS R H f)) := by
  refine m_enterI [some (.ref (qB G + 140)), some (.int (nI f)), none, none] (by decide +kernel) rfl (Nat.le_of_ble_eq_true rfl) (fun X hE hR => ?_)
  have hR : qR X = rm_X11_beatenBy := hR
  have hE : EI G X _ (some .int) := hE
  show Zm G X cX11_beatenBy RX11 _ 0 [some (.ref (qB G + 140)), some (.int (nI f)), none, none] []
  have h6 := hR0.1
  have loop : ∀ (n o : Nat) (μ' : Mem), n + o = rFc R → Fm [] kB μ μ' → Zm G X cX11_beatenBy RX11 μ' 4 [some (.ref (qB G + 140)), some (.int (nI f)), some (.int (nI (bset (btB R H f) o))), some (.int (nI o))] [] := by
    intro n
    induction n with
    | zero =>
      intro o μ' ho hF
      have hR2 := hR1.fm hF (by decide) (by decide)
      refine z_iload_3 iX11_beatenBy_4 ?_
      refine z_aload_0 iX11_beatenBy_5 ?_
      refine m_getI iX11_beatenBy_6 g_11_99 rfl ?_
      refine z_top (hR2.1) ?_
      refine z_icmp_geN iX11_beatenBy_9 (by omega) (by omega) (fun q => ?_) (fun q => ?_)
      · refine z_iload_2 iX11_beatenBy_38 ?_
        exact m_iret hE iX11_beatenBy_39 ⟨hF, by rw [show o = rFc R by omega]; rfl⟩
      · omega
    | succ n ih =>
      intro o μ' ho hF
      have hR2 := hR1.fm hF (by decide) (by decide)
      have hH2 := hH1.fm hR0 hF (by decide) (by decide)
      refine z_iload_3 iX11_beatenBy_4 ?_
      refine z_aload_0 iX11_beatenBy_5 ?_
      refine m_getI iX11_beatenBy_6 g_11_99 rfl ?_
      refine z_top (hR2.1) ?_
      refine z_icmp_geN iX11_beatenBy_9 (by omega) (by omega) (fun q => ?_) (fun q => ?_)
      · omega
      · refine z_iload_2 iX11_beatenBy_12 ?_
        refine z_aload_0 iX11_beatenBy_13 ?_
        refine z_iconst iX11_beatenBy_14 kI_0 ?_
        refine z_iload_1 iX11_beatenBy_15 ?_
        refine z_iload_3 iX11_beatenBy_16 ?_
        refine m_callVi iX11_beatenBy_17 l_11_149 f_X11_beats (c_X11_beats (lv := 0) G _ hR0 hH0 hR2 (by decide) hH2 hf (show o < rFc R by omega)) rfl rfl rfl (Nat.le_of_ble_eq_true rfl) hR ft_X11_beatenBy_X11_beats ⟨rfl, rfl⟩ ?_
        rintro r μ2 ⟨hF2, ⟨rfl, hb⟩ | ⟨rfl, hb⟩⟩
        · refine z_if_eq iX11_beatenBy_20 (fun q2 => ?_) (fun q2 => ?_)
          · exact absurd q2 nI10
          · refine z_iconst iX11_beatenBy_23 kI_1 ?_
            refine z_iload_3 iX11_beatenBy_24 ?_
            refine z_ishl iX11_beatenBy_25 ?_
            refine z_goto iX11_beatenBy_26 ?_
            refine z_ior iX11_beatenBy_30 ?_
            refine z_top (bset_or (by omega) hb) ?_
            refine z_istore_2 iX11_beatenBy_31 rfl ?_
            refine z_iinc_3N iX11_beatenBy_32 rfl ?_
            refine z_goto iX11_beatenBy_35 ?_
            exact ih (o + 1) μ2 (by omega) (hF.trans hF2)
        · refine z_if_eq iX11_beatenBy_20 (fun q2 => ?_) (fun q2 => ?_)
          · refine z_iconst iX11_beatenBy_29 kI_0 ?_
            refine z_ior iX11_beatenBy_30 ?_
            refine z_top (or_0 _) ?_
            refine z_istore_2 iX11_beatenBy_31 rfl ?_
            refine z_iinc_3N iX11_beatenBy_32 rfl ?_
            refine z_goto iX11_beatenBy_35 ?_
            rw [← bset_no hb]
            exact ih (o + 1) μ2 (by omega) (hF.trans hF2)
          · exact absurd nI00 q2
  refine z_iconst iX11_beatenBy_0 kI_0 ?_
  refine z_istore_2 iX11_beatenBy_1 rfl ?_
  refine z_iconst iX11_beatenBy_2 kI_0 ?_
  refine z_istore_3 iX11_beatenBy_3 rfl ?_
  exact loop (rFc R) 0 μ (by omega) Fm.rf
theorem c_X11_ownedBy (G : qG) (l : Launch) {μ : Mem} {f : Nat} {R : Rl} {H : Hd} (hR0 : RlOK R) (hH0 : HdOK R H) (hR1 : MRoll μ R) (hH1 : NowAt μ 145 0 R H) (hf : f < 1000) : CtrI G l M_X11_ownedBy [.ref (qB G + 140), .int (nI f)] μ (fun r μ' => μ' = μ ∧ r = nI (bset (fun g => decide (hOw H g = f)) (rGc R))) := by
  refine m_enterI [some (.ref (qB G + 140)), some (.int (nI f)), none, none] (by decide +kernel) rfl (Nat.le_of_ble_eq_true rfl) (fun X hE hR => ?_)
  have hR : qR X = rm_X11_ownedBy := hR
  have hE : EI G X _ (some .int) := hE
  show Zm G X cX11_ownedBy RX11 _ 0 [some (.ref (qB G + 140)), some (.int (nI f)), none, none] []
  have h6 := hR0.1
  have h5 := hR0.2.1
  have loop : ∀ (n o : Nat), n + o = rGc R → Zm G X cX11_ownedBy RX11 μ 4 [some (.ref (qB G + 140)), some (.int (nI f)), some (.int (nI (bset (fun g => decide (hOw H g = f)) o))), some (.int (nI o))] [] := by
    intro n
    induction n with
    | zero =>
      intro o ho
      refine z_iload_3 iX11_ownedBy_4 ?_
      refine z_aload_0 iX11_ownedBy_5 ?_
      refine m_getI iX11_ownedBy_6 g_11_102 rfl ?_
      refine z_top (hR1.2.1) ?_
      refine z_icmp_geN iX11_ownedBy_9 (by omega) (by omega) (fun q => ?_) (fun q => ?_)
      · refine z_iload_2 iX11_ownedBy_38 ?_
        exact m_iret hE iX11_ownedBy_39 ⟨rfl, by rw [show o = rGc R by omega]⟩
      · omega
    | succ n ih =>
      intro o ho
      have hg : o < rGc R := by omega
      have hl := hH0.1 o hg
      have hn : μ.1 145 o = nI (hOw H o) := by have := hH1.1 o hg; rw [Nat.zero_add] at this; exact this
      refine z_iload_3 iX11_ownedBy_4 ?_
      refine z_aload_0 iX11_ownedBy_5 ?_
      refine m_getI iX11_ownedBy_6 g_11_102 rfl ?_
      refine z_top (hR1.2.1) ?_
      refine z_icmp_geN iX11_ownedBy_9 (by omega) (by omega) (fun q => ?_) (fun q => ?_)
      · omega
      · refine z_iload_2 iX11_ownedBy_12 ?_
        refine z_aload_0 iX11_ownedBy_13 ?_
        refine m_getR iX11_ownedBy_14 g_11_22 rfl ?_
        refine z_iload_3 iX11_ownedBy_17 ?_
        refine m_ialdN iX11_ownedBy_18 rfl (by omega) ?_
        refine z_top (hn) ?_
        refine z_iload_1 iX11_ownedBy_19 ?_
        refine z_icmp_neN iX11_ownedBy_20 (by omega) (by omega) (fun q2 => ?_) (fun q2 => ?_)
        · refine z_iconst iX11_ownedBy_29 kI_0 ?_
          refine z_ior iX11_ownedBy_30 ?_
          refine z_top (or_0 _) ?_
          refine z_istore_2 iX11_ownedBy_31 rfl ?_
          refine z_iinc_3N iX11_ownedBy_32 rfl ?_
          refine z_goto iX11_ownedBy_35 ?_
          rw [← bset_no (p := fun g => decide (hOw H g = f)) (g := o) (by simp [q2])]
          exact ih (o + 1) (by omega)
        · refine z_iconst iX11_ownedBy_23 kI_1 ?_
          refine z_iload_3 iX11_ownedBy_24 ?_
          refine z_ishl iX11_ownedBy_25 ?_
          refine z_goto iX11_ownedBy_26 ?_
          refine z_ior iX11_ownedBy_30 ?_
          refine z_top (bset_or (p := fun g => decide (hOw H g = f)) (by omega) (by simp [q2])) ?_
          refine z_istore_2 iX11_ownedBy_31 rfl ?_
          refine z_iinc_3N iX11_ownedBy_32 rfl ?_
          refine z_goto iX11_ownedBy_35 ?_
          exact ih (o + 1) (by omega)
  refine z_iconst iX11_ownedBy_0 kI_0 ?_
  refine z_istore_2 iX11_ownedBy_1 rfl ?_
  refine z_iconst iX11_ownedBy_2 kI_0 ?_
  refine z_istore_3 iX11_ownedBy_3 rfl ?_
  exact loop (rGc R) 0 (by omega)
theorem c_X11_costFrom (G : qG) (l : Launch) {μ : Mem} {lv f o g : Nat} {R : Rl} {H : Hd} (hR0 : RlOK R) (hH0 : HdOK R H) (hR1 : MRoll μ R) (hlv : lv < 2) (hH1 : NowAt μ 145 (18 * lv) R H) (hf : f < rFc R) (ho : o < rFc R) (hg : g < rGc R) :
    CtrI G l M_X11_costFrom [.ref (qB G + 140), .int (nI lv), .int (nI f), .int (nI o), .int (nI g)] μ (fun r μ' => Fm [] kB μ μ' ∧ r = nI (costH R H f o g)) := by
  refine m_enterI [some (.ref (qB G + 140)), some (.int (nI lv)), some (.int (nI f)), some (.int (nI o)), some (.int (nI g)), none] (by decide +kernel) rfl (Nat.le_of_ble_eq_true rfl) (fun X hE hR => ?_)
  have hR : qR X = rm_X11_costFrom := hR
  have hE : EI G X _ (some .int) := hE
  show Zm G X cX11_costFrom RX11 _ 0 [some (.ref (qB G + 140)), some (.int (nI lv)), some (.int (nI f)), some (.int (nI o)), some (.int (nI g)), none] []
  have h5 := hR0.2.1
  refine z_aload_0 iX11_costFrom_0 ?_
  refine z_iload_1 iX11_costFrom_1 ?_
  refine z_iload_2 iX11_costFrom_2 ?_
  refine z_iload_3 iX11_costFrom_3 ?_
  refine m_callVv iX11_costFrom_4 l_11_145 f_X11_fightOn (c_X11_fightOn G _ hR0 hH0 hR1 hlv hH1 hf ho) rfl rfl rfl (Nat.le_of_ble_eq_true rfl) hR ft_X11_costFrom_X11_fightOn ⟨rfl, rfl⟩ ?_
  rintro μ1 ⟨hF, hP⟩
  have hl := bH_lt (feOf R H f) (feOf R H o)
  have hp := (hR0.2.2.2 g hg).1
  have e3 : μ1.1 140 15 = nI (bH1 (feOf R H f) (feOf R H o)) := hP.2.2.1
  have e4 : μ1.1 140 16 = nI (bH2 (feOf R H f) (feOf R H o)) := hP.2.2.2.1
  have hR2 := hR1.fm hF (by decide) (by decide)
  refine z_aload_0 iX11_costFrom_7 ?_
  refine m_getR iX11_costFrom_8 g_11_19 rfl ?_
  refine z_iload_4 iX11_costFrom_11 ?_
  refine m_ialdN iX11_costFrom_13 rfl (by omega) ?_
  refine z_top ((hR2.2.2.2 g hg).2) ?_
  refine z_aload_0 iX11_costFrom_14 ?_
  refine m_getI iX11_costFrom_15 g_11_131 rfl ?_
  refine z_top (e4) ?_
  refine z_iaddN iX11_costFrom_18 ?_
  refine z_aload_0 iX11_costFrom_19 ?_
  refine m_getI iX11_costFrom_20 g_11_128 rfl ?_
  refine z_top (e3) ?_
  by_cases hc : bH1 (feOf R H f) (feOf R H o) ≤ rPr R g + bH2 (feOf R H f) (feOf R H o)
  · refine z_isubN iX11_costFrom_23 hc ?_
    refine z_istore_5 iX11_costFrom_24 rfl ?_
    refine z_iload_5 iX11_costFrom_26 ?_
    refine z_if_ge iX11_costFrom_28 (fun q => ?_) (fun q => absurd (nI_pos' (by omega)) q)
    refine z_iload_5 iX11_costFrom_35 ?_
    exact m_iret hE iX11_costFrom_37 ⟨hF, rfl⟩
  · refine z_isub iX11_costFrom_23 ?_
    refine z_istore_5 iX11_costFrom_24 rfl ?_
    refine z_iload_5 iX11_costFrom_26 ?_
    refine z_if_ge iX11_costFrom_28 (fun q => ?_) (fun q => ?_)
    · exfalso
      have h := pk_sub_toInt (a := rPr R g + bH2 (feOf R H f) (feOf R H o)) (b := bH1 (feOf R H f) (feOf R H o)) (by omega) (by omega)
      rw [Int32.le_iff_toInt_le, h] at q
      have : (0 : Int32).toInt = 0 := by decide
      rw [this] at q
      omega
    · refine z_iconst iX11_costFrom_31 kI_0 ?_
      refine z_goto iX11_costFrom_32 ?_
      exact m_iret hE iX11_costFrom_37 ⟨hF, by unfold costH; congr 1; omega⟩
/-! one level is changed -/
def NF (lv : Nat) (μ μ' : Mem) : Prop := Fm [145] kB μ μ' ∧ ∀ k, k / 18 ≠ lv → μ'.1 145 k = μ.1 145 k
theorem NF.rf {lv : Nat} {μ : Mem} : NF lv μ μ := ⟨Fm.rf, fun _ _ => rfl⟩
theorem NF.trans {lv : Nat} {μ μ' μ'' : Mem} (h1 : NF lv μ μ') (h2 : NF lv μ' μ'') : NF lv μ μ'' := ⟨h1.1.trans h2.1, fun k hk => (h2.2 k hk).trans (h1.2 k hk)⟩
theorem NF.mw {lv : Nat} {μ μ' : Mem} (h : NF lv μ μ') (k : Nat) (x : Int32) (hk : k / 18 = lv) : NF lv μ (mw μ' 145 k x) := ⟨h.1.mw k x (by decide) (by decide), fun j hj => by rw [mw_ne _ _ (Or.inr (fun z => hj (by rw [z]; exact hk)))]; exact h.2 j hj⟩
theorem NF.of {lv : Nat} {μ μ' : Mem} (h : Fm [] kB μ μ') : NF lv μ μ' := ⟨h.mono (by decide) (fun _ z => z), fun k _ => by rw [h.1 145 (by decide) (by decide)]⟩
theorem NowAt.fe {μ : Mem} {a b f n : Nat} {R : Rl} {H : Hd} (h : NowAt μ a b R H) (hR : RlOK R) (hf : f < 6) : NowAt (mw μ a (b + 11 + f) (nI n)) a b R (hOw H, hPu H, updN (hFe H) f n, hDy H) := by
  have h5 := hR.2.1
  refine ⟨fun g hg => ?_, fun i hi => ?_, fun i hi => ?_, ?_⟩
  · rw [mw_ne _ _ (Or.inr (by omega))]; exact h.1 g hg
  · rw [mw_ne _ _ (Or.inr (by omega))]; exact h.2.1 i hi
  · show _ = nI (updN (hFe H) f n i)
    unfold updN
    by_cases e : i = f
    · rw [e, mw_same, if_pos rfl]
    · rw [mw_ne _ _ (Or.inr (by omega)), if_neg e]; exact h.2.2.1 i hi
  · rw [mw_ne _ _ (Or.inr (by omega))]; exact h.2.2.2
theorem NowAt.pu {μ : Mem} {a b f n : Nat} {R : Rl} {H : Hd} (h : NowAt μ a b R H) (hR : RlOK R) (hf : f < 6) : NowAt (mw μ a (b + 5 + f) (nI n)) a b R (hOw H, updN (hPu H) f n, hFe H, hDy H) := by
  have h5 := hR.2.1
  refine ⟨fun g hg => ?_, fun i hi => ?_, fun i hi => ?_, ?_⟩
  · rw [mw_ne _ _ (Or.inr (by omega))]; exact h.1 g hg
  · show _ = nI (updN (hPu H) f n i)
    unfold updN
    by_cases e : i = f
    · rw [e, mw_same, if_pos rfl]
    · rw [mw_ne _ _ (Or.inr (by omega)), if_neg e]; exact h.2.1 i hi
  · rw [mw_ne _ _ (Or.inr (by omega))]; exact h.2.2.1 i hi
  · rw [mw_ne _ _ (Or.inr (by omega))]; exact h.2.2.2
theorem NowAt.ow {μ : Mem} {a b g n : Nat} {R : Rl} {H : Hd} (h : NowAt μ a b R H) (hR : RlOK R) (hg : g < 5) : NowAt (mw μ a (b + g) (nI n)) a b R (updN (hOw H) g n, hPu H, hFe H, hDy H) := by
  have h5 := hR.2.1
  refine ⟨fun i hi => ?_, fun i hi => ?_, fun i hi => ?_, ?_⟩
  · show _ = nI (updN (hOw H) g n i)
    unfold updN
    by_cases e : i = g
    · rw [e, mw_same, if_pos rfl]
    · rw [mw_ne _ _ (Or.inr (by omega)), if_neg e]; exact h.1 i hi
  · rw [mw_ne _ _ (Or.inr (by omega))]; exact h.2.1 i hi
  · rw [mw_ne _ _ (Or.inr (by omega))]; exact h.2.2.1 i hi
  · rw [mw_ne _ _ (Or.inr (by omega))]; exact h.2.2.2
theorem NowAt.dy {μ : Mem} {a b : Nat} {R : Rl} {H : Hd} (h : NowAt μ a b R H) (hR : RlOK R) : NowAt (mw μ a (b + 17) (nI (hDy H + 1))) a b R (dayH H) := by
  have h5 := hR.2.1
  refine ⟨fun i hi => ?_, fun i hi => ?_, fun i hi => ?_, ?_⟩
  · rw [mw_ne _ _ (Or.inr (by omega))]; exact h.1 i hi
  · rw [mw_ne _ _ (Or.inr (by omega))]; exact h.2.1 i hi
  · rw [mw_ne _ _ (Or.inr (by omega))]; exact h.2.2.1 i hi
  · exact mw_same _ _ _ _
theorem c_X11_stepOn (G : qG) (l : Launch) {μ : Mem} {lv f : Nat} {R : Rl} {H : Hd} (hR0 : RlOK R) (hH0 : HdOK R H) (hR1 : MRoll μ R) (hlv : lv < 2) (hH1 : NowAt μ 145 (18 * lv) R H) (hf : f < rFc R) :
    CtrV G l M_X11_stepOn [.ref (qB G + 140), .int (nI lv), .int (nI f)] μ (fun μ' => NF lv μ μ' ∧ NowAt μ' 145 (18 * lv) R (stepH R H f)) := by
  refine m_enterV [some (.ref (qB G + 140)), some (.int (nI lv)), some (.int (nI f)), none] (by decide +kernel) rfl (Nat.le_of_ble_eq_true rfl) rfl (fun X hE hR => ?_)
  have hR : qR X = rm_X11_stepOn := hR
  show Zm G X cX11_stepOn RX11 _ 0 [some (.ref (qB G + 140)), some (.int (nI lv)), some (.int (nI f)), none] []
  have h6 := hR0.1
  have hk := (hR0.2.2.1 f hf).1
  have hfe := (hH0.2.1 f (by omega)).2
  refine z_bipush iX11_stepOn_0 kB_18 ?_
  refine z_iload_1 iX11_stepOn_2 ?_
  refine z_imulN iX11_stepOn_3 ?_
  refine z_bipush iX11_stepOn_4 kB_11 ?_
  refine z_iaddN iX11_stepOn_6 ?_
  refine z_iload_2 iX11_stepOn_7 ?_
  refine z_iaddN iX11_stepOn_8 ?_
  refine z_istore_3 iX11_stepOn_9 rfl ?_
  refine z_aload_0 iX11_stepOn_10 ?_
  refine m_getR iX11_stepOn_11 g_11_22 rfl ?_
  refine z_iload_3 iX11_stepOn_14 ?_
  refine z_aload_0 iX11_stepOn_15 ?_
  refine m_getR iX11_stepOn_16 g_11_7 rfl ?_
  refine z_iload_2 iX11_stepOn_19 ?_
  refine m_ialdN iX11_stepOn_20 rfl (by omega) ?_
  refine z_top ((hR1.2.2.1 f hf).1) ?_
  refine z_iconst iX11_stepOn_21 kI_3 ?_
  refine z_icmp_neN iX11_stepOn_22 (by omega) (by omega) (fun q => ?_) (fun q => ?_)
  · refine z_aload_0 iX11_stepOn_29 ?_
    refine m_getR iX11_stepOn_30 g_11_22 rfl ?_
    refine z_iload_3 iX11_stepOn_33 ?_
    refine m_ialdN iX11_stepOn_34 rfl (by omega) ?_
    refine z_top (hH1.2.2.1 f (by omega)) ?_
    refine z_iconst iX11_stepOn_35 kI_1 ?_
    refine z_iaddN iX11_stepOn_36 ?_
    refine z_iconst iX11_stepOn_37 kI_3 ?_
    refine z_iremN iX11_stepOn_38 (by omega) (by omega) (by omega) ?_
    refine m_iastN iX11_stepOn_39 rfl (by omega) ?_
    refine m_vret hE iX11_stepOn_40 ⟨NF.rf.mw _ _ (by omega), ?_⟩
    unfold stepH
    rw [if_neg q]
    exact hH1.fe hR0 (by omega)
  · refine z_iconst iX11_stepOn_25 kI_0 ?_
    refine z_goto iX11_stepOn_26 ?_
    refine m_iastN iX11_stepOn_39 rfl (by omega) ?_
    refine m_vret hE iX11_stepOn_40 ⟨NF.rf.mw _ _ (by omega), ?_⟩
    unfold stepH
    rw [if_pos q]
    have h0 := hH0.2.2.2 f hf q
    have := hH1.fe (f := f) (n := 0) hR0 (by omega)
    have e : updN (hFe H) f 0 = hFe H := by
      funext i
      unfold updN
      split
      · next z => rw [z, h0]
      · rfl
    rw [e] at this
    exact this
theorem c_X11_giveOn (G : qG) (l : Launch) {μ : Mem} {lv f n : Nat} {R : Rl} {H : Hd} (hR0 : RlOK R) (hpu : hPu H f ≤ 99) (hlv : lv < 2) (hH1 : NowAt μ 145 (18 * lv) R H) (hf : f < rFc R) (hn : n < 1000) :
    CtrV G l M_X11_giveOn [.ref (qB G + 140), .int (nI lv), .int (nI f), .int (nI n)] μ (fun μ' => NF lv μ μ' ∧ NowAt μ' 145 (18 * lv) R (fillH H f n)) := by
  refine m_enterV [some (.ref (qB G + 140)), some (.int (nI lv)), some (.int (nI f)), some (.int (nI n)), none] (by decide +kernel) rfl (Nat.le_of_ble_eq_true rfl) rfl (fun X hE hR => ?_)
  have hR : qR X = rm_X11_giveOn := hR
  show Zm G X cX11_giveOn RX11 _ 0 [some (.ref (qB G + 140)), some (.int (nI lv)), some (.int (nI f)), some (.int (nI n)), none] []
  have h6 := hR0.1
  have e5 := hH1.2.1 f (by omega)
  refine z_bipush iX11_giveOn_0 kB_18 ?_
  refine z_iload_1 iX11_giveOn_2 ?_
  refine z_imulN iX11_giveOn_3 ?_
  refine z_iconst iX11_giveOn_4 kI_5 ?_
  refine z_iaddN iX11_giveOn_5 ?_
  refine z_iload_2 iX11_giveOn_6 ?_
  refine z_iaddN iX11_giveOn_7 ?_
  refine z_istore_4 iX11_giveOn_8 rfl ?_
  refine z_aload_0 iX11_giveOn_10 ?_
  refine m_getR iX11_giveOn_11 g_11_22 rfl ?_
  refine z_iload_4 iX11_giveOn_14 ?_
  refine z_aload_0 iX11_giveOn_16 ?_
  refine m_getR iX11_giveOn_17 g_11_22 rfl ?_
  refine z_iload_4 iX11_giveOn_20 ?_
  refine m_ialdN iX11_giveOn_22 rfl (by omega) ?_
  refine z_top (e5) ?_
  refine z_iload_3 iX11_giveOn_23 ?_
  refine z_iaddN iX11_giveOn_24 ?_
  refine z_bipush iX11_giveOn_25 kB_99 ?_
  refine z_icmp_leN iX11_giveOn_27 (by omega) (by omega) (fun q => ?_) (fun q => ?_)
  · refine z_aload_0 iX11_giveOn_35 ?_
    refine m_getR iX11_giveOn_36 g_11_22 rfl ?_
    refine z_iload_4 iX11_giveOn_39 ?_
    refine m_ialdN iX11_giveOn_41 rfl (by omega) ?_
    refine z_top (e5) ?_
    refine z_iload_3 iX11_giveOn_42 ?_
    refine z_iaddN iX11_giveOn_43 ?_
    refine m_iastN iX11_giveOn_44 rfl (by omega) ?_
    refine m_vret hE iX11_giveOn_45 ⟨NF.rf.mw _ _ (by omega), ?_⟩
    unfold fillH
    rw [show min 99 (hPu H f + n) = hPu H f + n by omega]
    exact hH1.pu hR0 (by omega)
  · refine z_bipush iX11_giveOn_30 kB_99 ?_
    refine z_goto iX11_giveOn_32 ?_
    refine m_iastN iX11_giveOn_44 rfl (by omega) ?_
    refine m_vret hE iX11_giveOn_45 ⟨NF.rf.mw _ _ (by omega), ?_⟩
    unfold fillH
    rw [show min 99 (hPu H f + n) = 99 by omega]
    exact hH1.pu hR0 (by omega)
theorem MRoll.nf {μ μ' : Mem} {R : Rl} {lv : Nat} (h : MRoll μ R) (hF : NF lv μ μ') : MRoll μ' R := h.fm hF.1 (by decide) (by decide)
theorem c_X11_meetOn (G : qG) (l : Launch) {μ : Mem} {lv f g : Nat} {R : Rl} {H : Hd} (hR0 : RlOK R) (hH0 : HdOK R H) (hR1 : MRoll μ R) (hlv : lv < 2) (hH1 : NowAt μ 145 (18 * lv) R H) (hf : f < rFc R) (hg : g < rGc R) :
    CtrI G l M_X11_meetOn [.ref (qB G + 140), .int (nI lv), .int (nI f), .int (nI g)] μ (fun r μ' => NF lv μ μ' ∧ NowAt μ' 145 (18 * lv) R (meetH R H f g) ∧ ((r = nI 1 ∧ costH R H f (hOw H g) g ≤ hPu H f) ∨ (r = nI 0 ∧ ¬ costH R H f (hOw H g) g ≤ hPu H f))) := by
  refine m_enterI [some (.ref (qB G + 140)), some (.int (nI lv)), some (.int (nI f)), some (.int (nI g)), none, none, none, none] (by decide +kernel) rfl (Nat.le_of_ble_eq_true rfl) (fun X hE hR => ?_)
  have hR : qR X = rm_X11_meetOn := hR
  have hE : EI G X _ (some .boolean) := hE
  show Zm G X cX11_meetOn RX11 _ 0 [some (.ref (qB G + 140)), some (.int (nI lv)), some (.int (nI f)), some (.int (nI g)), none, none, none, none] []
  have h6 := hR0.1
  have h5 := hR0.2.1
  have ho := hH0.1 g hg
  have hpf := (hH0.2.1 f (by omega)).1
  have hcl : costH R H f (hOw H g) g < 1000 := by
    have hl := bH_lt (feOf R H f) (feOf R H (hOw H g))
    have hp := (hR0.2.2.2 g hg).1
    unfold costH
    omega
  have tail : ∀ (μ' : Mem) (w : Nat), w ≤ 1 → NF lv μ μ' → NowAt μ' 145 (18 * lv) R (buyH R H f g) → (w = 1 ↔ costH R H f (hOw H g) g ≤ hPu H f) → Zm G X cX11_meetOn RX11 μ' 91 [some (.ref (qB G + 140)), some (.int (nI lv)), some (.int (nI f)), some (.int (nI g)), some (.int (nI (18 * lv))), some (.int (nI (hOw H g))), some (.int (nI (costH R H f (hOw H g) g))), some (.int (nI w))] [] := by
    intro μ' w hw hF hN hiff
    have hB := buyOK hR0 hH0 hf hg
    refine z_aload_0 iX11_meetOn_91 ?_
    refine z_iload_1 iX11_meetOn_92 ?_
    refine z_iload_2 iX11_meetOn_93 ?_
    refine m_callVv iX11_meetOn_94 l_11_177 f_X11_stepOn (c_X11_stepOn G _ hR0 hB (hR1.nf hF) hlv hN hf) rfl rfl rfl (Nat.le_of_ble_eq_true rfl) hR ft_X11_meetOn_X11_stepOn ⟨rfl, rfl⟩ ?_
    rintro μ1 ⟨hF1, hN1⟩
    refine z_aload_0 iX11_meetOn_97 ?_
    refine z_iload_1 iX11_meetOn_98 ?_
    refine z_iload_5 iX11_meetOn_99 ?_
    refine m_callVv iX11_meetOn_101 l_11_177 f_X11_stepOn (c_X11_stepOn G _ hR0 (stepOK hR0 hB hf) (hR1.nf (hF.trans hF1)) hlv hN1 ho) rfl rfl rfl (Nat.le_of_ble_eq_true rfl) hR ft_X11_meetOn_X11_stepOn ⟨rfl, rfl⟩ ?_
    rintro μ2 ⟨hF2, hN2⟩
    refine z_aload_0 iX11_meetOn_104 ?_
    refine m_getR iX11_meetOn_105 g_11_22 rfl ?_
    refine z_iload_4 iX11_meetOn_108 ?_
    refine z_bipush iX11_meetOn_110 kB_17 ?_
    refine z_iaddN iX11_meetOn_112 ?_
    refine z_dup2 iX11_meetOn_113 rfl rfl ?_
    refine m_ialdN iX11_meetOn_114 rfl (by omega) ?_
    refine z_top (hN2.2.2.2) ?_
    refine z_iconst iX11_meetOn_115 kI_1 ?_
    refine z_iaddN iX11_meetOn_116 ?_
    refine m_iastN iX11_meetOn_117 rfl (by omega) ?_
    refine z_iload_7 iX11_meetOn_118 ?_
    have hpost : NF lv μ (mw μ2 145 (18 * lv + 17) (nI (hDy (stepH R (stepH R (buyH R H f g) f) (hOw H g)) + 1))) ∧ NowAt (mw μ2 145 (18 * lv + 17) (nI (hDy (stepH R (stepH R (buyH R H f g) f) (hOw H g)) + 1))) 145 (18 * lv) R (meetH R H f g) := ⟨((hF.trans hF1).trans hF2).mw _ _ (by omega), hN2.dy hR0⟩
    rcases (show w = 1 ∨ w = 0 by omega) with rfl | rfl
    · exact m_zret hE iX11_meetOn_120 rfl ⟨hpost.1, hpost.2, Or.inl ⟨rfl, hiff.mp rfl⟩⟩
    · exact m_zret hE iX11_meetOn_120 rfl ⟨hpost.1, hpost.2, Or.inr ⟨rfl, fun z => by have := hiff.mpr z; omega⟩⟩
  refine z_bipush iX11_meetOn_0 kB_18 ?_
  refine z_iload_1 iX11_meetOn_2 ?_
  refine z_imulN iX11_meetOn_3 ?_
  refine z_istore_4 iX11_meetOn_4 rfl ?_
  refine z_aload_0 iX11_meetOn_6 ?_
  refine m_getR iX11_meetOn_7 g_11_22 rfl ?_
  refine z_iload_4 iX11_meetOn_10 ?_
  refine z_iload_3 iX11_meetOn_12 ?_
  refine z_iaddN iX11_meetOn_13 ?_
  refine m_ialdN iX11_meetOn_14 rfl (by omega) ?_
  refine z_top (hH1.1 g hg) ?_
  refine z_istore_5 iX11_meetOn_15 rfl ?_
  refine z_aload_0 iX11_meetOn_17 ?_
  refine z_iload_1 iX11_meetOn_18 ?_
  refine z_iload_2 iX11_meetOn_19 ?_
  refine z_iload_5 iX11_meetOn_20 ?_
  refine z_iload_3 iX11_meetOn_22 ?_
  refine m_callVi iX11_meetOn_23 l_11_168 f_X11_costFrom (c_X11_costFrom G _ hR0 hH0 hR1 hlv hH1 hf ho hg) rfl rfl rfl (Nat.le_of_ble_eq_true rfl) hR ft_X11_meetOn_X11_costFrom ⟨rfl, rfl⟩ ?_
  rintro r μ1 ⟨hF1, rfl⟩
  have hN1 := hH1.fm hR0 hF1 (by decide) (by decide)
  refine z_istore_6 iX11_meetOn_26 rfl ?_
  refine z_aload_0 iX11_meetOn_28 ?_
  refine m_getR iX11_meetOn_29 g_11_22 rfl ?_
  refine z_iload_4 iX11_meetOn_32 ?_
  refine z_iconst iX11_meetOn_34 kI_5 ?_
  refine z_iaddN iX11_meetOn_35 ?_
  refine z_iload_2 iX11_meetOn_36 ?_
  refine z_iaddN iX11_meetOn_37 ?_
  refine m_ialdN iX11_meetOn_38 rfl (by omega) ?_
  refine z_top (hN1.2.1 f (by omega)) ?_
  refine z_iload_6 iX11_meetOn_39 ?_
  refine z_icmp_ltN iX11_meetOn_41 (by omega) (by omega) (fun q => ?_) (fun q => ?_)
  · refine z_iconst iX11_meetOn_48 kI_0 ?_
    refine z_istore_7 iX11_meetOn_49 rfl ?_
    refine z_iload_7 iX11_meetOn_51 ?_
    refine z_if_eqN iX11_meetOn_53 (by omega) (fun q2 => ?_) (fun q2 => ?_)
    · refine tail μ1 0 (by decide) (NF.of hF1) ?_ (by omega)
      unfold buyH
      rw [if_neg (by omega)]
      exact hN1
    · exact absurd rfl q2
  · refine z_iconst iX11_meetOn_44 kI_1 ?_
    refine z_goto iX11_meetOn_45 ?_
    refine z_istore_7 iX11_meetOn_49 rfl ?_
    refine z_iload_7 iX11_meetOn_51 ?_
    refine z_if_eqN iX11_meetOn_53 (by omega) (fun q2 => ?_) (fun q2 => ?_)
    · exact absurd q2 (by decide)
    · refine z_aload_0 iX11_meetOn_56 ?_
      refine m_getR iX11_meetOn_57 g_11_22 rfl ?_
      refine z_iload_4 iX11_meetOn_60 ?_
      refine z_iconst iX11_meetOn_62 kI_5 ?_
      refine z_iaddN iX11_meetOn_63 ?_
      refine z_iload_2 iX11_meetOn_64 ?_
      refine z_iaddN iX11_meetOn_65 ?_
      refine z_dup2 iX11_meetOn_66 rfl rfl ?_
      refine m_ialdN iX11_meetOn_67 rfl (by omega) ?_
      refine z_top (hN1.2.1 f (by omega)) ?_
      refine z_iload_6 iX11_meetOn_68 ?_
      refine z_isubN iX11_meetOn_70 (by omega) ?_
      refine m_iastN iX11_meetOn_71 rfl (by omega) ?_
      refine z_aload_0 iX11_meetOn_72 ?_
      refine z_iload_1 iX11_meetOn_73 ?_
      refine z_iload_5 iX11_meetOn_74 ?_
      refine z_iload_6 iX11_meetOn_76 ?_
      have hN2 : NowAt (mw μ1 145 (18 * lv + 5 + f) (nI (hPu H f - costH R H f (hOw H g) g))) 145 (18 * lv) R (hOw H, updN (hPu H) f (hPu H f - costH R H f (hOw H g) g), hFe H, hDy H) := hN1.pu hR0 (by omega)
      have hF2 : NF lv μ (mw μ1 145 (18 * lv + 5 + f) (nI (hPu H f - costH R H f (hOw H g) g))) := (NF.of hF1).mw _ _ (by omega)
      have hpo : updN (hPu H) f (hPu H f - costH R H f (hOw H g) g) (hOw H g) ≤ 99 := by
        unfold updN
        split
        · omega
        · exact (hH0.2.1 _ (by omega)).1
      refine m_callVv iX11_meetOn_78 l_11_174 f_X11_giveOn (c_X11_giveOn (H := (hOw H, updN (hPu H) f (hPu H f - costH R H f (hOw H g) g), hFe H, hDy H)) G _ hR0 hpo hlv hN2 ho hcl) rfl rfl rfl (Nat.le_of_ble_eq_true rfl) hR ft_X11_meetOn_X11_giveOn ⟨rfl, rfl⟩ ?_
      rintro μ3 ⟨hF3, hN3⟩
      refine z_aload_0 iX11_meetOn_81 ?_
      refine m_getR iX11_meetOn_82 g_11_22 rfl ?_
      refine z_iload_4 iX11_meetOn_85 ?_
      refine z_iload_3 iX11_meetOn_87 ?_
      refine z_iaddN iX11_meetOn_88 ?_
      refine z_iload_2 iX11_meetOn_89 ?_
      refine m_iastN iX11_meetOn_90 rfl (by omega) ?_
      refine tail _ 1 (by decide) ((hF2.trans hF3).mw _ _ (by omega)) ?_ (by omega)
      have := hN3.ow (g := g) (n := f) hR0 (by omega)
      unfold buyH
      rw [if_pos (by omega)]
      exact this

/-! copies of holdings, fencers, rolls; the row of acts -/
/-- Holdings.copyFrom -/
theorem c_X5_copyFrom (G : qG) (l : Launch) {μ : Mem} {a b : Nat} (ha : isHold a) (hb : isHold b) (hne : a + 3 < b ∨ b + 3 < a) : CtrV G l M_X5_copyFrom [.ref (qB G + a), .ref (qB G + b)] μ (fun μ' => Fr [a, a + 1, a + 2, a + 3] μ μ' ∧ ∀ R H, HoldAt μ b R H → RlOK R → HoldAt μ' a R H) := by
  refine m_enterV [some (.ref (qB G + a)), some (.ref (qB G + b))] (by decide +kernel) rfl (Nat.le_of_ble_eq_true rfl) rfl (fun X hE hR => ?_)
  have hR : qR X = rm_X5_copyFrom := hR
  show Zm G X cX5_copyFrom RX5 _ 0 [some (.ref (qB G + a)), some (.ref (qB G + b))] []
  obtain ⟨f0, f1, f2, f3, a1, a2, a3, -⟩ := ha
  obtain ⟨g0, g1, g2, g3, b1, b2, b3, -⟩ := hb
  refine z_aload_1 iX5_copyFrom_0 ?_
  refine m_getR iX5_copyFrom_1 g_5_9 g0 ?_
  refine z_iconst iX5_copyFrom_4 kI_0 ?_
  refine z_aload_0 iX5_copyFrom_5 ?_
  refine m_getR iX5_copyFrom_6 g_5_9 f0 ?_
  refine z_iconst iX5_copyFrom_9 kI_0 ?_
  refine z_iconst iX5_copyFrom_10 kI_5 ?_
  refine m_copy iX5_copyFrom_11 l_5_26 b1 a1 (by decide) (by decide) (by omega) hR ⟨Nat.le_of_ble_eq_true rfl, by decide +kernel⟩ ?_
  refine z_aload_1 iX5_copyFrom_14 ?_
  refine m_getR iX5_copyFrom_15 g_5_15 g1 ?_
  refine z_iconst iX5_copyFrom_18 kI_0 ?_
  refine z_aload_0 iX5_copyFrom_19 ?_
  refine m_getR iX5_copyFrom_20 g_5_15 f1 ?_
  refine z_iconst iX5_copyFrom_23 kI_0 ?_
  refine z_bipush iX5_copyFrom_24 kB_6 ?_
  refine m_copy iX5_copyFrom_26 l_5_26 b2 a2 (by decide) (by decide) (by omega) hR ⟨Nat.le_of_ble_eq_true rfl, by decide +kernel⟩ ?_
  refine z_aload_1 iX5_copyFrom_29 ?_
  refine m_getR iX5_copyFrom_30 g_5_18 g2 ?_
  refine z_iconst iX5_copyFrom_33 kI_0 ?_
  refine z_aload_0 iX5_copyFrom_34 ?_
  refine m_getR iX5_copyFrom_35 g_5_18 f2 ?_
  refine z_iconst iX5_copyFrom_38 kI_0 ?_
  refine z_bipush iX5_copyFrom_39 kB_6 ?_
  refine m_copy iX5_copyFrom_41 l_5_26 b3 a3 (by decide) (by decide) (by omega) hR ⟨Nat.le_of_ble_eq_true rfl, by decide +kernel⟩ ?_
  refine z_aload_0 iX5_copyFrom_44 ?_
  refine z_aload_1 iX5_copyFrom_45 ?_
  refine m_getI iX5_copyFrom_46 g_5_36 g3 ?_
  refine m_putI iX5_copyFrom_49 p_5_36 f3 ?_
  refine m_vret hE iX5_copyFrom_52 ⟨(((Fr.rf.mwR _ (by simp)).mwR _ (by simp)).mwR _ (by simp)).mw _ _ (by simp), ?_⟩
  rintro R H ⟨h1, h2, h3, h4⟩ hR
  have h5 := hR.2.1
  refine ⟨fun g hg => ?_, fun f hf => ?_, fun f hf => ?_, ?_⟩
  · rw [mw_ne _ _ (Or.inl (by omega)), mwR_other _ _ (by omega), mwR_other _ _ (by omega), mwR_row]
    rw [if_pos (by omega)]; exact h1 g hg
  · rw [mw_ne _ _ (Or.inl (by omega)), mwR_other _ _ (by omega), mwR_row]
    rw [if_pos hf, mwR_other _ _ (by omega)]; exact h2 f hf
  · rw [mw_ne _ _ (Or.inl (by omega)), mwR_row]
    rw [if_pos hf, mwR_other _ _ (by omega), mwR_other _ _ (by omega)]; exact h3 f hf
  · rw [mw_same, mwR_other _ _ (by omega), mwR_other _ _ (by omega), mwR_other _ _ (by omega)]; exact h4
/-- the holdings when the bazaar is made anew -/
def openH (R : Rl) : Hd := (rTl R, fun f => if f < rFc R then 9 else 0, fun _ => 0, 0)
theorem openOK {R : Rl} (hR : RlOK R) : HdOK R (openH R) := by
  refine ⟨fun g hg => (hR.2.2.2 g hg).2, fun f hf => ⟨?_, by simp [hFe, openH]⟩, fun f h1 h2 => ⟨?_, rfl⟩, fun f _ _ => rfl⟩
  · simp only [hPu, openH]; split <;> omega
  · simp only [hPu, openH]; rw [if_neg (by omega)]
/-- Holdings.openFor, of the salle's holdings, for the roll -/
theorem c_X5_openFor (G : qG) (l : Launch) {μ : Mem} {R : Rl} (hR0 : RlOK R) (hR1 : RollAt μ R) : CtrV G l M_X5_openFor [.ref (qB G + 38), .ref (qB G + 19)] μ (fun μ' => Fr [38, 39, 40, 41] μ μ' ∧ HoldAt μ' 38 R (openH R)) := by
  refine m_enterV [some (.ref (qB G + 38)), some (.ref (qB G + 19)), none] (by decide +kernel) rfl (Nat.le_of_ble_eq_true rfl) rfl (fun X hE hR => ?_)
  have hR : qR X = rm_X5_openFor := hR
  show Zm G X cX5_openFor RX5 _ 0 [some (.ref (qB G + 38)), some (.ref (qB G + 19)), none] []
  have h6 := hR0.1
  have h5 := hR0.2.1
  have loop : ∀ (n k : Nat) (μ1 : Mem), n + k = 6 → Fr [38, 39, 40, 41] μ μ1 → (∀ g, g < rGc R → μ1.1 39 g = nI (rTl R g)) → (∀ f, f < k → μ1.1 40 f = nI (if f < rFc R then 9 else 0) ∧ μ1.1 41 f = nI 0) → Zm G X cX5_openFor RX5 μ1 16 [some (.ref (qB G + 38)), some (.ref (qB G + 19)), some (.int (nI k))] [] := by
    intro n
    induction n with
    | zero =>
      intro k μ1 hk hF h1 h2
      refine z_iload_2 iX5_openFor_16 ?_
      refine z_bipush iX5_openFor_17 kB_6 ?_
      refine z_icmp_geN iX5_openFor_19 (by omega) (by omega) (fun q => ?_) (fun q => ?_)
      · refine z_aload_0 iX5_openFor_55 ?_
        refine z_iconst iX5_openFor_56 kI_0 ?_
        refine m_putI iX5_openFor_57 p_5_36 rfl ?_
        refine m_vret hE iX5_openFor_60 ⟨hF.mw _ _ (by decide), fun g hg => ?_, fun f hf => ?_, fun f hf => ?_, ?_⟩
        · rw [mw_ne _ _ (Or.inl (by decide))]; exact h1 g hg
        · rw [mw_ne _ _ (Or.inl (by decide))]; exact (h2 f (by omega)).1
        · rw [mw_ne _ _ (Or.inl (by decide))]; exact (h2 f (by omega)).2
        · rw [mw_same]; rfl
      · omega
    | succ n ih =>
      intro k μ1 hk hF h1 h2
      have hR2 : RollAt μ1 R := hR1.fr hR0 hF (by decide)
      have fin : ∀ v : Nat, v = (if k < rFc R then 9 else 0) → Zm G X cX5_openFor RX5 μ1 41 [some (.ref (qB G + 38)), some (.ref (qB G + 19)), some (.int (nI k))] [.int (nI v), .int (nI k), .ref (qB G + 40)] := by
        intro v hv
        refine m_iastN iX5_openFor_41 rfl (by omega) ?_
        refine z_aload_0 iX5_openFor_42 ?_
        refine m_getR iX5_openFor_43 g_5_18 rfl ?_
        refine z_iload_2 iX5_openFor_46 ?_
        refine z_iconst iX5_openFor_47 kI_0 ?_
        refine m_iastN iX5_openFor_48 rfl (by omega) ?_
        refine z_iinc_2N iX5_openFor_49 rfl ?_
        refine z_goto iX5_openFor_52 ?_
        refine ih (k + 1) _ (by omega) ((hF.mw _ _ (by decide)).mw _ _ (by decide)) ?_ ?_
        · intro g hg
          rw [mw_ne _ _ (Or.inl (by decide)), mw_ne _ _ (Or.inl (by decide))]; exact h1 g hg
        · intro f hf
          by_cases e : f = k
          · subst e
            exact ⟨by rw [mw_ne _ _ (Or.inl (by decide)), mw_same, hv], by rw [mw_same]⟩
          · exact ⟨by rw [mw_ne _ _ (Or.inl (by decide)), mw_ne _ _ (Or.inr e)]; exact (h2 f (by omega)).1, by rw [mw_ne _ _ (Or.inr e), mw_ne _ _ (Or.inl (by decide))]; exact (h2 f (by omega)).2⟩
      refine z_iload_2 iX5_openFor_16 ?_
      refine z_bipush iX5_openFor_17 kB_6 ?_
      refine z_icmp_geN iX5_openFor_19 (by omega) (by omega) (fun q => ?_) (fun q => ?_)
      · omega
      · refine z_aload_0 iX5_openFor_22 ?_
        refine m_getR iX5_openFor_23 g_5_15 rfl ?_
        refine z_iload_2 iX5_openFor_26 ?_
        refine z_iload_2 iX5_openFor_27 ?_
        refine z_aload_1 iX5_openFor_28 ?_
        refine m_getI iX5_openFor_29 g_5_32 rfl ?_
        refine z_top (hR2.1) ?_
        refine z_icmp_geN iX5_openFor_32 (by omega) (by omega) (fun q2 => ?_) (fun q2 => ?_)
        · refine z_iconst iX5_openFor_40 kI_0 ?_
          exact fin 0 (by rw [if_neg (by omega)])
        · refine z_bipush iX5_openFor_35 kB_9 ?_
          refine z_goto iX5_openFor_37 ?_
          exact fin 9 (by rw [if_pos q2])
  refine z_aload_1 iX5_openFor_0 ?_
  refine m_getR iX5_openFor_1 g_5_21 rfl ?_
  refine z_iconst iX5_openFor_4 kI_0 ?_
  refine z_aload_0 iX5_openFor_5 ?_
  refine m_getR iX5_openFor_6 g_5_9 rfl ?_
  refine z_iconst iX5_openFor_9 kI_0 ?_
  refine z_iconst iX5_openFor_10 kI_5 ?_
  refine m_copy iX5_openFor_11 l_5_26 rfl rfl (by decide) (by decide) (by decide) hR ⟨Nat.le_of_ble_eq_true rfl, by decide +kernel⟩ ?_
  refine z_iconst iX5_openFor_14 kI_0 ?_
  refine z_istore_2 iX5_openFor_15 rfl ?_
  refine loop 6 0 _ (by omega) (Fr.rf.mwR _ (by decide)) ?_ (fun f hf => absurd hf (by omega))
  intro g hg
  rw [mwR_row, if_pos (by omega)]
  exact (hR1.2.2.2 g hg).2
/-- Fencer.movesAsFigures -/
theorem c_X4_movesAsFigures (G : qG) (l : Launch) {μ : Mem} {a : Nat} {mv : Nat → Nat} (ha : isFen a) (hm : ∀ j, j < 3 → μ.1 (a + 1) j = nI (mv j)) : CtrI G l M_X4_movesAsFigures [.ref (qB G + a)] μ (fun r μ' => μ' = μ ∧ r = nI (100 * mv 0 + 10 * mv 1 + mv 2)) := by
  refine m_enterI [some (.ref (qB G + a))] (by decide +kernel) rfl (Nat.le_of_ble_eq_true rfl) (fun X hE hR => ?_)
  have hR : qR X = rm_X4_movesAsFigures := hR
  have hE : EI G X _ (some .int) := hE
  show Zm G X cX4_movesAsFigures RX4 _ 0 [some (.ref (qB G + a))] []
  obtain ⟨hF0, hF1, hF2, -⟩ := ha
  refine z_bipush iX4_movesAsFigures_0 kB_100 ?_
  refine z_aload_0 iX4_movesAsFigures_2 ?_
  refine m_getR iX4_movesAsFigures_3 g_4_9 hF1 ?_
  refine z_iconst iX4_movesAsFigures_6 kI_0 ?_
  refine m_ialdN iX4_movesAsFigures_7 hF2 (by decide) ?_
  refine z_top (hm 0 (by decide)) ?_
  refine z_imulN iX4_movesAsFigures_8 ?_
  refine z_bipush iX4_movesAsFigures_9 kB_10 ?_
  refine z_aload_0 iX4_movesAsFigures_11 ?_
  refine m_getR iX4_movesAsFigures_12 g_4_9 hF1 ?_
  refine z_iconst iX4_movesAsFigures_15 kI_1 ?_
  refine m_ialdN iX4_movesAsFigures_16 hF2 (by decide) ?_
  refine z_top (hm 1 (by decide)) ?_
  refine z_imulN iX4_movesAsFigures_17 ?_
  refine z_iaddN iX4_movesAsFigures_18 ?_
  refine z_aload_0 iX4_movesAsFigures_19 ?_
  refine m_getR iX4_movesAsFigures_20 g_4_9 hF1 ?_
  refine z_iconst iX4_movesAsFigures_23 kI_2 ?_
  refine m_ialdN iX4_movesAsFigures_24 hF2 (by decide) ?_
  refine z_top (hm 2 (by decide)) ?_
  refine z_iaddN iX4_movesAsFigures_25 ?_
  exact m_iret hE iX4_movesAsFigures_26 ⟨rfl, rfl⟩
/-- Fencer.copyFrom: fencer f of the draft into fencer f of the roll -/
theorem c_X4_copyFrom (G : qG) (l : Launch) {μ : Mem} {a b : Nat} (ha : isFen a) (hb : isFen b) (hne : a + 1 < b ∨ b + 1 < a) : CtrV G l M_X4_copyFrom [.ref (qB G + a), .ref (qB G + b)] μ (fun μ' => Fr [a, a + 1] μ μ' ∧ μ'.1 a 0 = μ.1 b 0 ∧ ∀ j, j < 3 → μ'.1 (a + 1) j = μ.1 (b + 1) j) := by
  refine m_enterV [some (.ref (qB G + a)), some (.ref (qB G + b))] (by decide +kernel) rfl (Nat.le_of_ble_eq_true rfl) rfl (fun X hE hR => ?_)
  have hR : qR X = rm_X4_copyFrom := hR
  show Zm G X cX4_copyFrom RX4 _ 0 [some (.ref (qB G + a)), some (.ref (qB G + b))] []
  obtain ⟨f0, f1, f2, -⟩ := ha
  obtain ⟨g0, g1, g2, -⟩ := hb
  refine z_aload_0 iX4_copyFrom_0 ?_
  refine z_aload_1 iX4_copyFrom_1 ?_
  refine m_getI iX4_copyFrom_2 g_4_15 g0 ?_
  refine m_putI iX4_copyFrom_5 p_4_15 f0 ?_
  refine z_aload_1 iX4_copyFrom_8 ?_
  refine m_getR iX4_copyFrom_9 g_4_9 g1 ?_
  refine z_iconst iX4_copyFrom_12 kI_0 ?_
  refine z_aload_0 iX4_copyFrom_13 ?_
  refine m_getR iX4_copyFrom_14 g_4_9 f1 ?_
  refine z_iconst iX4_copyFrom_17 kI_0 ?_
  refine z_iconst iX4_copyFrom_18 kI_3 ?_
  refine m_copy iX4_copyFrom_19 l_4_19 g2 f2 (by decide) (by decide) (by omega) hR ⟨Nat.le_of_ble_eq_true rfl, by decide +kernel⟩ ?_
  refine m_vret hE iX4_copyFrom_22 ⟨(Fr.rf.mw _ _ (by simp)).mwR _ (by simp), ?_, fun j hj => ?_⟩
  · rw [mwR_other _ _ (by omega), mw_same]
  · rw [mwR_row, if_pos hj, mw_ne _ _ (Or.inl (by omega))]
/-- the draft's cells hold a roll -/
def DraftAt (μ : Mem) (R : Rl) : Prop := μ.1 2 3 = nI (rFc R) ∧ μ.1 2 4 = nI (rGc R) ∧ (∀ f, f < rFc R → μ.1 (6 + 2 * f) 0 = nI (rKd R f) ∧ ∀ j, j < 3 → μ.1 (6 + 2 * f + 1) j = nI (rMv R f j)) ∧ ∀ g, g < rGc R → μ.1 4 g = nI (rPr R g) ∧ μ.1 5 g = nI (rTl R g)
/-- the roll's rows -/
def rS : List Nat := [19, 21, 22, 23, 24, 25, 26, 27, 28, 29, 30, 31, 32, 33, 34]
/-- Roll.copyFrom: the draft becomes the roll -/
theorem c_X7_copyFrom (G : qG) (l : Launch) {μ : Mem} {R : Rl} (hR0 : RlOK R) (hD : DraftAt μ R) : CtrV G l M_X7_copyFrom [.ref (qB G + 19), .ref (qB G + 2)] μ (fun μ' => Fr rS μ μ' ∧ RollAt μ' R) := by
  refine m_enterV [some (.ref (qB G + 19)), some (.ref (qB G + 2)), none] (by decide +kernel) rfl (Nat.le_of_ble_eq_true rfl) rfl (fun X hE hR => ?_)
  have hR : qR X = rm_X7_copyFrom := hR
  show Zm G X cX7_copyFrom RX7 _ 0 [some (.ref (qB G + 19)), some (.ref (qB G + 2)), none] []
  have h6 := hR0.1
  have h5 := hR0.2.1
  obtain ⟨d1, d2, d3, d4⟩ := hD
  have rin : ∀ a, 23 ≤ a → a < 35 → a ∈ rS := fun a h1 h2 => by unfold rS; simp; omega
  have rout : ∀ a, a < 19 → a ∉ rS := fun a h1 => by unfold rS; simp; omega
  have loop : ∀ (n k : Nat) (μ1 : Mem), n + k = 6 → Fr rS μ μ1 → μ1.1 19 3 = nI (rFc R) → μ1.1 19 4 = nI (rGc R) → (∀ f, f < k → f < rFc R → μ1.1 (23 + 2 * f) 0 = nI (rKd R f) ∧ ∀ j, j < 3 → μ1.1 (23 + 2 * f + 1) j = nI (rMv R f j)) → Zm G X cX7_copyFrom RX7 μ1 18 [some (.ref (qB G + 19)), some (.ref (qB G + 2)), some (.int (nI k))] [] := by
    intro n
    induction n with
    | zero =>
      intro k μ1 hk hF e1 e2 h2
      refine z_iload_2 iX7_copyFrom_18 ?_
      refine z_bipush iX7_copyFrom_19 kB_6 ?_
      refine z_icmp_geN iX7_copyFrom_21 (by omega) (by omega) (fun q => ?_) (fun q => ?_)
      · refine z_aload_1 iX7_copyFrom_45 ?_
        refine m_getR iX7_copyFrom_46 g_7_17 rfl ?_
        refine z_iconst iX7_copyFrom_49 kI_0 ?_
        refine z_aload_0 iX7_copyFrom_50 ?_
        refine m_getR iX7_copyFrom_51 g_7_17 rfl ?_
        refine z_iconst iX7_copyFrom_54 kI_0 ?_
        refine z_iconst iX7_copyFrom_55 kI_5 ?_
        refine m_copy iX7_copyFrom_56 l_7_36 rfl rfl (by decide) (by decide) (by decide) hR ⟨Nat.le_of_ble_eq_true rfl, by decide +kernel⟩ ?_
        refine z_aload_1 iX7_copyFrom_59 ?_
        refine m_getR iX7_copyFrom_60 g_7_21 rfl ?_
        refine z_iconst iX7_copyFrom_63 kI_0 ?_
        refine z_aload_0 iX7_copyFrom_64 ?_
        refine m_getR iX7_copyFrom_65 g_7_21 rfl ?_
        refine z_iconst iX7_copyFrom_68 kI_0 ?_
        refine z_iconst iX7_copyFrom_69 kI_5 ?_
        refine m_copy iX7_copyFrom_70 l_7_36 rfl rfl (by decide) (by decide) (by decide) hR ⟨Nat.le_of_ble_eq_true rfl, by decide +kernel⟩ ?_
        refine m_vret hE iX7_copyFrom_73 ⟨(hF.mwR _ (by decide)).mwR _ (by decide), ?_, ?_, fun f hf => ⟨?_, fun j hj => ?_⟩, fun g hg => ⟨?_, ?_⟩⟩
        · rw [mwR_other _ _ (by decide), mwR_other _ _ (by decide)]; exact e1
        · rw [mwR_other _ _ (by decide), mwR_other _ _ (by decide)]; exact e2
        · rw [mwR_other _ _ (by omega), mwR_other _ _ (by omega)]; exact (h2 f (by omega) hf).1
        · rw [mwR_other _ _ (by omega), mwR_other _ _ (by omega)]; exact (h2 f (by omega) hf).2 j hj
        · rw [mwR_other _ _ (by decide), mwR_row, if_pos (by omega), hF.1 4 (rout 4 (by omega))]; exact (d4 g hg).1
        · rw [mwR_row, if_pos (by omega), mwR_other _ _ (by decide), hF.1 5 (rout 5 (by omega))]; exact (d4 g hg).2
      · omega
    | succ n ih =>
      intro k μ1 hk hF e1 e2 h2
      refine z_iload_2 iX7_copyFrom_18 ?_
      refine z_bipush iX7_copyFrom_19 kB_6 ?_
      refine z_icmp_geN iX7_copyFrom_21 (by omega) (by omega) (fun q => ?_) (fun q => ?_)
      · omega
      · refine z_aload_0 iX7_copyFrom_24 ?_
        refine m_getR iX7_copyFrom_25 g_7_11 rfl ?_
        refine z_iload_2 iX7_copyFrom_28 ?_
        refine m_aaldN iX7_copyFrom_29 rfl (by decide) (by omega) ?_
        refine z_aload_1 iX7_copyFrom_30 ?_
        refine m_getR iX7_copyFrom_31 g_7_11 rfl ?_
        refine z_iload_2 iX7_copyFrom_34 ?_
        refine m_aaldN iX7_copyFrom_35 rfl (by decide) (by omega) ?_
        refine m_callVv iX7_copyFrom_36 l_7_32 f_X4_copyFrom (c_X4_copyFrom G _ (isFen_roll k (by omega)) (isFen_draft k (by omega)) (by omega)) (isFen_roll k (by omega)).2.2.2 rfl rfl (Nat.le_of_ble_eq_true rfl) hR ft_X7_copyFrom_X4_copyFrom ⟨rfl, rfl⟩ ?_
        rintro μ2 ⟨hF2, q1, q2⟩
        refine z_iinc_2N iX7_copyFrom_39 rfl ?_
        refine z_goto iX7_copyFrom_42 ?_
        refine ih (k + 1) μ2 (by omega) (hF.trans (hF2.mono (fun a h => by simp at h; exact rin a (by omega) (by omega)))) (by rw [hF2.1 19 (by simp; omega)]; exact e1) (by rw [hF2.1 19 (by simp; omega)]; exact e2) ?_
        intro f hf hfc
        by_cases e : f = k
        · subst e
          exact ⟨by rw [q1, hF.1 _ (rout _ (by omega))]; exact (d3 f hfc).1, fun j hj => by rw [q2 j hj, hF.1 _ (rout _ (by omega))]; exact (d3 f hfc).2 j hj⟩
        · exact ⟨by rw [hF2.1 _ (by simp; omega)]; exact (h2 f (by omega) hfc).1, fun j hj => by rw [hF2.1 _ (by simp; omega)]; exact (h2 f (by omega) hfc).2 j hj⟩
  refine z_aload_0 iX7_copyFrom_0 ?_
  refine z_aload_1 iX7_copyFrom_1 ?_
  refine m_getI iX7_copyFrom_2 g_7_25 rfl ?_
  refine z_top (d1) ?_
  refine m_putI iX7_copyFrom_5 p_7_25 rfl ?_
  refine z_aload_0 iX7_copyFrom_8 ?_
  refine z_aload_1 iX7_copyFrom_9 ?_
  refine m_getI iX7_copyFrom_10 g_7_29 rfl ?_
  refine z_top ((mw_ne _ _ (Or.inl (by decide))).trans d2) ?_
  refine m_putI iX7_copyFrom_13 p_7_29 rfl ?_
  refine z_iconst iX7_copyFrom_16 kI_0 ?_
  refine z_istore_2 iX7_copyFrom_17 rfl ?_
  refine loop 6 0 _ (by omega) ((Fr.rf.mw _ _ (by decide)).mw _ _ (by decide)) ?_ ?_ (fun f hf => absurd hf (by omega))
  · rw [mw_ne _ _ (Or.inr (by decide)), mw_same]
  · rw [mw_same]

/-! THE REFERENCE: slots, counts -/
theorem c_X11_keep (G : qG) (l : Launch) {μ : Mem} {S : St} (h : MAt μ S) (hS : SOK S) (x : Int32) : CtrI G l M_X11_keep [.ref (qB G + 140), .int x] μ (PM μ (aKeep S x)) := by
  refine m_enterI [some (.ref (qB G + 140)), some (.int x), none] (by decide +kernel) rfl (Nat.le_of_ble_eq_true rfl) (fun X hE hR => ?_)
  have hR : qR X = rm_X11_keep := hR
  have hE : EI G X _ (some .int) := hE
  show Zm G X cX11_keep RX11 _ 0 [some (.ref (qB G + 140)), some (.int x), none] []
  obtain ⟨h1, h2, h3, h4, h5, h6, h7, h8⟩ := id h
  have hQ := hS.2.2.1
  refine z_iload_1 iX11_keep_0 ?_
  refine z_i2l iX11_keep_1 ?_
  refine z_lconst (x := 0) iX11_keep_2 rfl ?_
  refine z_lconst (x := 1) iX11_keep_3 rfl ?_
  refine m_callSi iX11_keep_4 l_11_61 f_X11_in (c_inI G _ x (y := 0) (z := 1) (a := 0) (b := 1) rfl rfl) rfl rfl (Nat.le_of_ble_eq_true rfl) hR ft_X11_keep_X11_in ⟨rfl, rfl⟩ ?_
  rintro r μ1 ⟨rfl, hr⟩
  rcases q_cases x 2 (by decide) with ⟨s, hs, rfl, ei⟩ | ⟨ei, hx, -⟩
  · rw [nI_toInt (by omega)] at hr
    rcases hr with ⟨rfl, hr⟩ | ⟨rfl, hr⟩
    · refine z_if_ne iX11_keep_7 (fun q => ?_) (fun q => ?_)
      · have e : aKeep S (nI s) = (nI (hDy (sH S)), setKp S (fun j => if j = s then true else sK S j) (fun j => if j = s then sH S else sKH S j)) := by unfold aKeep; rw [ei]
        rw [e] at hE
        refine z_aload_0 iX11_keep_12 ?_
        refine m_getR iX11_keep_13 g_11_52 rfl ?_
        refine z_iload_1 iX11_keep_16 ?_
        refine z_iconst iX11_keep_17 kI_1 ?_
        refine m_zastN iX11_keep_18 rfl (by omega) (by decide) ?_
        refine z_iconst iX11_keep_19 kI_0 ?_
        refine z_istore_2 iX11_keep_20 rfl ?_
        have hF0 : Fm [155, 156] [] μ1 (mw μ1 155 s (nI 1)) := Fm.rf.mw _ _ (by decide) (by decide)
        have g5 : ∀ k, (mw μ1 155 s (nI 1)).1 155 k = if k = s then nI 1 else μ1.1 155 k := fun k => by
          rw [mw_rd]
          by_cases z : k = s
          · rw [if_pos ⟨rfl, z⟩, if_pos z]
          · rw [if_neg (fun w => z w.2), if_neg z]
        have g6 : (mw μ1 155 s (nI 1)).1 156 = μ1.1 156 := mw_other _ _ (by decide)
        generalize mw μ1 155 s (nI 1) = μ2 at hF0 g5 g6
        have hN2 : NowAt μ2 145 0 (sR S) (sH S) := h2.fm hQ hF0 (by decide) (by decide)
        have loop : ∀ (m k : Nat) (μ' : Mem), m + k = 18 → Cp 156 (18 * s) 145 0 k μ2 μ' → Zm G X cX11_keep RX11 μ' 21 [some (.ref (qB G + 140)), some (.int (nI s)), some (.int (nI k))] [] := by
          intro m
          induction m with
          | zero =>
            intro k μ' hk hC
            rw [show k = 18 by omega] at hC ⊢
            have b1 : μ'.1 145 17 = nI (hDy (sH S)) := by rw [hC.1 145 (by decide)]; exact hN2.2.2.2
            refine z_iload_2 iX11_keep_21 ?_
            refine z_bipush iX11_keep_22 kB_18 ?_
            refine z_icmp_geN iX11_keep_24 (by omega) (by omega) (fun q2 => ?_) (fun q2 => ?_)
            · refine z_aload_0 iX11_keep_50 ?_
              refine m_getR iX11_keep_51 g_11_22 rfl ?_
              refine z_bipush iX11_keep_54 kB_17 ?_
              refine m_ialdN iX11_keep_56 rfl (by omega) ?_
              refine z_top (b1) ?_
              have hF : Fm [155, 156] [] μ1 μ' := hF0.trans ((hC.fm (by decide)).mono (by decide) (by decide))
              refine m_iret hE iX11_keep_57 ⟨rfl, ⟨h1.fm hF (by decide) (by decide), h2.fm hQ hF (by decide) (by decide), h3.fm hF (by decide) (by decide), h4.fm hQ hF (by decide) (by decide) (by decide), fun j hj => ?_, h6.fm hF (by decide) (by decide) (by decide), by rw [hF.2.2]; exact h7, by rw [hF.1 141 (by decide) (by decide)]; exact h8⟩, hF.cs (by decide)⟩
              rw [hC.1 155 (by decide), g5]
              show (if j = s then nI 1 else μ1.1 155 j) = nI (if (if j = s then true else sK S j) then 1 else 0) ∧ ((if j = s then true else sK S j) = true → NowAt μ' 156 (18 * j) (sR S) (if j = s then sH S else sKH S j))
              by_cases z : j = s
              · simp only [if_pos z]
                refine ⟨rfl, fun _ => ?_⟩
                rw [z]
                exact hN2.cp hQ hC
              · simp only [if_neg z]
                refine ⟨(h5 j hj).1, fun w => ?_⟩
                exact (((h5 j hj).2 w).ms g6).row hQ (fun k h1 h2 => hC.2.1 k (by omega))
            · omega
          | succ m ih =>
            intro k μ' hk hC
            refine z_iload_2 iX11_keep_21 ?_
            refine z_bipush iX11_keep_22 kB_18 ?_
            refine z_icmp_geN iX11_keep_24 (by omega) (by omega) (fun q2 => ?_) (fun q2 => ?_)
            · omega
            · refine z_aload_0 iX11_keep_27 ?_
              refine m_getR iX11_keep_28 g_11_56 rfl ?_
              refine z_bipush iX11_keep_31 kB_18 ?_
              refine z_iload_1 iX11_keep_33 ?_
              refine z_imulN iX11_keep_34 ?_
              refine z_iload_2 iX11_keep_35 ?_
              refine z_iaddN iX11_keep_36 ?_
              refine z_aload_0 iX11_keep_37 ?_
              refine m_getR iX11_keep_38 g_11_22 rfl ?_
              refine z_iload_2 iX11_keep_41 ?_
              refine m_ialdN iX11_keep_42 rfl (by omega) ?_
              refine m_iastN iX11_keep_43 rfl (by omega) ?_
              refine z_iinc_2N iX11_keep_44 rfl ?_
              refine z_goto iX11_keep_47 ?_
              exact ih (k + 1) _ (by omega) (hC.step (Or.inl (by decide)) (by omega) rfl (by omega))
        exact loop 18 0 μ2 (by decide) Cp.zero
      · exact absurd q nI10
    · omega
  · rcases hr with ⟨rfl, hr⟩ | ⟨rfl, hr⟩
    · omega
    · refine z_if_ne iX11_keep_7 (fun q => ?_) (fun q => ?_)
      · exact absurd nI00 q
      · refine z_iconst (x := -1) iX11_keep_10 (by decide) ?_
        exact m_iret hE iX11_keep_11 (PM.rf h (by unfold aKeep; rw [ei]))
theorem c_X11_again (G : qG) (l : Launch) {μ : Mem} {S : St} (h : MAt μ S) (hS : SOK S) (x : Int32) : CtrI G l M_X11_again [.ref (qB G + 140), .int x] μ (PM μ (aAgain S x)) := by
  refine m_enterI [some (.ref (qB G + 140)), some (.int x), none] (by decide +kernel) rfl (Nat.le_of_ble_eq_true rfl) (fun X hE hR => ?_)
  have hR : qR X = rm_X11_again := hR
  have hE : EI G X _ (some .int) := hE
  show Zm G X cX11_again RX11 _ 0 [some (.ref (qB G + 140)), some (.int x), none] []
  obtain ⟨h1, h2, h3, ⟨a1, nx, a2, a3, a4⟩, h5, h6, h7, h8⟩ := id h
  have hQ := hS.2.2.1
  refine z_iload_1 iX11_again_0 ?_
  refine z_i2l iX11_again_1 ?_
  refine z_lconst (x := 0) iX11_again_2 rfl ?_
  refine z_lconst (x := 1) iX11_again_3 rfl ?_
  refine m_callSi iX11_again_4 l_11_61 f_X11_in (c_inI G _ x (y := 0) (z := 1) (a := 0) (b := 1) rfl rfl) rfl rfl (Nat.le_of_ble_eq_true rfl) hR ft_X11_again_X11_in ⟨rfl, rfl⟩ ?_
  rintro r μ1 ⟨rfl, hr⟩
  rcases q_cases x 2 (by decide) with ⟨s, hs, rfl, ei⟩ | ⟨ei, hx, -⟩
  · rw [nI_toInt (by omega)] at hr
    rcases hr with ⟨rfl, hr⟩ | ⟨rfl, hr⟩
    · refine z_if_ne iX11_again_7 (fun q => ?_) (fun q => ?_)
      · refine z_aload_0 iX11_again_12 ?_
        refine m_getR iX11_again_13 g_11_52 rfl ?_
        refine z_iload_1 iX11_again_16 ?_
        refine m_zaldN iX11_again_17 rfl (by omega) ?_
        refine z_top ((h5 s hs).1) ?_
        refine z_if_neN iX11_again_18 (by split <;> decide) (fun q2 => ?_) (fun q2 => ?_)
        · have hk : sK S s = true := by
            by_cases z : sK S s = true
            · exact z
            · rw [if_neg z] at q2; exact absurd rfl q2
          have e : aAgain S (nI s) = (nI (hDy (sKH S s)), setHA S (sKH S s) 0 (sA S)) := by unfold aAgain; rw [ei]; exact if_pos hk
          rw [e] at hE
          have hN := (h5 s hs).2 hk
          have loop : ∀ (m k : Nat) (μ' : Mem), m + k = 18 → Cp 145 0 156 (18 * s) k μ1 μ' → Zm G X cX11_again RX11 μ' 26 [some (.ref (qB G + 140)), some (.int (nI s)), some (.int (nI k))] [] := by
            intro m
            induction m with
            | zero =>
              intro k μ' hk hC
              rw [show k = 18 by omega] at hC ⊢
              have hN2 : NowAt (mw μ' 140 20 (nI 0)) 145 0 (sR S) (sKH S s) := (hN.cp hQ hC).ms (mw_other _ _ (by decide))
              refine z_iload_2 iX11_again_26 ?_
              refine z_bipush iX11_again_27 kB_18 ?_
              refine z_icmp_geN iX11_again_29 (by omega) (by omega) (fun q3 => ?_) (fun q3 => ?_)
              · refine z_aload_0 iX11_again_55 ?_
                refine z_iconst iX11_again_56 kI_0 ?_
                refine m_putI iX11_again_57 p_11_105 rfl ?_
                refine z_aload_0 iX11_again_60 ?_
                refine m_getR iX11_again_61 g_11_22 rfl ?_
                refine z_bipush iX11_again_64 kB_17 ?_
                refine m_ialdN iX11_again_66 rfl (by omega) ?_
                refine z_top (hN2.2.2.2) ?_
                have hF : Fm [145] [20] μ1 (mw μ' 140 20 (nI 0)) := ((hC.fm (by decide)).mono (by decide) (by decide)).put _ _ (by decide)
                exact m_iret hE iX11_again_67 ⟨rfl, ⟨h1.fm hF (by decide) (by decide), hN2, h3.fm hF (by decide) (by decide), ⟨mw_same _ _ _ _, nx, a2, by rw [hF.2.1 21 (by decide)]; exact a3, fun k hk => absurd hk (Nat.not_lt_zero k)⟩, h5.fm hQ hF (by decide) (by decide), h6.fm hF (by decide) (by decide) (by decide), by rw [hF.2.2]; exact h7, by rw [hF.1 141 (by decide) (by decide)]; exact h8⟩, hF.cs (by decide)⟩
              · omega
            | succ m ih =>
              intro k μ' hk hC
              refine z_iload_2 iX11_again_26 ?_
              refine z_bipush iX11_again_27 kB_18 ?_
              refine z_icmp_geN iX11_again_29 (by omega) (by omega) (fun q3 => ?_) (fun q3 => ?_)
              · omega
              · refine z_aload_0 iX11_again_32 ?_
                refine m_getR iX11_again_33 g_11_22 rfl ?_
                refine z_iload_2 iX11_again_36 ?_
                refine z_aload_0 iX11_again_37 ?_
                refine m_getR iX11_again_38 g_11_56 rfl ?_
                refine z_bipush iX11_again_41 kB_18 ?_
                refine z_iload_1 iX11_again_43 ?_
                refine z_imulN iX11_again_44 ?_
                refine z_iload_2 iX11_again_45 ?_
                refine z_iaddN iX11_again_46 ?_
                refine m_ialdN iX11_again_47 rfl (by omega) ?_
                refine m_iastN iX11_again_48 rfl (by omega) ?_
                refine z_iinc_2N iX11_again_49 rfl ?_
                refine z_goto iX11_again_52 ?_
                exact ih (k + 1) _ (by omega) (hC.step (Or.inl (by decide)) (by omega) (by omega) rfl)
          refine z_iconst iX11_again_24 kI_0 ?_
          refine z_istore_2 iX11_again_25 rfl ?_
          exact loop 18 0 μ1 (by decide) Cp.zero
        · have hk : ¬ sK S s = true := fun z => by rw [if_pos z] at q2; exact absurd q2 (by decide)
          refine z_bipush (x := -3) iX11_again_21 (by decide) ?_
          exact m_iret hE iX11_again_23 (PM.rf h (by unfold aAgain; rw [ei]; exact if_neg hk))
      · exact absurd q nI10
    · omega
  · rcases hr with ⟨rfl, hr⟩ | ⟨rfl, hr⟩
    · omega
    · refine z_if_ne iX11_again_7 (fun q => ?_) (fun q => ?_)
      · exact absurd nI00 q
      · refine z_iconst (x := -1) iX11_again_10 (by decide) ?_
        exact m_iret hE iX11_again_11 (PM.rf h (by unfold aAgain; rw [ei]))
theorem c_X11_together (G : qG) (l : Launch) {μ : Mem} {p n : Nat} {v : Nat → Nat} (hp : p + n ≤ 36) (hn : n < 1000) (h0 : μ.1 140 0 = nI n) (hv : ∀ f, f < n → μ.1 145 (p + f) = nI (v f)) : CtrI G l M_X11_together [.ref (qB G + 140), .int (nI p)] μ (fun r μ' => μ' = μ ∧ r = nI (sumN v n)) := by
  refine m_enterI [some (.ref (qB G + 140)), some (.int (nI p)), none, none] (by decide +kernel) rfl (Nat.le_of_ble_eq_true rfl) (fun X hE hR => ?_)
  have hR : qR X = rm_X11_together := hR
  have hE : EI G X _ (some .int) := hE
  show Zm G X cX11_together RX11 _ 0 [some (.ref (qB G + 140)), some (.int (nI p)), none, none] []
  have loop : ∀ (m o : Nat), m + o = n → Zm G X cX11_together RX11 μ 4 [some (.ref (qB G + 140)), some (.int (nI p)), some (.int (nI (sumN v o))), some (.int (nI o))] [] := by
    intro m
    induction m with
    | zero =>
      intro o ho
      refine z_iload_3 iX11_together_4 ?_
      refine z_aload_0 iX11_together_5 ?_
      refine m_getI iX11_together_6 g_11_99 rfl ?_
      refine z_top (h0) ?_
      refine z_icmp_geN iX11_together_9 (by omega) (by omega) (fun q => ?_) (fun q => ?_)
      · refine z_iload_2 iX11_together_29 ?_
        exact m_iret hE iX11_together_30 ⟨rfl, by rw [show o = n by omega]⟩
      · omega
    | succ m ih =>
      intro o ho
      refine z_iload_3 iX11_together_4 ?_
      refine z_aload_0 iX11_together_5 ?_
      refine m_getI iX11_together_6 g_11_99 rfl ?_
      refine z_top (h0) ?_
      refine z_icmp_geN iX11_together_9 (by omega) (by omega) (fun q => ?_) (fun q => ?_)
      · omega
      · refine z_iload_2 iX11_together_12 ?_
        refine z_aload_0 iX11_together_13 ?_
        refine m_getR iX11_together_14 g_11_22 rfl ?_
        refine z_iload_1 iX11_together_17 ?_
        refine z_iload_3 iX11_together_18 ?_
        refine z_iaddN iX11_together_19 ?_
        refine m_ialdN iX11_together_20 rfl (by omega) ?_
        refine z_top (hv o (by omega)) ?_
        refine z_iaddN iX11_together_21 ?_
        refine z_istore_2 iX11_together_22 rfl ?_
        refine z_iinc_3N iX11_together_23 rfl ?_
        refine z_goto iX11_together_26 ?_
        exact ih (o + 1) (by omega)
  refine z_iconst iX11_together_0 kI_0 ?_
  refine z_istore_2 iX11_together_1 rfl ?_
  refine z_iconst iX11_together_2 kI_0 ?_
  refine z_istore_3 iX11_together_3 rfl ?_
  exact loop n 0 (by omega)
theorem sumN_cut {v : Nat → Nat} {n : Nat} (hn : n ≤ 6) (h : ∀ f, n ≤ f → f < 6 → v f = 0) : sumN v n = sumN v 6 := by
  have : ∀ k, k + n ≤ 6 → sumN v (n + k) = sumN v n := by
    intro k
    induction k with
    | zero => intro _; rfl
    | succ k ih =>
      intro hk
      show sumN v (n + k) + v (n + k) = _
      rw [ih (by omega), h (n + k) (by omega) (by omega)]
      rfl
  rw [← this (6 - n) (by omega)]
  congr 1
  omega
theorem c_X11_beaten (G : qG) (l : Launch) {μ : Mem} {R : Rl} {H : Hd} (hR0 : RlOK R) (hH0 : HdOK R H) (hR1 : MRoll μ R) (hH1 : NowAt μ 145 0 R H) : CtrI G l M_X11_beaten [.ref (qB G + 140)] μ (fun r μ' => Fm [] kB μ μ' ∧ r = orF (fun f => nI (btS R H f)) (rFc R)) := by
  refine m_enterI [some (.ref (qB G + 140)), none, none] (by decide +kernel) rfl (Nat.le_of_ble_eq_true rfl) (fun X hE hR => ?_)
  have hR : qR X = rm_X11_beaten := hR
  have hE : EI G X _ (some .int) := hE
  show Zm G X cX11_beaten RX11 _ 0 [some (.ref (qB G + 140)), none, none] []
  have h6 := hR0.1
  have loop : ∀ (m o : Nat) (μ' : Mem), m + o = rFc R → Fm [] kB μ μ' → Zm G X cX11_beaten RX11 μ' 4 [some (.ref (qB G + 140)), some (.int (orF (fun f => nI (btS R H f)) o)), some (.int (nI o))] [] := by
    intro m
    induction m with
    | zero =>
      intro o μ' ho hF
      have hR2 := hR1.fm hF (by decide) (by decide)
      refine z_iload_2 iX11_beaten_4 ?_
      refine z_aload_0 iX11_beaten_5 ?_
      refine m_getI iX11_beaten_6 g_11_99 rfl ?_
      refine z_top (hR2.1) ?_
      refine z_icmp_geN iX11_beaten_9 (by omega) (by omega) (fun q => ?_) (fun q => ?_)
      · refine z_iload_1 iX11_beaten_26 ?_
        exact m_iret hE iX11_beaten_27 ⟨hF, by rw [show o = rFc R by omega]⟩
      · omega
    | succ m ih =>
      intro o μ' ho hF
      have hR2 := hR1.fm hF (by decide) (by decide)
      refine z_iload_2 iX11_beaten_4 ?_
      refine z_aload_0 iX11_beaten_5 ?_
      refine m_getI iX11_beaten_6 g_11_99 rfl ?_
      refine z_top (hR2.1) ?_
      refine z_icmp_geN iX11_beaten_9 (by omega) (by omega) (fun q => ?_) (fun q => ?_)
      · omega
      · refine z_iload_1 iX11_beaten_12 ?_
        refine z_aload_0 iX11_beaten_13 ?_
        refine z_iload_2 iX11_beaten_14 ?_
        refine m_callVi iX11_beaten_15 l_11_160 f_X11_beatenBy (c_X11_beatenBy G _ hR0 hH0 hR2 (hH1.fm hR0 hF (by decide) (by decide)) (show o < rFc R by omega)) rfl rfl rfl (Nat.le_of_ble_eq_true rfl) hR ft_X11_beaten_X11_beatenBy ⟨rfl, rfl⟩ ?_
        rintro r μ2 ⟨hF2, rfl⟩
        refine z_ior iX11_beaten_18 ?_
        refine z_istore_1 iX11_beaten_19 rfl ?_
        refine z_iinc_2N iX11_beaten_20 rfl ?_
        refine z_goto iX11_beaten_23 ?_
        exact ih (o + 1) μ2 (by omega) (hF.trans hF2)
  refine z_iconst iX11_beaten_0 kI_0 ?_
  refine z_istore_1 iX11_beaten_1 rfl ?_
  refine z_iconst iX11_beaten_2 kI_0 ?_
  refine z_istore_2 iX11_beaten_3 rfl ?_
  exact loop (rFc R) 0 μ (by omega) Fm.rf
theorem c_X11_count (G : qG) (l : Launch) {μ : Mem} {S : St} (h : MAt μ S) (hS : SOK S) (x : Int32) : CtrI G l M_X11_count [.ref (qB G + 140), .int x] μ (QM μ S (qCount S x)) := by
  refine m_enterI [some (.ref (qB G + 140)), some (.int x)] (by decide +kernel) rfl (Nat.le_of_ble_eq_true rfl) (fun X hE hR => ?_)
  have hR : qR X = rm_X11_count := hR
  have hE : EI G X _ (some .int) := hE
  show Zm G X cX11_count RX11 _ 0 [some (.ref (qB G + 140)), some (.int x)] []
  obtain ⟨h1, h2, h3, h4, h5, h6, h7, h8⟩ := id h
  have hQ := hS.2.2.1
  have hH := hS.2.2.2.1
  have n6 := hQ.1
  refine z_iload_1 iX11_count_0 ?_
  rcases q_cases x 10 (by decide) with ⟨k, hk, rfl, ei⟩ | ⟨ei, hx, -⟩
  · have hq : qCount S (nI k) = vCount S k := by unfold qCount; rw [ei]
    rw [hq] at hE
    rcases (show k = 0 ∨ k = 1 ∨ k = 2 ∨ k = 3 ∨ k = 4 ∨ k = 5 ∨ k = 6 ∨ k = 7 ∨ k = 8 ∨ k = 9 by omega) with rfl | rfl | rfl | rfl | rfl | rfl | rfl | rfl | rfl | rfl
    · refine z_tableIn (tgt := 56) iX11_count_1 (by decide) (by decide) rfl (by decide) ?_
      refine z_aload_0 iX11_count_56 ?_
      refine m_getI iX11_count_57 g_11_65 rfl ?_
      refine z_top (h3.1) ?_
      exact m_iret hE iX11_count_60 (QM.rf h rfl)
    · refine z_tableIn (tgt := 61) iX11_count_1 (by decide) (by decide) rfl (by decide) ?_
      refine z_aload_0 iX11_count_61 ?_
      refine m_getI iX11_count_62 g_11_99 rfl ?_
      refine z_top (h1.1) ?_
      exact m_iret hE iX11_count_65 (QM.rf h rfl)
    · refine z_tableIn (tgt := 66) iX11_count_1 (by decide) (by decide) rfl (by decide) ?_
      refine z_aload_0 iX11_count_66 ?_
      refine m_getI iX11_count_67 g_11_102 rfl ?_
      refine z_top (h1.2.1) ?_
      exact m_iret hE iX11_count_70 (QM.rf h rfl)
    · refine z_tableIn (tgt := 71) iX11_count_1 (by decide) (by decide) rfl (by decide) ?_
      refine z_aload_0 iX11_count_71 ?_
      refine m_getR iX11_count_72 g_11_22 rfl ?_
      refine z_bipush iX11_count_75 kB_17 ?_
      refine m_ialdN iX11_count_77 rfl (by omega) ?_
      refine z_top (h2.2.2.2) ?_
      exact m_iret hE iX11_count_78 (QM.rf h rfl)
    · refine z_tableIn (tgt := 79) iX11_count_1 (by decide) (by decide) rfl (by decide) ?_
      refine z_aload_0 iX11_count_79 ?_
      refine z_iconst iX11_count_80 kI_5 ?_
      refine m_callVi iX11_count_81 l_11_268 f_X11_together (c_X11_together (v := hPu (sH S)) G _ (by omega) (by omega) h1.1 (fun f hf => h2.pu0 (by omega))) rfl rfl rfl (Nat.le_of_ble_eq_true rfl) hR ft_X11_count_X11_together ⟨rfl, rfl⟩ ?_
      rintro r μ2 ⟨rfl, rfl⟩
      exact m_iret hE iX11_count_84 (QM.rf h (by rw [sumN_cut n6 (fun f h1 h2 => (hH.2.2.1 f h1 h2).1)]; rfl))
    · refine z_tableIn (tgt := 85) iX11_count_1 (by decide) (by decide) rfl (by decide) ?_
      refine z_aload_0 iX11_count_85 ?_
      refine z_bipush iX11_count_86 kB_11 ?_
      refine m_callVi iX11_count_88 l_11_268 f_X11_together (c_X11_together (v := hFe (sH S)) G _ (by omega) (by omega) h1.1 (fun f hf => h2.fe0 (by omega))) rfl rfl rfl (Nat.le_of_ble_eq_true rfl) hR ft_X11_count_X11_together ⟨rfl, rfl⟩ ?_
      rintro r μ2 ⟨rfl, rfl⟩
      exact m_iret hE iX11_count_91 (QM.rf h (by rw [sumN_cut n6 (fun f h1 h2 => (hH.2.2.1 f h1 h2).2)]; rfl))
    · refine z_tableIn (tgt := 92) iX11_count_1 (by decide) (by decide) rfl (by decide) ?_
      refine z_aload_0 iX11_count_92 ?_
      refine z_iconst iX11_count_93 kI_0 ?_
      refine m_callVi iX11_count_94 l_11_265 f_X11_strayed (c_X11_strayed (lv := 0) G _ hQ hH h1 (by decide) h2) rfl rfl rfl (Nat.le_of_ble_eq_true rfl) hR ft_X11_count_X11_strayed ⟨rfl, rfl⟩ ?_
      rintro r μ2 ⟨rfl, rfl⟩
      exact m_iret hE iX11_count_97 (QM.rf h rfl)
    · refine z_tableIn (tgt := 98) iX11_count_1 (by decide) (by decide) rfl (by decide) ?_
      refine z_aload_0 iX11_count_98 ?_
      refine m_callVi iX11_count_99 l_11_271 f_X11_beaten (c_X11_beaten G _ hQ hH h1 h2) rfl rfl rfl (Nat.le_of_ble_eq_true rfl) hR ft_X11_count_X11_beaten ⟨rfl, rfl⟩ ?_
      rintro r μ2 ⟨hF, rfl⟩
      exact m_iret hE iX11_count_102 (QM.of h hS hF (by decide) kB_kS rfl)
    · refine z_tableIn (tgt := 103) iX11_count_1 (by decide) (by decide) rfl (by decide) ?_
      refine z_aload_0 iX11_count_103 ?_
      refine m_getI iX11_count_104 g_11_105 rfl ?_
      refine z_top (h4.1) ?_
      exact m_iret hE iX11_count_107 (QM.rf h rfl)
    · refine z_tableIn (tgt := 108) iX11_count_1 (by decide) (by decide) rfl (by decide) ?_
      refine z_aload_0 iX11_count_108 ?_
      refine m_getI iX11_count_109 g_11_222 rfl ?_
      refine z_top (h6.1) ?_
      exact m_iret hE iX11_count_112 (QM.rf h rfl)
  · refine z_tableOut (tgt := 113) iX11_count_1 (by omega) (by decide) ?_
    refine z_bipush (x := -2) iX11_count_113 (by decide) ?_
    exact m_iret hE iX11_count_115 (QM.rf h (by unfold qCount; rw [ei]))

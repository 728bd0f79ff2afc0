/-! THE REFERENCE: rests, clouded -/
theorem c_X11_more (G : qG) (l : Launch) {μ : Mem} {R : Rl} {i j x y : Nat} (hR0 : RlOK R) (hR1 : MRoll μ R) (hi : i < rFc R) (hj : j < rFc R) (hx : x < 3) (hy : y < 3) : CtrI G l M_X11_more [.ref (qB G + 140), .int (nI i), .int (nI j), .int (nI x), .int (nI y)] μ (fun r μ' => Fm [] kB μ μ' ∧ r = sl R i j x y) := by
  refine m_enterI [some (.ref (qB G + 140)), some (.int (nI i)), some (.int (nI j)), some (.int (nI x)), some (.int (nI y))] (by decide +kernel) rfl (Nat.le_of_ble_eq_true rfl) (fun X hE hR => ?_)
  have hR : qR X = rm_X11_more := hR
  have hE : EI G X _ (some .int) := hE
  show Zm G X cX11_more RX11 _ 0 [some (.ref (qB G + 140)), some (.int (nI i)), some (.int (nI j)), some (.int (nI x)), some (.int (nI y))] []
  have h6 := hR0.1
  refine z_aload_0 iX11_more_0 ?_
  refine z_iload_1 iX11_more_1 ?_
  refine z_iload_2 iX11_more_2 ?_
  refine z_iload_3 iX11_more_3 ?_
  refine z_iload_4 iX11_more_4 ?_
  refine m_callVv iX11_more_6 l_11_141 f_X11_fight (c_X11_fight (F1 := (rKd R i, rMv R i, x)) (F2 := (rKd R j, rMv R j, y)) G _ (by omega) (by omega) (hR1.2.2.1 i hi) (hR1.2.2.1 j hj) ⟨(hR0.2.2.1 i hi).1, fun k hk => ((hR0.2.2.1 i hi).2 k hk).1, hx⟩ ⟨(hR0.2.2.1 j hj).1, fun k hk => ((hR0.2.2.1 j hj).2 k hk).1, hy⟩) rfl rfl rfl (Nat.le_of_ble_eq_true rfl) hR ft_X11_more_X11_fight ⟨rfl, rfl⟩ ?_
  rintro μ1 ⟨hF, hP⟩
  refine z_aload_0 iX11_more_9 ?_
  refine m_getI iX11_more_10 g_11_128 rfl ?_
  refine z_top (hP.2.2.1) ?_
  refine z_aload_0 iX11_more_13 ?_
  refine m_getI iX11_more_14 g_11_131 rfl ?_
  refine z_top (hP.2.2.2.1) ?_
  refine z_isub iX11_more_17 ?_
  exact m_iret hE iX11_more_18 ⟨hF, rfl⟩
theorem c_X11_isRest (G : qG) (l : Launch) {μ : Mem} {R : Rl} {i j a b : Nat} (hR0 : RlOK R) (hR1 : MRoll μ R) (hi : i < rFc R) (hj : j < rFc R) (ha : a < 3) (hb : b < 3) : CtrI G l M_X11_isRest [.ref (qB G + 140), .int (nI i), .int (nI j), .int (nI a), .int (nI b)] μ (fun r μ' => Fm [] kB μ μ' ∧ ((r = nI 1 ∧ rsP (sl R i j) a b) ∨ (r = nI 0 ∧ ¬ rsP (sl R i j) a b))) := by
  refine m_enterI [some (.ref (qB G + 140)), some (.int (nI i)), some (.int (nI j)), some (.int (nI a)), some (.int (nI b)), none, none] (by decide +kernel) rfl (Nat.le_of_ble_eq_true rfl) (fun X hE hR => ?_)
  have hR : qR X = rm_X11_isRest := hR
  have hE : EI G X _ (some .boolean) := hE
  show Zm G X cX11_isRest RX11 _ 0 [some (.ref (qB G + 140)), some (.int (nI i)), some (.int (nI j)), some (.int (nI a)), some (.int (nI b)), none, none] []
  have h6 := hR0.1
  have loop : ∀ (n t w : Nat) (μ' : Mem), n + t = 3 → w ≤ 1 → Fm [] kB μ μ' → (w = 1 ↔ ∀ t', t' < t → sl R i j t' b ≤ sl R i j a b ∧ sl R i j a b ≤ sl R i j a t') → Zm G X cX11_isRest RX11 μ' 6 [some (.ref (qB G + 140)), some (.int (nI i)), some (.int (nI j)), some (.int (nI a)), some (.int (nI b)), some (.int (nI w)), some (.int (nI t))] [] := by
    intro n
    induction n with
    | zero =>
      intro t w μ' hn hw hF hiff
      rw [show t = 3 by omega] at hiff ⊢
      refine z_iload_6 iX11_isRest_6 ?_
      refine z_iconst iX11_isRest_8 kI_3 ?_
      refine z_icmp_geN iX11_isRest_9 (by omega) (by omega) (fun q => ?_) (fun q => ?_)
      · refine z_iload_5 iX11_isRest_73 ?_
        rcases (show w = 1 ∨ w = 0 by omega) with rfl | rfl
        · exact m_zret hE iX11_isRest_75 rfl ⟨hF, Or.inl ⟨rfl, hiff.mp rfl⟩⟩
        · exact m_zret hE iX11_isRest_75 rfl ⟨hF, Or.inr ⟨rfl, fun z => absurd (hiff.mpr z) (by decide)⟩⟩
      · omega
    | succ n ih =>
      intro t w μ' hn hw hF hiff
      have fin : ∀ (w' : Nat) (μ'' : Mem), w' ≤ 1 → Fm [] kB μ μ'' → (w' = 1 ↔ w = 1 ∧ sl R i j t b ≤ sl R i j a b ∧ sl R i j a b ≤ sl R i j a t) → Zm G X cX11_isRest RX11 μ'' 65 [some (.ref (qB G + 140)), some (.int (nI i)), some (.int (nI j)), some (.int (nI a)), some (.int (nI b)), some (.int (nI w)), some (.int (nI t))] [.int (nI w')] := by
        intro w' μ'' hw' hF' hi'
        refine z_istore_5 iX11_isRest_65 rfl ?_
        refine z_iinc_6N iX11_isRest_67 rfl ?_
        refine z_goto iX11_isRest_70 ?_
        refine ih (t + 1) w' μ'' (by omega) hw' hF' ?_
        rw [hi', hiff]
        constructor
        · rintro ⟨z1, z2⟩ t' ht'
          by_cases e : t' = t
          · subst e; exact z2
          · exact z1 t' (by omega)
        · intro z
          exact ⟨fun t' ht' => z t' (by omega), z t (by omega)⟩
      have no : ∀ μ'' : Mem, Fm [] kB μ μ'' → ¬ (w = 1 ∧ sl R i j t b ≤ sl R i j a b ∧ sl R i j a b ≤ sl R i j a t) → Zm G X cX11_isRest RX11 μ'' 64 [some (.ref (qB G + 140)), some (.int (nI i)), some (.int (nI j)), some (.int (nI a)), some (.int (nI b)), some (.int (nI w)), some (.int (nI t))] [] := by
        intro μ'' hF' z
        refine z_iconst iX11_isRest_64 kI_0 ?_
        exact fin 0 μ'' (by decide) hF' ⟨(fun w => absurd w (by decide)), fun w => absurd w z⟩
      refine z_iload_6 iX11_isRest_6 ?_
      refine z_iconst iX11_isRest_8 kI_3 ?_
      refine z_icmp_geN iX11_isRest_9 (by omega) (by omega) (fun q => ?_) (fun q => ?_)
      · omega
      · refine z_iload_5 iX11_isRest_12 ?_
        refine z_if_eqN iX11_isRest_14 (by omega) (fun q2 => ?_) (fun q2 => ?_)
        · exact no μ' hF (fun z => by omega)
        · refine z_aload_0 iX11_isRest_17 ?_
          refine z_iload_1 iX11_isRest_18 ?_
          refine z_iload_2 iX11_isRest_19 ?_
          refine z_iload_6 iX11_isRest_20 ?_
          refine z_iload_4 iX11_isRest_22 ?_
          refine m_callVi iX11_isRest_24 l_11_241 f_X11_more (c_X11_more G _ hR0 (hR1.fm hF (by decide) (by decide)) hi hj (show t < 3 by omega) hb) rfl rfl rfl (Nat.le_of_ble_eq_true rfl) hR ft_X11_isRest_X11_more ⟨rfl, rfl⟩ ?_
          rintro r μ2 ⟨hF2, rfl⟩
          have hF2 := hF.trans hF2
          refine z_aload_0 iX11_isRest_27 ?_
          refine z_iload_1 iX11_isRest_28 ?_
          refine z_iload_2 iX11_isRest_29 ?_
          refine z_iload_3 iX11_isRest_30 ?_
          refine z_iload_4 iX11_isRest_31 ?_
          refine m_callVi iX11_isRest_33 l_11_241 f_X11_more (c_X11_more G _ hR0 (hR1.fm hF2 (by decide) (by decide)) hi hj ha hb) rfl rfl rfl (Nat.le_of_ble_eq_true rfl) hR ft_X11_isRest_X11_more ⟨rfl, rfl⟩ ?_
          rintro r μ3 ⟨hF3, rfl⟩
          have hF3 := hF2.trans hF3
          refine z_icmp_gt iX11_isRest_36 (fun q3 => ?_) (fun q3 => ?_)
          · exact no μ3 hF3 (fun z => absurd z.2.1 (Int32.not_le.mpr q3))
          · refine z_aload_0 iX11_isRest_39 ?_
            refine z_iload_1 iX11_isRest_40 ?_
            refine z_iload_2 iX11_isRest_41 ?_
            refine z_iload_3 iX11_isRest_42 ?_
            refine z_iload_6 iX11_isRest_43 ?_
            refine m_callVi iX11_isRest_45 l_11_241 f_X11_more (c_X11_more G _ hR0 (hR1.fm hF3 (by decide) (by decide)) hi hj ha (show t < 3 by omega)) rfl rfl rfl (Nat.le_of_ble_eq_true rfl) hR ft_X11_isRest_X11_more ⟨rfl, rfl⟩ ?_
            rintro r μ4 ⟨hF4, rfl⟩
            have hF4 := hF3.trans hF4
            refine z_aload_0 iX11_isRest_48 ?_
            refine z_iload_1 iX11_isRest_49 ?_
            refine z_iload_2 iX11_isRest_50 ?_
            refine z_iload_3 iX11_isRest_51 ?_
            refine z_iload_4 iX11_isRest_52 ?_
            refine m_callVi iX11_isRest_54 l_11_241 f_X11_more (c_X11_more G _ hR0 (hR1.fm hF4 (by decide) (by decide)) hi hj ha hb) rfl rfl rfl (Nat.le_of_ble_eq_true rfl) hR ft_X11_isRest_X11_more ⟨rfl, rfl⟩ ?_
            rintro r μ5 ⟨hF5, rfl⟩
            have hF5 := hF4.trans hF5
            refine z_icmp_lt iX11_isRest_57 (fun q4 => ?_) (fun q4 => ?_)
            · exact no μ5 hF5 (fun z => absurd z.2.2 (Int32.not_le.mpr q4))
            · refine z_iconst iX11_isRest_60 kI_1 ?_
              refine z_goto iX11_isRest_61 ?_
              exact fin 1 μ5 (by decide) hF5 ⟨fun _ => ⟨by omega, Int32.not_lt.mp q3, Int32.not_lt.mp q4⟩, fun _ => rfl⟩
  refine z_iconst iX11_isRest_0 kI_1 ?_
  refine z_istore_5 iX11_isRest_1 rfl ?_
  refine z_iconst iX11_isRest_3 kI_0 ?_
  refine z_istore_6 iX11_isRest_4 rfl ?_
  exact loop 3 0 1 μ (by decide) (by decide) Fm.rf ⟨fun _ t' ht' => absurd ht' (Nat.not_lt_zero t'), fun _ => rfl⟩
theorem c_X11_rests (G : qG) (l : Launch) {μ : Mem} {S : St} (h : MAt μ S) (hS : SOK S) (x y z : Int32) : CtrI G l M_X11_rests [.ref (qB G + 140), .int x, .int y, .int z] μ (QM μ S (qPair S x y z 2 (vRests S))) := by
  refine m_enterI [some (.ref (qB G + 140)), some (.int x), some (.int y), some (.int z), none, none, none] (by decide +kernel) rfl (Nat.le_of_ble_eq_true rfl) (fun X hE hR => ?_)
  have hR : qR X = rm_X11_rests := hR
  have hE : EI G X _ (some .int) := hE
  show Zm G X cX11_rests RX11 _ 0 [some (.ref (qB G + 140)), some (.int x), some (.int y), some (.int z), none, none, none] []
  obtain ⟨h1, h2, h3, h4, h5, h6, h7, h8⟩ := id h
  have hQ := hS.2.2.1
  have n6 := hQ.1
  have no : (idx x (rFc (sR S)) = none ∨ idx y (rFc (sR S)) = none) → Zm G X cX11_rests RX11 μ 16 [some (.ref (qB G + 140)), some (.int x), some (.int y), some (.int z), none, none, none] [] := by
    intro hn
    refine z_iconst (x := -1) iX11_rests_16 (by decide) ?_
    exact m_iret hE iX11_rests_17 (QM.rf h (qPair_no hn).symm)
  refine z_aload_0 iX11_rests_0 ?_
  refine z_iload_1 iX11_rests_1 ?_
  refine m_callVi iX11_rests_2 l_11_153 f_X11_isFencer (c_X11_isFencer G _ h1.1 (by omega) x) rfl rfl rfl (Nat.le_of_ble_eq_true rfl) hR ft_X11_rests_X11_isFencer ⟨rfl, rfl⟩ ?_
  rintro r μ1 ⟨rfl, ⟨rfl, i, hi, rfl⟩ | ⟨rfl, hn⟩⟩
  · refine z_if_eq iX11_rests_5 (fun q => ?_) (fun q => ?_)
    · exact absurd q nI10
    · refine z_aload_0 iX11_rests_8 ?_
      refine z_iload_2 iX11_rests_9 ?_
      refine m_callVi iX11_rests_10 l_11_153 f_X11_isFencer (c_X11_isFencer G _ h1.1 (by omega) y) rfl rfl rfl (Nat.le_of_ble_eq_true rfl) hR ft_X11_rests_X11_isFencer ⟨rfl, rfl⟩ ?_
      rintro r μ2 ⟨rfl, ⟨rfl, j, hj, rfl⟩ | ⟨rfl, hn⟩⟩
      · refine z_if_ne iX11_rests_13 (fun q => ?_) (fun q => ?_)
        · have out : (i = j ∨ idx z 2 = none) → Zm G X cX11_rests RX11 μ2 33 [some (.ref (qB G + 140)), some (.int (nI i)), some (.int (nI j)), some (.int z), none, none, none] [] := by
            intro ho
            refine z_bipush (x := -2) iX11_rests_33 (by decide) ?_
            exact m_iret hE iX11_rests_35 (QM.rf h (qPair_out n6 hi hj ho).symm)
          refine z_iload_1 iX11_rests_18 ?_
          refine z_iload_2 iX11_rests_19 ?_
          refine z_icmp_eqN iX11_rests_20 (by omega) (by omega) (fun q1 => ?_) (fun q1 => ?_)
          · exact out (Or.inl q1)
          · refine z_iload_3 iX11_rests_23 ?_
            refine z_i2l iX11_rests_24 ?_
            refine z_lconst (x := 0) iX11_rests_25 rfl ?_
            refine z_lconst (x := 1) iX11_rests_26 rfl ?_
            refine m_callSi iX11_rests_27 l_11_61 f_X11_in (c_inI G _ z (y := 0) (z := 1) (a := 0) (b := 1) rfl rfl) rfl rfl (Nat.le_of_ble_eq_true rfl) hR ft_X11_rests_X11_in ⟨rfl, rfl⟩ ?_
            rintro r μ3 ⟨rfl, hr⟩
            rcases q_cases z 2 (by decide) with ⟨k, hk, rfl, ei⟩ | ⟨ei, hx, -⟩
            · rw [nI_toInt (by omega)] at hr
              rcases hr with ⟨rfl, hr⟩ | ⟨rfl, hr⟩
              · refine z_if_ne iX11_rests_30 (fun q2 => ?_) (fun q2 => ?_)
                · have e := qPair_in (v := vRests S) n6 hi hj q1 hk (by decide)
                  rw [e] at hE
                  have loop : ∀ (m n : Nat) (μ' : Mem), m + n = 9 → Fm [] kB μ3 μ' → Zm G X cX11_rests RX11 μ' 46 [some (.ref (qB G + 140)), some (.int (nI i)), some (.int (nI j)), some (.int (nI k)), some (.int (nI (cnt (rsB (sR S) i j) n))), some (.int (fstV (rsB (sR S) i j) rsV n)), some (.int (nI n))] [] := by
                    intro m
                    induction m with
                    | zero =>
                      intro n μ' hn hF
                      rw [show n = 9 by omega]
                      refine z_iload_6 iX11_rests_46 ?_
                      refine z_bipush iX11_rests_48 kB_9 ?_
                      refine z_icmp_geN iX11_rests_50 (by omega) (by omega) (fun q3 => ?_) (fun q3 => ?_)
                      · refine z_iload_3 iX11_rests_103 ?_
                        refine z_if_neN iX11_rests_104 (by omega) (fun q4 => ?_) (fun q4 => ?_)
                        · refine z_iload_5 iX11_rests_112 ?_
                          refine m_iret hE iX11_rests_114 (QM.of h hS hF (by decide) kB_kS ?_)
                          unfold vRests; rw [if_neg q4]
                        · refine z_iload_4 iX11_rests_107 ?_
                          refine z_goto iX11_rests_109 ?_
                          refine m_iret hE iX11_rests_114 (QM.of h hS hF (by decide) kB_kS ?_)
                          unfold vRests; rw [if_pos q4]
                      · omega
                    | succ m ih =>
                      intro n μ' hn hF
                      have hc := cnt_le (rsB (sR S) i j) n
                      refine z_iload_6 iX11_rests_46 ?_
                      refine z_bipush iX11_rests_48 kB_9 ?_
                      refine z_icmp_geN iX11_rests_50 (by omega) (by omega) (fun q3 => ?_) (fun q3 => ?_)
                      · omega
                      · refine z_aload_0 iX11_rests_53 ?_
                        refine z_iload_1 iX11_rests_54 ?_
                        refine z_iload_2 iX11_rests_55 ?_
                        refine z_iload_6 iX11_rests_56 ?_
                        refine z_iconst iX11_rests_58 kI_3 ?_
                        refine z_idivN iX11_rests_59 (by omega) (by omega) (by omega) ?_
                        refine z_iload_6 iX11_rests_60 ?_
                        refine z_iconst iX11_rests_62 kI_3 ?_
                        refine z_iremN iX11_rests_63 (by omega) (by omega) (by omega) ?_
                        refine m_callVi iX11_rests_64 l_11_244 f_X11_isRest (c_X11_isRest (a := n / 3) (b := n % 3) G _ hQ (h1.fm hF (by decide) (by decide)) hi hj (by omega) (by omega)) rfl rfl rfl (Nat.le_of_ble_eq_true rfl) hR ft_X11_rests_X11_isRest ⟨rfl, rfl⟩ ?_
                        rintro r μ5 ⟨hF5, hr5⟩
                        have hF5 := hF.trans hF5
                        rcases hr5 with ⟨rfl, hp⟩ | ⟨rfl, hp⟩
                        · have hpn : rsB (sR S) i j n = true := rsB_iff.mpr hp
                          have ec := cnt_t hpn
                          have fin : ∀ v : Int32, v = fstV (rsB (sR S) i j) rsV (n + 1) → Zm G X cX11_rests RX11 μ5 92 [some (.ref (qB G + 140)), some (.int (nI i)), some (.int (nI j)), some (.int (nI k)), some (.int (nI (cnt (rsB (sR S) i j) n))), some (.int (fstV (rsB (sR S) i j) rsV n)), some (.int (nI n))] [.int v] := by
                            intro v hv
                            refine z_istore_5 iX11_rests_92 rfl ?_
                            refine z_iinc_4N iX11_rests_94 rfl ?_
                            refine z_iinc_6N iX11_rests_97 rfl ?_
                            refine z_goto iX11_rests_100 ?_
                            rw [hv, ← ec]
                            exact ih (n + 1) μ5 (by omega) hF5
                          refine z_if_eq iX11_rests_67 (fun q4 => ?_) (fun q4 => ?_)
                          · exact absurd q4 nI10
                          · refine z_iload_4 iX11_rests_70 ?_
                            refine z_if_neN iX11_rests_72 (by omega) (fun q5 => ?_) (fun q5 => ?_)
                            · refine z_iload_5 iX11_rests_90 ?_
                              exact fin _ (fstV_s2 q5).symm
                            · refine z_bipush iX11_rests_75 kB_10 ?_
                              refine z_iload_6 iX11_rests_77 ?_
                              refine z_iconst iX11_rests_79 kI_3 ?_
                              refine z_idivN iX11_rests_80 (by omega) (by omega) (by omega) ?_
                              refine z_imulN iX11_rests_81 ?_
                              refine z_iload_6 iX11_rests_82 ?_
                              refine z_iconst iX11_rests_84 kI_3 ?_
                              refine z_iremN iX11_rests_85 (by omega) (by omega) (by omega) ?_
                              refine z_iaddN iX11_rests_86 ?_
                              refine z_goto iX11_rests_87 ?_
                              exact fin _ (fstV_s1 (v := rsV) hpn q5).symm
                        · have hpn : rsB (sR S) i j n = false := by
                            by_cases z : rsB (sR S) i j n = true
                            · exact absurd (rsB_iff.mp z) hp
                            · simpa using z
                          refine z_if_eq iX11_rests_67 (fun q4 => ?_) (fun q4 => ?_)
                          · refine z_iinc_6N iX11_rests_97 rfl ?_
                            refine z_goto iX11_rests_100 ?_
                            rw [← cnt_f hpn, ← fstV_s3 (v := rsV) hpn]
                            exact ih (n + 1) μ5 (by omega) hF5
                          · exact absurd nI00 q4
                  refine z_iconst iX11_rests_36 kI_0 ?_
                  refine z_istore_4 iX11_rests_37 rfl ?_
                  refine z_bipush (x := -9) iX11_rests_39 (by decide) ?_
                  refine z_istore_5 iX11_rests_41 rfl ?_
                  refine z_iconst iX11_rests_43 kI_0 ?_
                  refine z_istore_6 iX11_rests_44 rfl ?_
                  exact loop 9 0 μ3 (by decide) Fm.rf
                · exact absurd q2 nI10
              · omega
            · rcases hr with ⟨rfl, hr⟩ | ⟨rfl, hr⟩
              · omega
              · refine z_if_ne iX11_rests_30 (fun q2 => ?_) (fun q2 => ?_)
                · exact absurd nI00 q2
                · exact out (Or.inr ei)
        · exact absurd q nI10
      · refine z_if_ne iX11_rests_13 (fun q => ?_) (fun q => ?_)
        · exact absurd nI00 q
        · exact no (Or.inr (idx_none hn))
  · refine z_if_eq iX11_rests_5 (fun q => ?_) (fun q => ?_)
    · exact no (Or.inl (idx_none hn))
    · exact absurd nI00 q
/-! clouded -/
theorem c_X11_power (G : qG) (l : Launch) {μ : Mem} {v n : Nat} (hn : n < 1000) : CtrI G l M_X11_power [.int (nI v), .int (nI n)] μ (fun r μ' => μ' = μ ∧ r = nI (v ^ n)) := by
  refine m_enterI [some (.int (nI v)), some (.int (nI n)), none, none] (by decide +kernel) rfl (Nat.le_of_ble_eq_true rfl) (fun X hE hR => ?_)
  have hR : qR X = rm_X11_power := hR
  have hE : EI G X _ (some .int) := hE
  show Zm G X cX11_power RX11 _ 0 [some (.int (nI v)), some (.int (nI n)), none, none] []
  have loop : ∀ (m k : Nat), m + k = n → Zm G X cX11_power RX11 μ 4 [some (.int (nI v)), some (.int (nI n)), some (.int (nI (v ^ k))), some (.int (nI k))] [] := by
    intro m
    induction m with
    | zero =>
      intro k hk
      rw [show k = n by omega]
      refine z_iload_3 iX11_power_4 ?_
      refine z_iload_1 iX11_power_5 ?_
      refine z_icmp_geN iX11_power_6 (by omega) (by omega) (fun q => ?_) (fun q => ?_)
      · refine z_iload_2 iX11_power_19 ?_
        exact m_iret hE iX11_power_20 ⟨rfl, rfl⟩
      · omega
    | succ m ih =>
      intro k hk
      refine z_iload_3 iX11_power_4 ?_
      refine z_iload_1 iX11_power_5 ?_
      refine z_icmp_geN iX11_power_6 (by omega) (by omega) (fun q => ?_) (fun q => ?_)
      · omega
      · refine z_iload_2 iX11_power_9 ?_
        refine z_iload_0 iX11_power_10 ?_
        refine z_imulN iX11_power_11 ?_
        refine z_istore_2 iX11_power_12 rfl ?_
        refine z_iinc_3N iX11_power_13 rfl ?_
        refine z_goto iX11_power_16 ?_
        exact ih (k + 1) (by omega)
  refine z_iconst iX11_power_0 kI_1 ?_
  refine z_istore_2 iX11_power_1 rfl ?_
  refine z_iconst iX11_power_2 kI_0 ?_
  refine z_istore_3 iX11_power_3 rfl ?_
  exact loop n 0 (by omega)
theorem c_X11_common (G : qG) (l : Launch) {μ : Mem} {a b : Nat} (ha : a < 2 ^ 31) (hb : b < 2 ^ 31) : CtrI G l M_X11_common [.int (nI a), .int (nI b)] μ (fun r μ' => μ' = μ ∧ r = nI (Nat.gcd a b)) := by
  refine m_enterI [some (.int (nI a)), some (.int (nI b)), none, none, none] (by decide +kernel) rfl (Nat.le_of_ble_eq_true rfl) (fun X hE hR => ?_)
  have hR : qR X = rm_X11_common := hR
  have hE : EI G X _ (some .int) := hE
  show Zm G X cX11_common RX11 _ 0 [some (.int (nI a)), some (.int (nI b)), none, none, none] []
  have loop : ∀ (n x y : Nat) (o : Option Value), y ≤ n → x < 2 ^ 31 → y < 2 ^ 31 → (o = none ∨ ∃ w, o = some (.int w)) → Nat.gcd x y = Nat.gcd a b → Zm G X cX11_common RX11 μ 13 [some (.int (nI a)), some (.int (nI b)), some (.int (nI x)), some (.int (nI y)), o] [] := by
    intro n
    induction n with
    | zero =>
      intro x y o hn hx hy ho hg
      refine z_iload_3 iX11_common_13 ?_
      refine z_if_eqN iX11_common_14 hy (fun q => ?_) (fun q => by omega)
      refine z_iload_2 iX11_common_30 ?_
      exact m_iret hE iX11_common_31 ⟨rfl, by rw [← hg, q, Nat.gcd_zero_right]⟩
    | succ n ih =>
      intro x y o hn hx hy ho hg
      refine z_iload_3 iX11_common_13 ?_
      refine z_if_eqN iX11_common_14 hy (fun q => ?_) (fun q => ?_)
      · refine z_iload_2 iX11_common_30 ?_
        exact m_iret hE iX11_common_31 ⟨rfl, by rw [← hg, q, Nat.gcd_zero_right]⟩
      · have hm : x % y < y := Nat.mod_lt _ (by omega)
        have hg2 : Nat.gcd y (x % y) = Nat.gcd a b := by rw [← hg, Nat.gcd_comm x y, Nat.gcd_rec y x, Nat.gcd_comm]
        rcases ho with rfl | ⟨w, rfl⟩
        · refine z_iload_2 iX11_common_17 ?_
          refine z_iload_3 iX11_common_18 ?_
          refine z_iremN iX11_common_19 hx (by omega) hy ?_
          refine z_istore_4 iX11_common_20 rfl ?_
          refine z_iload_3 iX11_common_22 ?_
          refine z_istore_2 iX11_common_23 rfl ?_
          refine z_iload_4 iX11_common_24 ?_
          refine z_istore_3 iX11_common_26 rfl ?_
          refine z_goto iX11_common_27 ?_
          exact ih y (x % y) _ (by omega) hy (by omega) (Or.inr ⟨_, rfl⟩) hg2
        · refine z_iload_2 iX11_common_17 ?_
          refine z_iload_3 iX11_common_18 ?_
          refine z_iremN iX11_common_19 hx (by omega) hy ?_
          refine z_istore_4 iX11_common_20 rfl ?_
          refine z_iload_3 iX11_common_22 ?_
          refine z_istore_2 iX11_common_23 rfl ?_
          refine z_iload_4 iX11_common_24 ?_
          refine z_istore_3 iX11_common_26 rfl ?_
          refine z_goto iX11_common_27 ?_
          exact ih y (x % y) _ (by omega) hy (by omega) (Or.inr ⟨_, rfl⟩) hg2
  refine z_iload_0 iX11_common_0 ?_
  refine z_if_ge iX11_common_1 (fun q => ?_) (fun q => absurd (nI_pos' ha) q)
  refine z_iload_0 iX11_common_9 ?_
  refine z_istore_2 iX11_common_10 rfl ?_
  refine z_iload_1 iX11_common_11 ?_
  refine z_istore_3 iX11_common_12 rfl ?_
  exact loop b a b none (Nat.le_refl _) ha hb (Or.inl rfl) rfl
theorem sumN_rev (f : Nat → Nat) : ∀ n, sumN (fun i => f (n - 1 - i)) n = sumN f n := by
  have sh : ∀ (g : Nat → Nat) n, sumN g (n + 1) = g 0 + sumN (fun i => g (i + 1)) n := by
    intro g n
    induction n with
    | zero => simp [sumN]
    | succ n ih =>
      show sumN g (n + 1) + g (n + 1) = g 0 + (sumN (fun i => g (i + 1)) n + g (n + 1))
      rw [ih]; omega
  intro n
  induction n with
  | zero => rfl
  | succ n ih =>
    rw [sh]
    show f (n + 1 - 1 - 0) + sumN (fun i => f (n + 1 - 1 - (i + 1))) n = sumN f n + f n
    have : sumN (fun i => f (n + 1 - 1 - (i + 1))) n = sumN (fun i => f (n - 1 - i)) n := sumN_congr n (fun i hi => by congr 1; omega)
    rw [this, ih, show n + 1 - 1 - 0 = n by omega]
    omega
theorem bit_rev : ∀ s, s < 64 → ∀ t, t < 6 → bitN (63 - s) t = 1 - bitN s t := by decide +kernel
theorem wgt_rev : ∀ s, s < 64 → ∀ x, x < 11 → wgt (63 - s) x = x ^ pcN s * (10 - x) ^ (6 - pcN s) := by decide +kernel
def fItC (F1 F2 : Fe) (s : Nat) : Nat → Bs
  | 0 => (0, 0, 0, 0)
  | p + 1 => fNextC F1 F2 (1 - bitN s p) p (fItC F1 F2 s p)
theorem fItC_mv (F1 F2 : Fe) (s : Nat) : ∀ p, (fItC F1 F2 s p).1 = (fIt F1 F2 p).1 ∧ (fItC F1 F2 s p).2.1 = (fIt F1 F2 p).2.1
  | 0 => ⟨rfl, rfl⟩
  | p + 1 => by
    have ih := fItC_mv F1 F2 s p
    simp only [fItC, fIt, fNextC, fNext]
    rw [ih.1, ih.2]
    exact ⟨rfl, rfl⟩
theorem fItC_h (F1 F2 : Fe) (s : Nat) : ∀ p, (fItC F1 F2 s p).2.2.1 = sumN (fun t => (1 - bitN s t) * made F1 F2 t) p ∧ (fItC F1 F2 s p).2.2.2 = sumN (fun t => (1 - bitN s t) * takn F1 F2 t) p
  | 0 => ⟨rfl, rfl⟩
  | p + 1 => by
    have ih := fItC_h F1 F2 s p
    have mv := fItC_mv F1 F2 s p
    simp only [fItC, fNextC, sumN, made, takn, fIt, fNext]
    rw [mv.1, mv.2, ih.1, ih.2]
    exact ⟨rfl, rfl⟩
theorem fItC_le (F1 F2 : Fe) (s : Nat) : ∀ p, (fItC F1 F2 s p).2.2.1 ≤ p ∧ (fItC F1 F2 s p).2.2.2 ≤ p
  | 0 => ⟨Nat.le_refl _, Nat.le_refl _⟩
  | p + 1 => by
    have ih := fItC_le F1 F2 s p
    have hb := bitN_lt s p
    have h1 := fHit_le (fMove F1.1 F1.2.1 F1.2.2 p (fItC F1 F2 s p).2.1) (fMove F2.1 F2.2.1 F2.2.2 p (fItC F1 F2 s p).1) F2.1
    have h2 := fHit_le (fMove F2.1 F2.2.1 F2.2.2 p (fItC F1 F2 s p).1) (fMove F1.1 F1.2.1 F1.2.2 p (fItC F1 F2 s p).2.1) F1.1
    have h3 : ∀ a, a ≤ 1 → (1 - bitN s p) * a ≤ 1 := fun a ha => Nat.le_trans (Nat.mul_le_mul (show 1 - bitN s p ≤ 1 by omega) ha) (Nat.le_refl _)
    constructor
    · show (fItC F1 F2 s p).2.2.1 + _ ≤ p + 1
      have := h3 _ h1
      omega
    · show (fItC F1 F2 s p).2.2.2 + _ ≤ p + 1
      have := h3 _ h2
      omega
def clR (S : St) (i j x s : Nat) : Nat := if clB S i j (63 - s) then wgt (63 - s) x else 0
theorem clB_rev {S : St} {i j s : Nat} (hs : s < 64) : clB S i j (63 - s) = decide ((fItC (feOf (sR S) (sH S) i) (feOf (sR S) (sH S) j) s 6).2.2.2 < (fItC (feOf (sR S) (sH S) i) (feOf (sR S) (sH S) j) s 6).2.2.1) := by
  unfold clB
  rw [(fItC_h _ _ s 6).1, (fItC_h _ _ s 6).2]
  have e1 : ∀ g : Nat → Nat, sumN (fun t => bitN (63 - s) t * g t) 6 = sumN (fun t => (1 - bitN s t) * g t) 6 := fun g => sumN_congr 6 (fun t ht => by rw [bit_rev s hs t ht])
  rw [e1, e1]
theorem clA_rev (S : St) (i j x : Nat) : sumN (clR S i j x) 64 = clA S i j x := by
  have := sumN_rev (fun s => if clB S i j s then wgt s x else 0) 64
  exact this
theorem wgR (x : Nat) (hx : x ≤ 10) : sumN (fun s => wgt (63 - s) x) 64 = 1000000 := by
  have := sumN_rev (fun s => wgt s x) 64
  rw [← wgt_sum x (by omega)]
  exact this
theorem c_X11_clouded (G : qG) (l : Launch) {μ : Mem} {S : St} (h : MAt μ S) (hS : SOK S) (x y z u : Int32) : CtrI G l M_X11_clouded [.ref (qB G + 140), .int x, .int y, .int z, .int u] μ (QM μ S (qPair S x y z 11 (vCloud S u))) := by
  refine m_enterI [some (.ref (qB G + 140)), some (.int x), some (.int y), some (.int z), some (.int u), none, none, none, none, none] (by decide +kernel) rfl (Nat.le_of_ble_eq_true rfl) (fun X hE hR => ?_)
  have hR : qR X = rm_X11_clouded := hR
  have hE : EI G X _ (some .int) := hE
  show Zm G X cX11_clouded RX11 _ 0 [some (.ref (qB G + 140)), some (.int x), some (.int y), some (.int z), some (.int u), none, none, none, none, none] []
  obtain ⟨h1, h2, h3, h4, h5, h6, h7, h8⟩ := id h
  have hQ := hS.2.2.1
  have hH := hS.2.2.2.1
  have n6 := hQ.1
  have no : (idx x (rFc (sR S)) = none ∨ idx y (rFc (sR S)) = none) → Zm G X cX11_clouded RX11 μ 16 [some (.ref (qB G + 140)), some (.int x), some (.int y), some (.int z), some (.int u), none, none, none, none, none] [] := by
    intro hn
    refine z_iconst (x := -1) iX11_clouded_16 (by decide) ?_
    exact m_iret hE iX11_clouded_17 (QM.rf h (qPair_no hn).symm)
  refine z_aload_0 iX11_clouded_0 ?_
  refine z_iload_1 iX11_clouded_1 ?_
  refine m_callVi iX11_clouded_2 l_11_153 f_X11_isFencer (c_X11_isFencer G _ h1.1 (by omega) x) rfl rfl rfl (Nat.le_of_ble_eq_true rfl) hR ft_X11_clouded_X11_isFencer ⟨rfl, rfl⟩ ?_
  rintro r μ1 ⟨rfl, ⟨rfl, i, hi, rfl⟩ | ⟨rfl, hn⟩⟩
  · refine z_if_eq iX11_clouded_5 (fun q => ?_) (fun q => ?_)
    · exact absurd q nI10
    · refine z_aload_0 iX11_clouded_8 ?_
      refine z_iload_2 iX11_clouded_9 ?_
      refine m_callVi iX11_clouded_10 l_11_153 f_X11_isFencer (c_X11_isFencer G _ h1.1 (by omega) y) rfl rfl rfl (Nat.le_of_ble_eq_true rfl) hR ft_X11_clouded_X11_isFencer ⟨rfl, rfl⟩ ?_
      rintro r μ2 ⟨rfl, ⟨rfl, j, hj, rfl⟩ | ⟨rfl, hn⟩⟩
      · refine z_if_ne iX11_clouded_13 (fun q => ?_) (fun q => ?_)
        · have out : (i = j ∨ idx z 11 = none) → Zm G X cX11_clouded RX11 μ2 35 [some (.ref (qB G + 140)), some (.int (nI i)), some (.int (nI j)), some (.int z), some (.int u), none, none, none, none, none] [] := by
            intro ho
            refine z_bipush (x := -2) iX11_clouded_35 (by decide) ?_
            exact m_iret hE iX11_clouded_37 (QM.rf h (qPair_out n6 hi hj ho).symm)
          refine z_iload_1 iX11_clouded_18 ?_
          refine z_iload_2 iX11_clouded_19 ?_
          refine z_icmp_eqN iX11_clouded_20 (by omega) (by omega) (fun q1 => ?_) (fun q1 => ?_)
          · exact out (Or.inl q1)
          · refine z_iload_3 iX11_clouded_23 ?_
            refine z_i2l iX11_clouded_24 ?_
            refine z_lconst (x := 0) iX11_clouded_25 rfl ?_
            refine z_ldc2 iX11_clouded_26 k_11_248 ?_
            refine m_callSi iX11_clouded_29 l_11_61 f_X11_in (c_inI G _ z (y := 0) (z := 10) (a := 0) (b := 10) rfl rfl) rfl rfl (Nat.le_of_ble_eq_true rfl) hR ft_X11_clouded_X11_in ⟨rfl, rfl⟩ ?_
            rintro r μ3 ⟨rfl, hr⟩
            rcases q_cases z 11 (by decide) with ⟨k, hk, rfl, ei⟩ | ⟨ei, hx, -⟩
            · rw [nI_toInt (by omega)] at hr
              rcases hr with ⟨rfl, hr⟩ | ⟨rfl, hr⟩
              · refine z_if_ne iX11_clouded_32 (fun q2 => ?_) (fun q2 => ?_)
                · have e := qPair_in (v := vCloud S u) n6 hi hj q1 hk (by decide)
                  rw [e] at hE
                  have hA := clA_le (S := S) (i := i) (j := j) (x := k) (by omega)
                  have loop : ∀ (m s : Nat) (o8 o9 : Option Value) (μ' : Mem), m + s = 64 → (o8 = none ∨ ∃ w, o8 = some (.int w)) → (o9 = none ∨ ∃ w, o9 = some (.int w)) → Fm [] kB μ3 μ' → Zm G X cX11_clouded RX11 μ' 47 [some (.ref (qB G + 140)), some (.int (nI i)), some (.int (nI j)), some (.int (nI k)), some (.int u), some (.int (nI (sumN (clR S i j k) s))), some (.int (nI (sumN (fun s => wgt (63 - s) k) s))), some (.int (nI s)), o8, o9] [] := by
                    intro m
                    induction m with
                    | zero =>
                      intro s o8 o9 μ' hn h8 h9 hF
                      rw [show s = 64 by omega, clA_rev, wgR k (by omega)]
                      refine z_iload_7 iX11_clouded_47 ?_
                      refine z_bipush iX11_clouded_49 kB_64 ?_
                      refine z_icmp_geN iX11_clouded_51 (by omega) (by omega) (fun q3 => ?_) (fun q3 => ?_)
                      · have hg : 0 < Nat.gcd (clA S i j k) 1000000 := Nat.gcd_pos_of_pos_right _ (by decide)
                        have hg2 : Nat.gcd (clA S i j k) 1000000 ≤ 1000000 := Nat.le_of_dvd (by decide) (Nat.gcd_dvd_right _ _)
                        refine z_iload_5 iX11_clouded_175 ?_
                        refine z_iload_6 iX11_clouded_177 ?_
                        refine m_callSi iX11_clouded_179 l_11_237 f_X11_common (c_X11_common G _ (by omega) (by decide)) rfl rfl (Nat.le_of_ble_eq_true rfl) hR ft_X11_clouded_X11_common ⟨rfl, rfl⟩ ?_
                        rintro r μ5 ⟨rfl, rfl⟩
                        rcases h8 with rfl | ⟨w8, rfl⟩
                        all_goals (rcases h9 with rfl | ⟨w9, rfl⟩)
                        all_goals {
                        refine z_istore_7 iX11_clouded_182 rfl ?_
                        refine z_iload_4 iX11_clouded_184 ?_
                        refine z_if_eq iX11_clouded_186 (fun q4 => ?_) (fun q4 => ?_)
                        · refine z_iload_6 iX11_clouded_197 ?_
                          refine z_iload_7 iX11_clouded_199 ?_
                          refine z_idivN iX11_clouded_201 (by omega) (by omega) (by omega) ?_
                          refine m_iret hE iX11_clouded_202 (QM.of h hS hF (by decide) kB_kS ?_)
                          unfold vCloud; rw [if_pos q4, Nat.gcd_comm]
                        · refine z_iload_5 iX11_clouded_189 ?_
                          refine z_iload_7 iX11_clouded_191 ?_
                          refine z_idivN iX11_clouded_193 (by omega) (by omega) (by omega) ?_
                          refine z_goto iX11_clouded_194 ?_
                          refine m_iret hE iX11_clouded_202 (QM.of h hS hF (by decide) kB_kS ?_)
                          unfold vCloud; rw [if_neg q4, Nat.gcd_comm] }
                      · omega
                    | succ m ih =>
                      intro s o8 o9 μ' hn h8 h9 hF
                      have hs : s < 64 := by omega
                      have hp6 := pcN_le6 s
                      have ew : k ^ pcN s * (10 - k) ^ (6 - pcN s) = wgt (63 - s) k := (wgt_rev s hs k hk).symm
                      have eB := clB_rev (S := S) (i := i) (j := j) hs
                      refine z_iload_7 iX11_clouded_47 ?_
                      refine z_bipush iX11_clouded_49 kB_64 ?_
                      refine z_icmp_geN iX11_clouded_51 (by omega) (by omega) (fun q3 => ?_) (fun q3 => ?_)
                      · omega
                      · have inner : ∀ (t p : Nat) (μ'' : Mem), t + p = 6 → Fm [] kB μ3 μ'' → PassAt μ'' (fItC (feOf (sR S) (sH S) i) (feOf (sR S) (sH S) j) s p) p → Zm G X cX11_clouded RX11 μ'' 88 [some (.ref (qB G + 140)), some (.int (nI i)), some (.int (nI j)), some (.int (nI k)), some (.int u), some (.int (nI (sumN (clR S i j k) s))), some (.int (nI (sumN (fun s => wgt (63 - s) k) s))), some (.int (nI s)), some (.int (nI (wgt (63 - s) k))), some (.int (nI p))] [] := by
                          intro t
                          induction t with
                          | zero =>
                            intro p μ'' hp hF' hP
                            rw [show p = 6 by omega] at hP ⊢
                            have hle := fItC_le (feOf (sR S) (sH S) i) (feOf (sR S) (sH S) j) s 6
                            have fin : ∀ v : Nat, v = clR S i j k s → Zm G X cX11_clouded RX11 μ'' 166 [some (.ref (qB G + 140)), some (.int (nI i)), some (.int (nI j)), some (.int (nI k)), some (.int u), some (.int (nI (sumN (clR S i j k) s))), some (.int (nI (sumN (fun s => wgt (63 - s) k) s + wgt (63 - s) k))), some (.int (nI s)), some (.int (nI (wgt (63 - s) k))), some (.int (nI 6))] [.int (nI v), .int (nI (sumN (clR S i j k) s))] := by
                              intro v hv
                              refine z_iaddN iX11_clouded_166 ?_
                              refine z_istore_5 iX11_clouded_167 rfl ?_
                              refine z_iinc_7N iX11_clouded_169 rfl ?_
                              refine z_goto iX11_clouded_172 ?_
                              rw [hv]
                              exact ih (s + 1) _ _ μ'' (by omega) (Or.inr ⟨_, rfl⟩) (Or.inr ⟨_, rfl⟩) hF'
                            refine z_iload_9 iX11_clouded_88 ?_
                            refine z_bipush iX11_clouded_90 kB_6 ?_
                            refine z_icmp_geN iX11_clouded_92 (by omega) (by omega) (fun q4 => ?_) (fun q4 => ?_)
                            · refine z_iload_6 iX11_clouded_140 ?_
                              refine z_iload_8 iX11_clouded_142 ?_
                              refine z_iaddN iX11_clouded_144 ?_
                              refine z_istore_6 iX11_clouded_145 rfl ?_
                              refine z_iload_5 iX11_clouded_147 ?_
                              refine z_aload_0 iX11_clouded_149 ?_
                              refine m_getI iX11_clouded_150 g_11_128 rfl ?_
                              refine z_top (hP.2.2.1) ?_
                              refine z_aload_0 iX11_clouded_153 ?_
                              refine m_getI iX11_clouded_154 g_11_131 rfl ?_
                              refine z_top (hP.2.2.2.1) ?_
                              refine z_icmp_leN iX11_clouded_157 (by omega) (by omega) (fun q5 => ?_) (fun q5 => ?_)
                              · refine z_iconst iX11_clouded_165 kI_0 ?_
                                refine fin 0 ?_
                                unfold clR
                                rw [eB, decide_eq_false (by omega)]
                                rfl
                              · refine z_iload_8 iX11_clouded_160 ?_
                                refine z_goto iX11_clouded_162 ?_
                                refine fin _ ?_
                                unfold clR
                                rw [eB, decide_eq_true (by omega)]
                                rfl
                            · omega
                          | succ t iht =>
                            intro p μ'' hp hF' hP
                            have hR2 := h1.fm hF' (by decide) (by decide)
                            have hN2 := h2.fm hQ hF' (by decide) (by decide)
                            have hmv := fIt_mv (feOK hQ hH hi) (feOK hQ hH hj) p
                            have hmc := fItC_mv (feOf (sR S) (sH S) i) (feOf (sR S) (sH S) j) s p
                            have hbt := bitN_lt s p
                            have fin : ∀ c : Nat, c = 1 - bitN s p → Zm G X cX11_clouded RX11 μ'' 131 [some (.ref (qB G + 140)), some (.int (nI i)), some (.int (nI j)), some (.int (nI k)), some (.int u), some (.int (nI (sumN (clR S i j k) s))), some (.int (nI (sumN (fun s => wgt (63 - s) k) s))), some (.int (nI s)), some (.int (nI (wgt (63 - s) k))), some (.int (nI p))] [.int (nI c), .int (nI (hFe (sH S) j)), .int (nI (hFe (sH S) i)), .int (nI j), .int (nI i), .ref (qB G + 140)] := by
                              intro c hc
                              refine m_callVv iX11_clouded_131 l_11_137 f_X11_pass (c_X11_pass (c := c) (F1 := feOf (sR S) (sH S) i) (F2 := feOf (sR S) (sH S) j) G _ (by omega) (by omega) (hR2.fen (sH S) hi) (hR2.fen (sH S) hj) (feOK hQ hH hi) (feOK hQ hH hj) hP (by omega) (by rw [hmc.1]; exact hmv.1) (by rw [hmc.2]; exact hmv.2) (by omega)) rfl rfl rfl (Nat.le_of_ble_eq_true rfl) hR ft_X11_clouded_X11_pass ⟨rfl, rfl⟩ ?_
                              rintro μ6 ⟨hF6, hP6⟩
                              refine z_iinc_9N iX11_clouded_134 rfl ?_
                              refine z_goto iX11_clouded_137 ?_
                              rw [hc] at hP6
                              exact iht (p + 1) μ6 (by omega) (hF'.trans hF6) hP6
                            refine z_iload_9 iX11_clouded_88 ?_
                            refine z_bipush iX11_clouded_90 kB_6 ?_
                            refine z_icmp_geN iX11_clouded_92 (by omega) (by omega) (fun q4 => ?_) (fun q4 => ?_)
                            · omega
                            · refine z_aload_0 iX11_clouded_95 ?_
                              refine z_iload_1 iX11_clouded_96 ?_
                              refine z_iload_2 iX11_clouded_97 ?_
                              refine z_aload_0 iX11_clouded_98 ?_
                              refine m_getR iX11_clouded_99 g_11_22 rfl ?_
                              refine z_bipush iX11_clouded_102 kB_11 ?_
                              refine z_iload_1 iX11_clouded_104 ?_
                              refine z_iaddN iX11_clouded_105 ?_
                              refine m_ialdN iX11_clouded_106 rfl (by omega) ?_
                              refine z_top (hN2.fe0 (by omega)) ?_
                              refine z_aload_0 iX11_clouded_107 ?_
                              refine m_getR iX11_clouded_108 g_11_22 rfl ?_
                              refine z_bipush iX11_clouded_111 kB_11 ?_
                              refine z_iload_2 iX11_clouded_113 ?_
                              refine z_iaddN iX11_clouded_114 ?_
                              refine m_ialdN iX11_clouded_115 rfl (by omega) ?_
                              refine z_top (hN2.fe0 (by omega)) ?_
                              refine z_iload_7 iX11_clouded_116 ?_
                              refine z_iload_9 iX11_clouded_118 ?_
                              refine m_callSi iX11_clouded_120 l_11_195 f_X11_has (c_X11_has G _ hs (show p < 6 by omega)) rfl rfl (Nat.le_of_ble_eq_true rfl) hR ft_X11_clouded_X11_has ⟨rfl, rfl⟩ ?_
                              rintro r μ7 ⟨rfl, rfl⟩
                              refine z_if_neN iX11_clouded_123 (by omega) (fun q5 => ?_) (fun q5 => ?_)
                              · refine z_iconst iX11_clouded_130 kI_0 ?_
                                exact fin 0 (by omega)
                              · refine z_iconst iX11_clouded_126 kI_1 ?_
                                refine z_goto iX11_clouded_127 ?_
                                exact fin 1 (by omega)
                        refine z_iload_3 iX11_clouded_54 ?_
                        refine z_iload_7 iX11_clouded_55 ?_
                        refine m_callSi iX11_clouded_57 l_11_228 f_X11_ones (c_X11_ones G _ hs) rfl rfl (Nat.le_of_ble_eq_true rfl) hR ft_X11_clouded_X11_ones ⟨rfl, rfl⟩ ?_
                        rintro r μ5 ⟨rfl, rfl⟩
                        refine m_callSi iX11_clouded_60 l_11_250 f_X11_power (c_X11_power G _ (v := k) (n := pcN s) (by omega)) rfl rfl (Nat.le_of_ble_eq_true rfl) hR ft_X11_clouded_X11_power ⟨rfl, rfl⟩ ?_
                        rintro r μ5 ⟨rfl, rfl⟩
                        refine z_bipush iX11_clouded_63 kB_10 ?_
                        refine z_iload_3 iX11_clouded_65 ?_
                        refine z_isubN iX11_clouded_66 (by omega) ?_
                        refine z_bipush iX11_clouded_67 kB_6 ?_
                        refine z_iload_7 iX11_clouded_69 ?_
                        refine m_callSi iX11_clouded_71 l_11_228 f_X11_ones (c_X11_ones G _ hs) rfl rfl (Nat.le_of_ble_eq_true rfl) hR ft_X11_clouded_X11_ones ⟨rfl, rfl⟩ ?_
                        rintro r μ5 ⟨rfl, rfl⟩
                        refine z_isubN iX11_clouded_74 (by omega) ?_
                        refine m_callSi iX11_clouded_75 l_11_250 f_X11_power (c_X11_power G _ (v := 10 - k) (n := 6 - pcN s) (by omega)) rfl rfl (Nat.le_of_ble_eq_true rfl) hR ft_X11_clouded_X11_power ⟨rfl, rfl⟩ ?_
                        rintro r μ5 ⟨rfl, rfl⟩
                        refine z_imulN iX11_clouded_78 ?_
                        refine z_top (congrArg nI ew) ?_
                        rcases h8 with rfl | ⟨w8, rfl⟩
                        all_goals (rcases h9 with rfl | ⟨w9, rfl⟩)
                        all_goals {
                        refine z_istore_8 iX11_clouded_79 rfl ?_
                        refine z_aload_0 iX11_clouded_81 ?_
                        refine m_callVv iX11_clouded_82 l_11_134 f_X11_begin (c_X11_begin G _) rfl rfl rfl (Nat.le_of_ble_eq_true rfl) hR ft_X11_clouded_X11_begin ⟨rfl, rfl⟩ ?_
                        rintro μ6 ⟨hF6, hP6⟩
                        refine z_iconst iX11_clouded_85 kI_0 ?_
                        refine z_istore_9 iX11_clouded_86 rfl ?_
                        exact inner 6 0 μ6 (by decide) (hF.trans hF6) hP6 }
                  refine z_iconst iX11_clouded_38 kI_0 ?_
                  refine z_istore_5 iX11_clouded_39 rfl ?_
                  refine z_iconst iX11_clouded_41 kI_0 ?_
                  refine z_istore_6 iX11_clouded_42 rfl ?_
                  refine z_iconst iX11_clouded_44 kI_0 ?_
                  refine z_istore_7 iX11_clouded_45 rfl ?_
                  exact loop 64 0 none none μ3 (by decide) (Or.inl rfl) (Or.inl rfl) Fm.rf
                · exact absurd q2 nI10
              · omega
            · rcases hr with ⟨rfl, hr⟩ | ⟨rfl, hr⟩
              · omega
              · refine z_if_ne iX11_clouded_32 (fun q2 => ?_) (fun q2 => ?_)
                · exact absurd nI00 q2
                · exact out (Or.inr ei)
        · exact absurd q nI10
      · refine z_if_ne iX11_clouded_13 (fun q => ?_) (fun q => ?_)
        · exact absurd nI00 q
        · exact no (Or.inr (idx_none hn))
  · refine z_if_eq iX11_clouded_5 (fun q => ?_) (fun q => ?_)
    · exact no (Or.inl (idx_none hn))
    · exact absurd nI00 q

/-! THE REFERENCE: judge, sightings, seed, feasts, slots, counts -/
theorem lN_1000 : ∀ k, k < 5 → lN (1000 ^ k) * 1000 = lN (1000 ^ (k + 1)) := by
  intro k hk
  rcases (show k = 0 ∨ k = 1 ∨ k = 2 ∨ k = 3 ∨ k = 4 by omega) with rfl | rfl | rfl | rfl | rfl <;> decide
theorem c_X11_thousandTo (G : qG) (l : Launch) {μ : Mem} {n : Nat} (hn : n < 5) : CtrL G l M_X11_thousandTo [.int (nI n)] μ (fun r μ' => μ' = μ ∧ r = lN (1000 ^ n)) := by
  refine m_enterL [some (.int (nI n)), none, none, none] (by decide +kernel) rfl (Nat.le_of_ble_eq_true rfl) rfl (fun X hE hR => ?_)
  have hR : qR X = rm_X11_thousandTo := hR
  show Zm G X cX11_thousandTo RX11 _ 0 [some (.int (nI n)), none, none, none] []
  have loop : ∀ (m k : Nat), m + k = n → Zm G X cX11_thousandTo RX11 μ 4 [some (.int (nI n)), some (.long (lN (1000 ^ k))), none, some (.int (nI k))] [] := by
    intro m
    induction m with
    | zero =>
      intro k hk
      refine z_iload_3 iX11_thousandTo_4 ?_
      refine z_iload_0 iX11_thousandTo_5 ?_
      refine z_icmp_geN iX11_thousandTo_6 (by omega) (by omega) (fun q => ?_) (fun q => ?_)
      · refine z_lload_1 iX11_thousandTo_21 ?_
        exact m_lret hE iX11_thousandTo_22 ⟨rfl, by rw [show k = n by omega]⟩
      · omega
    | succ m ih =>
      intro k hk
      refine z_iload_3 iX11_thousandTo_4 ?_
      refine z_iload_0 iX11_thousandTo_5 ?_
      refine z_icmp_geN iX11_thousandTo_6 (by omega) (by omega) (fun q => ?_) (fun q => ?_)
      · omega
      · refine z_lload_1 iX11_thousandTo_9 ?_
        refine z_ldc2 iX11_thousandTo_10 k_11_208 ?_
        refine z_lmul iX11_thousandTo_13 ?_
        refine z_topl (lN_1000 k (by omega)) ?_
        refine z_lstore_1 iX11_thousandTo_14 rfl ?_
        refine z_iinc_3N iX11_thousandTo_15 rfl ?_
        refine z_goto iX11_thousandTo_18 ?_
        exact ih (k + 1) (by omega)
  refine z_lconst (x := 1) iX11_thousandTo_0 rfl ?_
  refine z_lstore_1 iX11_thousandTo_1 rfl ?_
  refine z_iconst iX11_thousandTo_2 kI_0 ?_
  refine z_istore_3 iX11_thousandTo_3 rfl ?_
  exact loop n 0 (by omega)
theorem MAt.nf1 {μ μ' : Mem} {S : St} (h : MAt μ S) (hS : SOK S) (hF : NF 1 μ μ') : MAt μ' S := by
  obtain ⟨h1, h2, h3, h4, h5, h6, h7, h8⟩ := h
  have hR := hS.2.2.1
  exact ⟨h1.nf hF, h2.row hR (fun k h1 h2 => hF.2 k (by omega)), h3.fm hF.1 (by decide) (by decide), h4.fm hR hF.1 (by decide) (by decide) (by decide), h5.fm hR hF.1 (by decide) (by decide), h6.fm hF.1 (by decide) (by decide) (by decide), by rw [hF.1.2.2]; exact h7, by rw [hF.1.1 141 (by decide) (by decide)]; exact h8⟩
theorem NF.cs {μ μ' : Mem} {lv : Nat} (hF : NF lv μ μ') : CSame μ μ' := hF.1.cs (by decide)
theorem lN_m1 {n : Nat} (hn : n < 5) : lN (1000 ^ n) - 1 = lN (1000 ^ n - 1) := by
  rcases (show n = 0 ∨ n = 1 ∨ n = 2 ∨ n = 3 ∨ n = 4 by omega) with rfl | rfl | rfl | rfl | rfl <;> decide
theorem c_X11_judge (G : qG) (l : Launch) {μ : Mem} {S : St} (h : MAt μ S) (hS : SOK S) (x : Int32) (v : Int64) : CtrI G l M_X11_judge [.ref (qB G + 140), .int x, .long v] μ (QM μ S (qJudge S x v)) := by
  refine m_enterI [some (.ref (qB G + 140)), some (.int x), some (.long v), none, none, none] (by decide +kernel) rfl (Nat.le_of_ble_eq_true rfl) (fun X hE hR => ?_)
  have hR : qR X = rm_X11_judge := hR
  have hE : EI G X _ (some .int) := hE
  show Zm G X cX11_judge RX11 _ 0 [some (.ref (qB G + 140)), some (.int x), some (.long v), none, none, none] []
  have out : qJudge S x v = -2 → Zm G X cX11_judge RX11 μ 26 [some (.ref (qB G + 140)), some (.int x), some (.long v), none, none, none] [] := by
    intro e
    refine z_bipush (x := -2) iX11_judge_26 (by decide) ?_
    exact m_iret hE iX11_judge_28 (QM.rf h e.symm)
  obtain ⟨h1, h2, h3, h4, h5, h6, h7, h8⟩ := id h
  have hQ := hS.2.2.1
  have n6 := hQ.1
  refine z_iload_1 iX11_judge_0 ?_
  refine z_i2l iX11_judge_1 ?_
  refine z_lconst (x := 1) iX11_judge_2 rfl ?_
  refine z_ldc2 iX11_judge_3 k_11_210 ?_
  refine m_callSi iX11_judge_6 l_11_61 f_X11_in (c_inI G _ x (y := 1) (z := 4) (a := 1) (b := 4) rfl rfl) rfl rfl (Nat.le_of_ble_eq_true rfl) hR ft_X11_judge_X11_in ⟨rfl, rfl⟩ ?_
  rintro r μ1 ⟨rfl, hr⟩
  rcases q_cases x 5 (by decide) with ⟨n, hn, rfl, ei⟩ | ⟨ei, hx, -⟩
  · have eq : qJudge S (nI n) v = if n = 0 ∨ v < 0 ∨ ¬ jN v < 1000 ^ n then -2 else jdR (sR S) (jN v) n n 0 (sH S) := by unfold qJudge; rw [ei]
    rw [nI_toInt (by omega)] at hr
    rcases hr with ⟨rfl, hr⟩ | ⟨rfl, hr⟩
    · refine z_if_eq iX11_judge_9 (fun q => ?_) (fun q => ?_)
      · exact absurd q nI10
      · refine z_lload_2 iX11_judge_12 ?_
        refine z_lconst (x := 0) iX11_judge_13 rfl ?_
        refine z_iload_1 iX11_judge_14 ?_
        refine m_callSl iX11_judge_15 l_11_212 f_X11_thousandTo (c_X11_thousandTo G _ hn) rfl rfl (Nat.le_of_ble_eq_true rfl) hR ft_X11_judge_X11_thousandTo ⟨rfl, rfl⟩ ?_
        rintro r μ2 ⟨rfl, rfl⟩
        have hp := p1000 (j := n) hn
        refine z_lconst (x := 1) iX11_judge_18 rfl ?_
        refine z_lsub iX11_judge_19 ?_
        refine z_topl (lN_m1 hn) ?_
        refine m_callSi iX11_judge_20 l_11_61 f_X11_in (c_X11_in G _ v 0 (lN (1000 ^ n - 1))) rfl rfl (Nat.le_of_ble_eq_true rfl) hR ft_X11_judge_X11_in ⟨rfl, rfl⟩ ?_
        rintro r μ3 ⟨rfl, hr2⟩
        by_cases q4 : v < 0
        · rcases hr2 with ⟨rfl, hr2⟩ | ⟨rfl, hr2⟩
          · exact absurd q4 (Int64.not_lt.mpr hr2.1)
          · refine z_if_ne iX11_judge_23 (fun q5 => ?_) (fun q5 => ?_)
            · exact absurd nI00 q5
            · exact out (by rw [eq]; exact if_pos (Or.inr (Or.inl q4)))
        · obtain ⟨m, hm, rfl⟩ := pk_lOf q4
          have hle : lN m ≤ lN (1000 ^ n - 1) ↔ m < 1000 ^ n := by rw [pk_lLE hm (by omega)]; omega
          rcases hr2 with ⟨rfl, hr2⟩ | ⟨rfl, hr2⟩
          · have q6 : m < 1000 ^ n := hle.mp hr2.2
            refine z_if_ne iX11_judge_23 (fun q5 => ?_) (fun q5 => ?_)
            · have e2 : qJudge S (nI n) (lN m) = jdR (sR S) m n n 0 (sH S) := by
                rw [eq, jN_lN hm]
                exact if_neg (fun z => by rcases z with z | z | z; (· omega); (· exact q4 z); (· exact z q6))
              rw [e2] at hE
              have loop : ∀ (t k : Nat) (H : Hd) (μ' : Mem) (o : Option Value), t + k = n → (o = none ∨ ∃ w, o = some (.int w)) → NF 1 μ3 μ' → NowAt μ' 145 18 (sR S) H → HdOK (sR S) H → jdR (sR S) m n t k H = jdR (sR S) m n n 0 (sH S) → Zm G X cX11_judge RX11 μ' 36 [some (.ref (qB G + 140)), some (.int (nI n)), some (.long (lN m)), none, some (.int (nI k)), o] [] := by
                intro t
                induction t with
                | zero =>
                  intro k H μ' o hk ho hF hH hO hj
                  refine z_iload_4 iX11_judge_36 ?_
                  refine z_iload_1 iX11_judge_38 ?_
                  refine z_icmp_geN iX11_judge_39 (by omega) (by omega) (fun q7 => ?_) (fun q7 => ?_)
                  · refine z_bipush (x := -9) iX11_judge_94 (by decide) ?_
                    exact m_iret hE iX11_judge_96 ⟨hj, h.nf1 hS hF, hF.cs⟩
                  · omega
                | succ t ih =>
                  intro k H μ' o hk ho hF hH hO hj
                  have hw : jW m n k < 1000 := Nat.mod_lt _ (by decide)
                  refine z_iload_4 iX11_judge_36 ?_
                  refine z_iload_1 iX11_judge_38 ?_
                  refine z_icmp_geN iX11_judge_39 (by omega) (by omega) (fun q7 => ?_) (fun q7 => ?_)
                  · omega
                  · refine z_lload_2 iX11_judge_42 ?_
                    refine z_iload_1 iX11_judge_43 ?_
                    refine z_iconst iX11_judge_44 kI_1 ?_
                    refine z_isubN iX11_judge_45 (by omega) ?_
                    refine z_iload_4 iX11_judge_46 ?_
                    refine z_isubN iX11_judge_48 (by omega) ?_
                    refine m_callSl iX11_judge_49 l_11_212 f_X11_thousandTo (c_X11_thousandTo (n := n - 1 - k) G _ (by omega)) rfl rfl (Nat.le_of_ble_eq_true rfl) hR ft_X11_judge_X11_thousandTo ⟨rfl, rfl⟩ ?_
                    rintro r μ4 ⟨rfl, rfl⟩
                    have hne : ¬ lN (1000 ^ (n - 1 - k)) = 0 := by
                      have h2 := p1000 (j := n - 1 - k) (by omega)
                      intro z
                      have := (pk_lEQ (a := 1000 ^ (n - 1 - k)) (b := 0) (by omega) (by decide)).mp z
                      omega
                    refine z_ldiv iX11_judge_52 hne ?_
                    refine z_ldc2 iX11_judge_53 k_11_208 ?_
                    refine z_lrem iX11_judge_56 (by decide) ?_
                    refine z_l2i iX11_judge_57 ?_
                    refine z_top (jW_eq hm (by omega)) ?_
                    rcases ho with rfl | ⟨w, rfl⟩
                    all_goals {
                    refine z_istore_5 iX11_judge_58 rfl ?_
                    refine z_aload_0 iX11_judge_60 ?_
                    refine z_iload_5 iX11_judge_61 ?_
                    refine z_bipush iX11_judge_63 kB_100 ?_
                    refine z_idivN iX11_judge_65 (by omega) (by omega) (by omega) ?_
                    refine z_iload_5 iX11_judge_66 ?_
                    refine z_bipush iX11_judge_68 kB_10 ?_
                    refine z_idivN iX11_judge_70 (by omega) (by omega) (by omega) ?_
                    refine z_bipush iX11_judge_71 kB_10 ?_
                    refine z_iremN iX11_judge_73 (by omega) (by omega) (by omega) ?_
                    refine z_iload_5 iX11_judge_74 ?_
                    refine z_bipush iX11_judge_76 kB_10 ?_
                    refine z_iremN iX11_judge_78 (by omega) (by omega) (by omega) ?_
                    refine m_callVi iX11_judge_79 l_11_219 f_X11_tryThing (c_X11_tryThing (d := jW m n k / 100) (a := jW m n k / 10 % 10) (b := jW m n k % 10) G _ hQ hO (h1.nf hF) hH (by omega) (by omega) (by omega)) rfl rfl rfl (Nat.le_of_ble_eq_true rfl) hR ft_X11_judge_X11_tryThing ⟨rfl, rfl⟩ ?_
                    rintro r μ5 ⟨hF2, hH2, ⟨rfl, hP⟩ | ⟨rfl, hP⟩⟩
                    · refine z_if_ne iX11_judge_82 (fun q8 => ?_) (fun q8 => ?_)
                      · refine z_iinc_4N iX11_judge_88 rfl ?_
                        refine z_goto iX11_judge_91 ?_
                        refine ih (k + 1) _ μ5 _ (by omega) (Or.inr ⟨_, rfl⟩) (hF.trans hF2) hH2 (doOK hQ hO) ?_
                        rw [← hj]
                        show _ = ite _ _ _
                        rw [if_pos (doB_iff.mpr hP)]
                      · exact absurd q8 nI10
                    · refine z_if_ne iX11_judge_82 (fun q8 => ?_) (fun q8 => ?_)
                      · exact absurd nI00 q8
                      · refine z_iload_4 iX11_judge_85 ?_
                        refine m_iret hE iX11_judge_87 ⟨?_, h.nf1 hS (hF.trans hF2), (hF.trans hF2).cs⟩
                        rw [← hj]
                        show _ = ite _ _ _
                        rw [if_neg (fun z => hP (doB_iff.mp z))] }
              refine z_aload_0 iX11_judge_29 ?_
              refine m_callVv iX11_judge_30 l_11_216 f_X11_layTrial (c_X11_layTrial G _) rfl rfl rfl (Nat.le_of_ble_eq_true rfl) hR ft_X11_judge_X11_layTrial ⟨rfl, rfl⟩ ?_
              rintro μ4 ⟨hF4, hN4⟩
              refine z_iconst iX11_judge_33 kI_0 ?_
              refine z_istore_4 iX11_judge_34 rfl ?_
              exact loop n 0 (sH S) μ4 none (by omega) (Or.inl rfl) hF4 (hN4 _ _ hQ h2) hS.2.2.2.1 rfl
            · exact absurd q5 nI10
          · refine z_if_ne iX11_judge_23 (fun q5 => ?_) (fun q5 => ?_)
            · exact absurd nI00 q5
            · refine out ?_
              rw [eq]
              refine if_pos (Or.inr (Or.inr ?_))
              rw [jN_lN hm]
              exact fun z => hr2 ⟨Int64.not_lt.mp q4, hle.mpr z⟩
    · refine z_if_eq iX11_judge_9 (fun q => ?_) (fun q => ?_)
      · exact out (by rw [eq]; exact if_pos (Or.inl (by omega)))
      · exact absurd nI00 q
  · rcases hr with ⟨rfl, hr⟩ | ⟨rfl, hr⟩
    · omega
    · refine z_if_eq iX11_judge_9 (fun q => ?_) (fun q => ?_)
      · exact out (by unfold qJudge; rw [ei])
      · exact absurd nI00 q
theorem c_X11_see (G : qG) (l : Launch) {μ : Mem} {S : St} (h : MAt μ S) (hS : SOK S) (x y : Int32) : CtrI G l M_X11_see [.ref (qB G + 140), .int x, .int y] μ (PM μ (aSee S x y)) := by
  refine m_enterI [some (.ref (qB G + 140)), some (.int x), some (.int y)] (by decide +kernel) rfl (Nat.le_of_ble_eq_true rfl) (fun X hE hR => ?_)
  have hR : qR X = rm_X11_see := hR
  have hE : EI G X _ (some .int) := hE
  show Zm G X cX11_see RX11 _ 0 [some (.ref (qB G + 140)), some (.int x), some (.int y)] []
  obtain ⟨h1, h2, h3, h4, h5, h6, h7, h8⟩ := id h
  have hQ := hS.2.2.1
  have n6 := hQ.1
  have ns := hS.2.2.2.2.2.2.2.1
  refine z_aload_0 iX11_see_0 ?_
  refine z_iload_1 iX11_see_1 ?_
  refine m_callVi iX11_see_2 l_11_153 f_X11_isFencer (c_X11_isFencer G _ h1.1 (by omega) x) rfl rfl rfl (Nat.le_of_ble_eq_true rfl) hR ft_X11_see_X11_isFencer ⟨rfl, rfl⟩ ?_
  rintro r μ1 ⟨rfl, ⟨rfl, f, hf, rfl⟩ | ⟨rfl, hn⟩⟩
  · have ef := idx_some (n := rFc (sR S)) (f := f) (by omega) hf
    refine z_if_ne iX11_see_5 (fun q => ?_) (fun q => ?_)
    · refine z_iload_2 iX11_see_10 ?_
      refine z_i2l iX11_see_11 ?_
      refine z_lconst (x := 0) iX11_see_12 rfl ?_
      refine z_ldc2 iX11_see_13 k_11_187 ?_
      refine m_callSi iX11_see_16 l_11_61 f_X11_in (c_inI G _ y (y := 0) (z := 9) (a := 0) (b := 9) rfl rfl) rfl rfl (Nat.le_of_ble_eq_true rfl) hR ft_X11_see_X11_in ⟨rfl, rfl⟩ ?_
      rintro r μ3 ⟨rfl, hr⟩
      rcases q_cases y 10 (by decide) with ⟨k, hk, rfl, ei⟩ | ⟨ei, hx, -⟩
      · rw [nI_toInt (by omega)] at hr
        rcases hr with ⟨rfl, hr⟩ | ⟨rfl, hr⟩
        · refine z_if_ne iX11_see_19 (fun q2 => ?_) (fun q2 => ?_)
          · refine z_aload_0 iX11_see_25 ?_
            refine m_getI iX11_see_26 g_11_222 rfl ?_
            refine z_top (h6.1) ?_
            refine z_bipush iX11_see_29 kB_6 ?_
            refine z_icmp_neN iX11_see_31 (by omega) (by omega) (fun q3 => ?_) (fun q3 => ?_)
            · have e : aSee S (nI f) (nI k) = (nI (sNs S + 1), setSe S (sNs S + 1) (updN (sSf S) (sNs S) f) (updN (sSh S) (sNs S) k)) := by unfold aSee; rw [ef, ei]; exact if_neg (by omega)
              rw [e] at hE
              have k1 : (mw μ3 153 (sNs S) (nI f)).1 140 26 = nI (sNs S) := by rw [mw_ne _ _ (Or.inl (by decide))]; exact h6.1
              have k2 : (mw (mw μ3 153 (sNs S) (nI f)) 154 (sNs S) (nI k)).1 140 26 = nI (sNs S) := by rw [mw_ne _ _ (Or.inl (by decide))]; exact k1
              refine z_aload_0 iX11_see_37 ?_
              refine m_getR iX11_see_38 g_11_46 rfl ?_
              refine z_aload_0 iX11_see_41 ?_
              refine m_getI iX11_see_42 g_11_222 rfl ?_
              refine z_top (h6.1) ?_
              refine z_iload_1 iX11_see_45 ?_
              refine m_iastN iX11_see_46 rfl (by omega) ?_
              refine z_aload_0 iX11_see_47 ?_
              refine m_getR iX11_see_48 g_11_49 rfl ?_
              refine z_aload_0 iX11_see_51 ?_
              refine m_getI iX11_see_52 g_11_222 rfl ?_
              refine z_top (k1) ?_
              refine z_iload_2 iX11_see_55 ?_
              refine m_iastN iX11_see_56 rfl (by omega) ?_
              refine z_aload_0 iX11_see_57 ?_
              refine z_dup iX11_see_58 rfl ?_
              refine m_getI iX11_see_59 g_11_222 rfl ?_
              refine z_top (k2) ?_
              refine z_iconst iX11_see_62 kI_1 ?_
              refine z_iaddN iX11_see_63 ?_
              refine m_putI iX11_see_64 p_11_222 rfl ?_
              refine z_aload_0 iX11_see_67 ?_
              refine m_getI iX11_see_68 g_11_222 rfl ?_
              refine z_top (mw_same _ _ _ _) ?_
              have hF : Fm [153, 154] [26] μ3 (mw (mw (mw μ3 153 (sNs S) (nI f)) 154 (sNs S) (nI k)) 140 26 (nI (sNs S + 1))) := ((Fm.rf.mw _ _ (by decide) (by decide)).mw _ _ (by decide) (by decide)).put _ _ (by decide)
              refine m_iret hE iX11_see_71 ⟨rfl, ⟨h1.fm hF (by decide) (by decide), h2.fm hQ hF (by decide) (by decide), h3.fm hF (by decide) (by decide), h4.fm hQ hF (by decide) (by decide) (by decide), h5.fm hQ hF (by decide) (by decide), ⟨mw_same _ _ _ _, ?_⟩, h7, by rw [hF.1 141 (by decide) (by decide)]; exact h8⟩, hF.cs (by decide)⟩
              intro i hi
              have hi' : i < sNs S + 1 := hi
              show _ = nI (updN (sSf S) (sNs S) f i) ∧ _ = nI (updN (sSh S) (sNs S) k i)
              unfold updN
              by_cases e2 : i = sNs S
              · rw [if_pos e2, if_pos e2]
                simp [mw_rd, e2]
              · rw [if_neg e2, if_neg e2]
                simp [mw_rd, e2]
                exact h6.2 i (by omega)
            · refine z_bipush (x := -4) iX11_see_34 (by decide) ?_
              exact m_iret hE iX11_see_36 (PM.rf h (by unfold aSee; rw [ef, ei]; exact if_pos (by omega)))
          · exact absurd q2 nI10
        · omega
      · rcases hr with ⟨rfl, hr⟩ | ⟨rfl, hr⟩
        · omega
        · refine z_if_ne iX11_see_19 (fun q2 => ?_) (fun q2 => ?_)
          · exact absurd nI00 q2
          · refine z_bipush (x := -2) iX11_see_22 (by decide) ?_
            exact m_iret hE iX11_see_24 (PM.rf h (by unfold aSee; rw [ef, ei]))
    · exact absurd q nI10
  · refine z_if_ne iX11_see_5 (fun q => ?_) (fun q => ?_)
    · exact absurd nI00 q
    · refine z_iconst (x := -1) iX11_see_8 (by decide) ?_
      exact m_iret hE iX11_see_9 (PM.rf h (by unfold aSee; rw [idx_none hn]))
theorem c_X11_unsee (G : qG) (l : Launch) {μ : Mem} {S : St} (h : MAt μ S) (hS : SOK S) : CtrI G l M_X11_unsee [.ref (qB G + 140)] μ (PM μ (aUnsee S)) := by
  refine m_enterI [some (.ref (qB G + 140)), none] (by decide +kernel) rfl (Nat.le_of_ble_eq_true rfl) (fun X hE hR => ?_)
  have hR : qR X = rm_X11_unsee := hR
  have hE : EI G X _ (some .int) := hE
  show Zm G X cX11_unsee RX11 _ 0 [some (.ref (qB G + 140)), none] []
  obtain ⟨h1, h2, h3, h4, h5, h6, h7, h8⟩ := id h
  have hQ := hS.2.2.1
  refine z_aload_0 iX11_unsee_0 ?_
  refine m_getI iX11_unsee_1 g_11_222 rfl ?_
  refine z_top (h6.1) ?_
  refine z_istore_1 iX11_unsee_4 rfl ?_
  refine z_aload_0 iX11_unsee_5 ?_
  refine z_iconst iX11_unsee_6 kI_0 ?_
  refine m_putI iX11_unsee_7 p_11_222 rfl ?_
  refine z_iload_1 iX11_unsee_10 ?_
  have hF : Fm [] [26] μ (mw μ 140 26 (nI 0)) := Fm.rf.put _ _ (by decide)
  exact m_iret hE iX11_unsee_11 ⟨rfl, ⟨h1.fm hF (by decide) (by decide), h2.fm hQ hF (by decide) (by decide), h3.fm hF (by decide) (by decide), h4.fm hQ hF (by decide) (by decide) (by decide), h5.fm hQ hF (by decide) (by decide), ⟨mw_same _ _ _ _, fun i hi => absurd hi (Nat.not_lt_zero i)⟩, h7, by rw [hF.1 141 (by decide) (by decide)]; exact h8⟩, hF.cs (by decide)⟩
theorem sd_model : ∀ i : Nat, i ≠ 29 → ([none, none, some (some 141), some (some 142), some (some 143), some (some 144), some (some 145), some (some 146), some (some 147), none, none, some (some 148), none, none, none, none, none, none, none, none, none, none, some (some 149), some (some 150), some (some 151), some (some 152), none, some (some 153), some (some 154), some none, some (some 155), some (some 156)] : List (Option (Option Nat)))[i]? ≠ some (some none) := by
  intro i hi
  by_cases z : i < 32
  · have : ∀ i, i < 32 → i ≠ 29 → ([none, none, some (some 141), some (some 142), some (some 143), some (some 144), some (some 145), some (some 146), some (some 147), none, none, some (some 148), none, none, none, none, none, none, none, none, none, none, some (some 149), some (some 150), some (some 151), some (some 152), none, some (some 153), some (some 154), some none, some (some 155), some (some 156)] : List (Option (Option Nat)))[i]? ≠ some (some none) := by decide +kernel
    exact this i z hi
  · rw [List.getElem?_eq_none (by simp; omega)]
    intro q; cases q
theorem MAt.seed {μ : Mem} {S : St} (h : MAt μ S) (v : Int64) : MAt (mwL μ 140 v) (setSd S v) ∧ CSame μ (mwL μ 140 v) := by
  obtain ⟨h1, h2, h3, h4, h5, h6, h7, h8⟩ := h
  exact ⟨⟨h1, h2, h3, h4, h5, h6, rfl, h8⟩, fun a ha => ⟨rfl, if_neg (by omega)⟩, rfl⟩
theorem c_X11_seed (G : qG) (l : Launch) {μ : Mem} {S : St} (h : MAt μ S) (v : Int64) : CtrL G l M_X11_seed [.ref (qB G + 140), .long v] μ (fun r μ' => r = sSd S ∧ MAt μ' (setSd S v) ∧ CSame μ μ') := by
  refine m_enterL [some (.ref (qB G + 140)), some (.long v), none, none, none] (by decide +kernel) rfl (Nat.le_of_ble_eq_true rfl) rfl (fun X hE hR => ?_)
  have hR : qR X = rm_X11_seed := hR
  show Zm G X cX11_seed RX11 _ 0 [some (.ref (qB G + 140)), some (.long v), none, none, none] []
  obtain ⟨h1, h2, h3, h4, h5, h6, h7, h8⟩ := id h
  refine z_aload_0 iX11_seed_0 ?_
  refine m_getL iX11_seed_1 g_11_253 rfl ?_
  refine z_lstore_3 iX11_seed_4 rfl ?_
  refine z_aload_0 iX11_seed_5 ?_
  refine z_lload_1 iX11_seed_6 ?_
  refine m_putL iX11_seed_7 g_11_253 (by decide +kernel) (by decide +kernel) rfl rfl sd_model ?_
  refine z_lload_3 iX11_seed_10 ?_
  exact m_lret hE iX11_seed_11 ⟨h7, (h.seed v).1, (h.seed v).2⟩
theorem MAt.rollSd {μ : Mem} {S : St} {v : Int64} (h : MAt μ (setSd S v)) : MRoll μ (sR S) := h.1
theorem MAt.sdOf {μ : Mem} {S : St} {v : Int64} (h : MAt μ (setSd S v)) : μ.2.1 140 = v := h.2.2.2.2.2.2.1
theorem SOK.sd {S : St} (h : SOK S) (v : Int64) : SOK (setSd S v) := h
theorem feast_lt {v : Nat} (hv : v < 42) : v / 5 < 10 ∧ v % 5 < 10 := by omega
theorem c_X11_feasts (G : qG) (l : Launch) {μ : Mem} {S : St} (h : MAt μ S) (hS : SOK S) (x : Int32) : CtrI G l M_X11_feasts [.ref (qB G + 140), .int x] μ (PM μ (aFeasts S x)) := by
  refine m_enterI [some (.ref (qB G + 140)), some (.int x), none, none, none] (by decide +kernel) rfl (Nat.le_of_ble_eq_true rfl) (fun X hE hR => ?_)
  have hR : qR X = rm_X11_feasts := hR
  have hE : EI G X _ (some .int) := hE
  show Zm G X cX11_feasts RX11 _ 0 [some (.ref (qB G + 140)), some (.int x), none, none, none] []
  have out : idx x 31 = none ∨ x = nI 0 → Zm G X cX11_feasts RX11 μ 12 [some (.ref (qB G + 140)), some (.int x), none, none, none] [] := by
    intro q
    have e : aFeasts S x = (-2, S) := by
      unfold aFeasts
      rcases q with q | rfl
      · rw [q]
      · rw [idx_some (by decide) (by decide)]; rfl
    refine z_bipush (x := -2) iX11_feasts_12 (by decide) ?_
    exact m_iret hE iX11_feasts_14 (PM.rf h e)
  obtain ⟨h1, h2, h3, h4, h5, h6, h7, h8⟩ := id h
  have hQ := hS.2.2.1
  refine z_iload_1 iX11_feasts_0 ?_
  refine z_i2l iX11_feasts_1 ?_
  refine z_lconst (x := 1) iX11_feasts_2 rfl ?_
  refine z_ldc2 iX11_feasts_3 k_11_257 ?_
  refine m_callSi iX11_feasts_6 l_11_61 f_X11_in (c_inI G _ x (y := 1) (z := 30) (a := 1) (b := 30) rfl rfl) rfl rfl (Nat.le_of_ble_eq_true rfl) hR ft_X11_feasts_X11_in ⟨rfl, rfl⟩ ?_
  rintro r μ1 ⟨rfl, hr⟩
  rcases q_cases x 31 (by decide) with ⟨m, hm, rfl, ei⟩ | ⟨ei, hx, -⟩
  · rw [nI_toInt (by omega)] at hr
    rcases hr with ⟨rfl, hr⟩ | ⟨rfl, hr⟩
    · refine z_if_ne iX11_feasts_9 (fun q => ?_) (fun q => ?_)
      · have e : aFeasts S (nI m) = (nI (fsI (sR S) m (sSd S) (sH S) 0).2, setSd S (fsI (sR S) m (sSd S) (sH S) 0).1) := by unfold aFeasts; rw [ei]; exact if_neg (by omega)
        rw [e] at hE
        have loop : ∀ (t k c : Nat) (sd : Int64) (H : Hd) (μ' : Mem) (o : Option Value), t + k = m → (o = none ∨ ∃ w, o = some (.int w)) → c ≤ 64 * k → MAt μ' (setSd S sd) → CSame μ1 μ' → NowAt μ' 145 18 (sR S) H → HdOK (sR S) H → fsI (sR S) t sd H c = fsI (sR S) m (sSd S) (sH S) 0 → Zm G X cX11_feasts RX11 μ' 23 [some (.ref (qB G + 140)), some (.int (nI m)), some (.int (nI c)), some (.int (nI k)), o] [] := by
          intro t
          induction t with
          | zero =>
            intro k c sd H μ' o hk ho hc hC hM hH hO hf
            refine z_iload_3 iX11_feasts_23 ?_
            refine z_iload_1 iX11_feasts_24 ?_
            refine z_icmp_geN iX11_feasts_25 (by omega) (by omega) (fun q3 => ?_) (fun q3 => ?_)
            · refine z_iload_2 iX11_feasts_133 ?_
              refine m_iret hE iX11_feasts_134 ⟨?_, ?_, hM⟩
              · rw [← hf]; rfl
              · rw [← hf]; exact hC
            · omega
          | succ t ih =>
            intro k c sd H μ' o hk ho hc hC hM hH hO hf
            refine z_iload_3 iX11_feasts_23 ?_
            refine z_iload_1 iX11_feasts_24 ?_
            refine z_icmp_geN iX11_feasts_25 (by omega) (by omega) (fun q3 => ?_) (fun q3 => ?_)
            · omega
            · obtain ⟨sd', es1⟩ : ∃ sd', sd * 6364136223846793005 + 1442695040888963407 = sd' := ⟨_, rfl⟩
              have es2 : nxS sd = sd' := es1
              rw [fsI_succ, es2] at hf
              unfold strN at hf
              refine z_aload_0 iX11_feasts_28 ?_
              refine z_aload_0 iX11_feasts_29 ?_
              refine m_getL iX11_feasts_30 g_11_253 rfl ?_
              refine z_topl (hC.sdOf) ?_
              refine z_ldc2 iX11_feasts_33 k_11_259 ?_
              refine z_lmul iX11_feasts_36 ?_
              refine z_ldc2 iX11_feasts_37 k_11_261 ?_
              refine z_ladd iX11_feasts_40 ?_
              refine z_topl (es1) ?_
              refine m_putL iX11_feasts_41 g_11_253 (by decide +kernel) (by decide +kernel) rfl rfl sd_model ?_
              have hC1 : MAt (mwL μ' 140 sd') (setSd S sd') := (hC.seed sd').1
              have hM1 : CSame μ1 (mwL μ' 140 sd') := hM.trans (hC.seed sd').2
              have hH1 : NowAt (mwL μ' 140 sd') 145 18 (sR S) H := hH
              have hv := drw_lt sd'
              have hd1 := drw_sh sd'
              have hd2 := drw_eq sd'
              generalize drw sd' = dv at hv hd2 hf
              have hdv := feast_lt hv
              have tail : ∀ (μ2 : Mem), NF 1 (mwL μ' 140 sd') μ2 → NowAt μ2 145 18 (sR S) (feastH (sR S) H dv) → HdOK (sR S) (feastH (sR S) H dv) → Zm G X cX11_feasts RX11 μ2 116 [some (.ref (qB G + 140)), some (.int (nI m)), some (.int (nI c)), some (.int (nI k)), some (.int (nI dv))] [] := by
                intro μ2 hF2 hH2 hO2
                generalize feastH (sR S) H dv = H3 at hH2 hO2 hf
                have hC3 : MAt μ2 (setSd S sd') := hC1.nf1 (hS.sd sd') hF2
                have hM3 : CSame μ1 μ2 := hM1.trans hF2.cs
                refine z_iload_2 iX11_feasts_116 ?_
                refine z_aload_0 iX11_feasts_117 ?_
                refine z_iconst iX11_feasts_118 kI_1 ?_
                refine m_callVi iX11_feasts_119 l_11_265 f_X11_strayed (c_X11_strayed (lv := 1) G _ hQ hO2 hC3.rollSd (by decide) hH2) rfl rfl rfl (Nat.le_of_ble_eq_true rfl) hR ft_X11_feasts_X11_strayed ⟨rfl, rfl⟩ ?_
                rintro r μ3 ⟨rfl, rfl⟩
                have hb : bset (fun g => decide (hOw H3 g ≠ rTl (sR S) g)) (rGc (sR S)) < 64 := by
                  have h1 := bset_lt (fun g => decide (hOw H3 g ≠ rTl (sR S) g)) (rGc (sR S))
                  have h2 : 2 ^ rGc (sR S) ≤ 2 ^ 6 := Nat.pow_le_pow_right (by decide) (by have := hQ.2.1; omega)
                  omega
                generalize bset (fun g => decide (hOw H3 g ≠ rTl (sR S) g)) (rGc (sR S)) = b at hb hf
                refine m_callSi iX11_feasts_122 l_11_228 f_X11_ones (c_X11_ones G _ hb) rfl rfl (Nat.le_of_ble_eq_true rfl) hR ft_X11_feasts_X11_ones ⟨rfl, rfl⟩ ?_
                rintro r μ4 ⟨rfl, rfl⟩
                refine z_iaddN iX11_feasts_125 ?_
                refine z_istore_2 iX11_feasts_126 rfl ?_
                refine z_iinc_3N iX11_feasts_127 rfl ?_
                refine z_goto iX11_feasts_130 ?_
                have hp := pcN_le6 b
                exact ih (k + 1) (c + pcN b) sd' H3 μ4 _ (by omega) (Or.inr ⟨_, rfl⟩) (by omega) hC3 hM3 hH2 hO2 hf
              have hdo : ∀ d a b, HdOK (sR S) (doH (sR S) H d a b) := fun d a b => doOK hQ hO
              refine z_aload_0 iX11_feasts_44 ?_
              refine m_getL iX11_feasts_45 g_11_253 rfl ?_
              refine z_topl (hC1.sdOf) ?_
              refine z_bipush iX11_feasts_48 kB_33 ?_
              refine z_lushr iX11_feasts_50 ?_
              refine z_topl (hd1) ?_
              refine z_ldc2 iX11_feasts_51 k_11_263 ?_
              refine z_lrem iX11_feasts_54 (by decide) ?_
              refine z_l2i iX11_feasts_55 ?_
              refine z_top (hd2) ?_
              rcases ho with rfl | ⟨w, rfl⟩
              all_goals {
              refine z_istore_4 iX11_feasts_56 rfl ?_
              refine z_iload_4 iX11_feasts_58 ?_
              refine z_bipush iX11_feasts_60 kB_30 ?_
              refine z_icmp_geN iX11_feasts_62 (by omega) (by omega) (fun q4 => ?_) (fun q4 => ?_)
              · refine z_iload_4 iX11_feasts_82 ?_
                refine z_bipush iX11_feasts_84 kB_36 ?_
                refine z_icmp_geN iX11_feasts_86 (by omega) (by omega) (fun q5 => ?_) (fun q5 => ?_)
                · have e5 : feastH (sR S) H dv = doH (sR S) H 3 (dv - 36) 2 := by unfold feastH; rw [if_neg (by omega), if_neg (by omega)]
                  refine z_aload_0 iX11_feasts_104 ?_
                  refine z_iconst iX11_feasts_105 kI_3 ?_
                  refine z_iload_4 iX11_feasts_106 ?_
                  refine z_bipush iX11_feasts_108 kB_36 ?_
                  refine z_isubN iX11_feasts_110 (by omega) ?_
                  refine z_iconst iX11_feasts_111 kI_2 ?_
                  refine m_callVi iX11_feasts_112 l_11_219 f_X11_tryThing (c_X11_tryThing G _ hQ hO hC1.rollSd hH1 (by decide) (show dv - 36 < 10 by omega) (by decide)) rfl rfl rfl (Nat.le_of_ble_eq_true rfl) hR ft_X11_feasts_X11_tryThing ⟨rfl, rfl⟩ ?_
                  rintro r μ2 ⟨hF2, hH2, -⟩
                  rw [e5] at tail
                  refine z_pop iX11_feasts_115 rfl ?_
                  exact tail μ2 hF2 hH2 (hdo _ _ _)
                · have e5 : feastH (sR S) H dv = doH (sR S) H 2 0 (dv - 30) := by unfold feastH; rw [if_neg (by omega), if_pos (by omega)]
                  refine z_aload_0 iX11_feasts_89 ?_
                  refine z_iconst iX11_feasts_90 kI_2 ?_
                  refine z_iconst iX11_feasts_91 kI_0 ?_
                  refine z_iload_4 iX11_feasts_92 ?_
                  refine z_bipush iX11_feasts_94 kB_30 ?_
                  refine z_isubN iX11_feasts_96 (by omega) ?_
                  refine m_callVi iX11_feasts_97 l_11_219 f_X11_tryThing (c_X11_tryThing G _ hQ hO hC1.rollSd hH1 (by decide) (by decide) (show dv - 30 < 10 by omega)) rfl rfl rfl (Nat.le_of_ble_eq_true rfl) hR ft_X11_feasts_X11_tryThing ⟨rfl, rfl⟩ ?_
                  rintro r μ2 ⟨hF2, hH2, -⟩
                  rw [e5] at tail
                  refine z_pop iX11_feasts_100 rfl ?_
                  refine z_goto iX11_feasts_101 ?_
                  exact tail μ2 hF2 hH2 (hdo _ _ _)
              · have e5 : feastH (sR S) H dv = doH (sR S) H 1 (dv / 5) (dv % 5) := by unfold feastH; rw [if_pos (by omega)]
                refine z_aload_0 iX11_feasts_65 ?_
                refine z_iconst iX11_feasts_66 kI_1 ?_
                refine z_iload_4 iX11_feasts_67 ?_
                refine z_iconst iX11_feasts_69 kI_5 ?_
                refine z_idivN iX11_feasts_70 (by omega) (by omega) (by omega) ?_
                refine z_iload_4 iX11_feasts_71 ?_
                refine z_iconst iX11_feasts_73 kI_5 ?_
                refine z_iremN iX11_feasts_74 (by omega) (by omega) (by omega) ?_
                refine m_callVi iX11_feasts_75 l_11_219 f_X11_tryThing (c_X11_tryThing G _ hQ hO hC1.rollSd hH1 (by decide) hdv.1 hdv.2) rfl rfl rfl (Nat.le_of_ble_eq_true rfl) hR ft_X11_feasts_X11_tryThing ⟨rfl, rfl⟩ ?_
                rintro r μ2 ⟨hF2, hH2, -⟩
                rw [e5] at tail
                refine z_pop iX11_feasts_78 rfl ?_
                refine z_goto iX11_feasts_79 ?_
                exact tail μ2 hF2 hH2 (hdo _ _ _) }
        refine z_aload_0 iX11_feasts_15 ?_
        refine m_callVv iX11_feasts_16 l_11_216 f_X11_layTrial (c_X11_layTrial G _) rfl rfl rfl (Nat.le_of_ble_eq_true rfl) hR ft_X11_feasts_X11_layTrial ⟨rfl, rfl⟩ ?_
        rintro μ2 ⟨hF1, hH1⟩
        refine z_iconst iX11_feasts_19 kI_0 ?_
        refine z_istore_2 iX11_feasts_20 rfl ?_
        refine z_iconst iX11_feasts_21 kI_0 ?_
        refine z_istore_3 iX11_feasts_22 rfl ?_
        exact loop m 0 0 (sSd S) (sH S) μ2 none (by omega) (Or.inl rfl) (by omega) (h.nf1 hS hF1) hF1.cs (hH1 _ _ hQ h2) hS.2.2.2.1 rfl
      · exact absurd q nI10
    · refine z_if_ne iX11_feasts_9 (fun q => ?_) (fun q => ?_)
      · exact absurd nI00 q
      · exact out (Or.inr (by rw [show m = 0 by omega]))
  · rcases hr with ⟨rfl, hr⟩ | ⟨rfl, hr⟩
    · omega
    · refine z_if_ne iX11_feasts_9 (fun q => ?_) (fun q => ?_)
      · exact absurd nI00 q
      · exact out (Or.inl ei)

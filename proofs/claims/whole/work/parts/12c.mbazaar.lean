/-! THE REFERENCE: bazaar -/
theorem faultI_none {o : Option Nat} (h : ∀ j, o = some j → j < 100) (e : faultI o = -9) : o = none := by
  cases o with
  | none => rfl
  | some j => exact absurd e (faultI_ne (h j rfl))
theorem c_X11_bazaar (G : qG) (l : Launch) {μ : Mem} {S : St} (h : MAt μ S) (hS : SOK S) : CtrI G l M_X11_bazaar [.ref (qB G + 140)] μ (PM μ (aBazaar S)) := by
  refine m_enterI [some (.ref (qB G + 140)), none, none] (by decide +kernel) rfl (Nat.le_of_ble_eq_true rfl) (fun X hE hR => ?_)
  have hR : qR X = rm_X11_bazaar := hR
  have hE : EI G X _ (some .int) := hE
  show Zm G X cX11_bazaar RX11 _ 0 [some (.ref (qB G + 140)), none, none] []
  obtain ⟨h1, h2, h3, ⟨a1, nx, a2, a3, a4⟩, h5, h6, h7, h8⟩ := id h
  refine z_aload_0 iX11_bazaar_0 ?_
  refine m_callVi iX11_bazaar_1 l_11_96 f_X11_readText (c_X11_readText G _ h3 hS.1 hS.2.1) rfl rfl rfl (Nat.le_of_ble_eq_true rfl) hR ft_X11_bazaar_X11_readText ⟨rfl, rfl⟩ ?_
  rintro r μ1 ⟨hF1, rfl, hok⟩
  have hj : ∀ j, (rdRun (sTx S) (sLn S) 0 rd0).1 = some j → j < 100 := fun j hj => by
    have := rdRun_some_le (sTx S) (sLn S) 0 rd0 j hj
    have := hS.1
    omega
  refine z_bipush (x := -9) iX11_bazaar_4 (by decide) ?_
  refine z_icmp_eq iX11_bazaar_6 (fun q => ?_) (fun q => ?_)
  · have hn := faultI_none hj q
    have eB : aBazaar S = (nI (10 * rFc (rdRun (sTx S) (sLn S) 0 rd0).2.2.2 + rGc (rdRun (sTx S) (sLn S) 0 rd0).2.2.2), (S.1, ((rdRun (sTx S) (sLn S) 0 rd0).2.2.2, openH (rdRun (sTx S) (sLn S) 0 rd0).2.2.2), (0, sA S), ((fun _ => false), sKH S), S.2.2.2.2)) := by unfold aBazaar; rw [hn]
    rw [eB] at hE
    obtain ⟨hO, hM⟩ := hok hn
    generalize (rdRun (sTx S) (sLn S) 0 rd0).2.2.2 = R at hE hO hM
    have n6 := hO.1
    have n5 := hO.2.1
    have g10 : (mw μ1 140 0 (nI (rFc R))).1 140 10 = nI (rGc R) := by rw [mw_ne _ _ (Or.inr (by decide))]; exact hM.2.1
    refine z_aload_0 iX11_bazaar_12 ?_
    refine z_aload_0 iX11_bazaar_13 ?_
    refine m_getI iX11_bazaar_14 g_11_79 rfl ?_
    refine z_top (hM.1) ?_
    refine m_putI iX11_bazaar_17 p_11_99 rfl ?_
    refine z_aload_0 iX11_bazaar_20 ?_
    refine z_aload_0 iX11_bazaar_21 ?_
    refine m_getI iX11_bazaar_22 g_11_82 rfl ?_
    refine z_top (g10) ?_
    refine m_putI iX11_bazaar_25 p_11_102 rfl ?_
    refine z_iconst iX11_bazaar_28 kI_0 ?_
    refine z_istore_1 iX11_bazaar_29 rfl ?_
    have hF2 : Fm [146, 147] [0, 1, 9, 10, 13, 14] μ (mw (mw μ1 140 0 (nI (rFc R))) 140 1 (nI (rGc R))) := ((hF1.mono (by decide) (by decide)).put _ _ (by decide)).put _ _ (by decide)
    have hM2 : MRd (mw (mw μ1 140 0 (nI (rFc R))) 140 1 (nI (rGc R))) R := hM.fm (((Fm.rf (L := []) (K := [0, 1])).put _ _ (by decide)).put _ _ (by decide)) (by decide) (by decide) (by decide) (by decide)
    have f0 : (mw (mw μ1 140 0 (nI (rFc R))) 140 1 (nI (rGc R))).1 140 0 = nI (rFc R) := by simp [mw_rd]
    have f1 : (mw (mw μ1 140 0 (nI (rFc R))) 140 1 (nI (rGc R))).1 140 1 = nI (rGc R) := by simp [mw_rd]
    have f6 : (mw (mw μ1 140 0 (nI (rFc R))) 140 1 (nI (rGc R))).1 141 6 = nI 0 := by rw [hF2.1 141 (by decide) (by decide)]; exact h8
    generalize mw (mw μ1 140 0 (nI (rFc R))) 140 1 (nI (rGc R)) = μ2 at hF2 hM2 f0 f1 f6
    have fin : ∀ (o : Option Value) (μ' : Mem), (o = none ∨ ∃ w, o = some (.int w)) → Fm [141, 142, 143, 144, 145, 146, 147] [0, 1, 9, 10, 13, 14] μ μ' → MRoll μ' R → μ'.1 141 6 = nI 0 → NowAt μ' 145 0 R (openH R) → Zm G X cX11_bazaar RX11 μ' 182 [some (.ref (qB G + 140)), some (.int (nI (rGc R))), o] [] := by
      intro o μ' ho hF hR1 h6' hN
      have k0 : (mw (mw (mw μ' 140 20 (nI 0)) 155 0 (nI 0)) 155 1 (nI 0)).1 140 0 = nI (rFc R) := by simp [mw_rd]; exact hR1.1
      have k1 : (mw (mw (mw μ' 140 20 (nI 0)) 155 0 (nI 0)) 155 1 (nI 0)).1 140 1 = nI (rGc R) := by simp [mw_rd]; exact hR1.2.1
      have hFn : Fm [155] [20] μ' (mw (mw (mw μ' 140 20 (nI 0)) 155 0 (nI 0)) 155 1 (nI 0)) := ((Fm.rf.put _ _ (by decide)).mw _ _ (by decide) (by decide)).mw _ _ (by decide) (by decide)
      have hFF : Fm [141, 142, 143, 144, 145, 146, 147, 155] [0, 1, 9, 10, 13, 14, 20] μ (mw (mw (mw μ' 140 20 (nI 0)) 155 0 (nI 0)) 155 1 (nI 0)) := (hF.mono (by decide) (by decide)).trans (hFn.mono (by decide) (by decide))
      rcases ho with rfl | ⟨w, rfl⟩
      all_goals {
      refine z_aload_0 iX11_bazaar_182 ?_
      refine z_iconst iX11_bazaar_183 kI_0 ?_
      refine m_putI iX11_bazaar_184 p_11_105 rfl ?_
      refine z_aload_0 iX11_bazaar_187 ?_
      refine m_getR iX11_bazaar_188 g_11_52 rfl ?_
      refine z_iconst iX11_bazaar_191 kI_0 ?_
      refine z_iconst iX11_bazaar_192 kI_0 ?_
      refine m_zastN iX11_bazaar_193 rfl (by omega) (by decide) ?_
      refine z_aload_0 iX11_bazaar_194 ?_
      refine m_getR iX11_bazaar_195 g_11_52 rfl ?_
      refine z_iconst iX11_bazaar_198 kI_1 ?_
      refine z_iconst iX11_bazaar_199 kI_0 ?_
      refine m_zastN iX11_bazaar_200 rfl (by omega) (by decide) ?_
      refine z_bipush iX11_bazaar_201 kB_10 ?_
      refine z_aload_0 iX11_bazaar_203 ?_
      refine m_getI iX11_bazaar_204 g_11_99 rfl ?_
      refine z_top (k0) ?_
      refine z_imulN iX11_bazaar_207 ?_
      refine z_aload_0 iX11_bazaar_208 ?_
      refine m_getI iX11_bazaar_209 g_11_102 rfl ?_
      refine z_top (k1) ?_
      refine z_iaddN iX11_bazaar_212 ?_
      refine m_iret hE iX11_bazaar_213 ⟨rfl, ⟨hR1.fm hFn (by decide) (by decide), hN.fm hO hFn (by decide) (by decide), h3.fm hFF (by decide) (by decide), ⟨by simp [mw_rd]; rfl, nx, a2, by rw [hFF.2.1 21 (by decide)]; exact a3, fun k hk => absurd hk (Nat.not_lt_zero k)⟩, fun k hk => ⟨?_, fun z => by cases z⟩, h6.fm hFF (by decide) (by decide) (by decide), by rw [hFF.2.2]; exact h7, by rw [hFn.1 141 (by decide) (by decide)]; exact h6'⟩, hFF.cs (by decide)⟩
      rcases (show k = 0 ∨ k = 1 by omega) with rfl | rfl
      · simp [mw_rd]; rfl
      · simp [mw_rd]; rfl }
    have l3 : ∀ (o : Option Value) (n g : Nat) (μ' : Mem), (o = none ∨ ∃ w, o = some (.int w)) → n + g = rGc R → Fm [141, 142, 143, 144, 145, 146, 147] [0, 1, 9, 10, 13, 14] μ μ' → μ'.1 140 0 = nI (rFc R) → μ'.1 140 1 = nI (rGc R) → MRd μ' R → (∀ f, f < rFc R → μ'.1 141 f = nI (rKd R f) ∧ ∀ j, j < 3 → μ'.1 142 (3 * f + j) = nI (rMv R f j)) → μ'.1 141 6 = nI 0 → (∀ g', g' < g → μ'.1 143 g' = nI (rTl R g') ∧ μ'.1 144 g' = nI (rPr R g')) → (∀ j, j < 18 → μ'.1 145 j = nI (if j < g then rTl R j else if 5 ≤ j ∧ j < 5 + rFc R then 9 else 0)) → Zm G X cX11_bazaar RX11 μ' 126 [some (.ref (qB G + 140)), some (.int (nI g)), o] [] := by
      intro o n
      induction n with
      | zero =>
        intro g μ' ho hg hF e0 e1 hMM hfn h6' hgd hnow
        rw [show g = rGc R by omega] at hgd hnow ⊢
        refine z_iload_1 iX11_bazaar_126 ?_
        refine z_aload_0 iX11_bazaar_127 ?_
        refine m_getI iX11_bazaar_128 g_11_102 rfl ?_
        refine z_top (e1) ?_
        refine z_icmp_geN iX11_bazaar_131 (by omega) (by omega) (fun w => ?_) (fun w => ?_)
        · refine fin o μ' ho hF ⟨e0, e1, hfn, hgd⟩ h6' ⟨fun g hg => ?_, fun f hf => ?_, fun f hf => ?_, ?_⟩
          · rw [Nat.zero_add, hnow g (by omega), if_pos hg]; rfl
          · rw [Nat.zero_add, hnow _ (by omega), if_neg (by omega)]
            show _ = nI (if f < rFc R then 9 else 0)
            by_cases z : f < rFc R
            · rw [if_pos z, if_pos (by omega)]
            · rw [if_neg z, if_neg (by omega)]
          · rw [Nat.zero_add, hnow _ (by omega), if_neg (by omega), if_neg (by omega)]; rfl
          · rw [Nat.zero_add, hnow _ (by omega), if_neg (by omega), if_neg (by omega)]; rfl
        · omega
      | succ n ih =>
        intro g μ' ho hg hF e0 e1 hMM hfn h6' hgd hnow
        have hg5 : g < rGc R := by omega
        refine z_iload_1 iX11_bazaar_126 ?_
        refine z_aload_0 iX11_bazaar_127 ?_
        refine m_getI iX11_bazaar_128 g_11_102 rfl ?_
        refine z_top (e1) ?_
        refine z_icmp_geN iX11_bazaar_131 (by omega) (by omega) (fun w => ?_) (fun w => ?_)
        · omega
        · have m1 : (mw μ' 143 g (nI (rTl R g))).1 147 (2 * g + 1) = nI (rPr R g) := by rw [mw_ne _ _ (Or.inl (by decide))]; exact (hMM.2.2.2 g hg5).2
          have m2 : (mw (mw μ' 143 g (nI (rTl R g))) 144 g (nI (rPr R g))).1 143 g = nI (rTl R g) := by rw [mw_ne _ _ (Or.inl (by decide)), mw_same]
          have hFn : Fm [143, 144, 145] [] μ' (mw (mw (mw μ' 143 g (nI (rTl R g))) 144 g (nI (rPr R g))) 145 g (nI (rTl R g))) := ((Fm.rf.mw _ _ (by decide) (by decide)).mw _ _ (by decide) (by decide)).mw _ _ (by decide) (by decide)
          refine z_aload_0 iX11_bazaar_134 ?_
          refine m_getR iX11_bazaar_135 g_11_16 rfl ?_
          refine z_iload_1 iX11_bazaar_138 ?_
          refine z_aload_0 iX11_bazaar_139 ?_
          refine m_getR iX11_bazaar_140 g_11_28 rfl ?_
          refine z_iconst iX11_bazaar_143 kI_2 ?_
          refine z_iload_1 iX11_bazaar_144 ?_
          refine z_imulN iX11_bazaar_145 ?_
          refine m_ialdN iX11_bazaar_146 rfl (by omega) ?_
          refine z_top ((hMM.2.2.2 g hg5).1) ?_
          refine m_iastN iX11_bazaar_147 rfl (by omega) ?_
          refine z_aload_0 iX11_bazaar_148 ?_
          refine m_getR iX11_bazaar_149 g_11_19 rfl ?_
          refine z_iload_1 iX11_bazaar_152 ?_
          refine z_aload_0 iX11_bazaar_153 ?_
          refine m_getR iX11_bazaar_154 g_11_28 rfl ?_
          refine z_iconst iX11_bazaar_157 kI_2 ?_
          refine z_iload_1 iX11_bazaar_158 ?_
          refine z_imulN iX11_bazaar_159 ?_
          refine z_iconst iX11_bazaar_160 kI_1 ?_
          refine z_iaddN iX11_bazaar_161 ?_
          refine m_ialdN iX11_bazaar_162 rfl (by omega) ?_
          refine z_top (m1) ?_
          refine m_iastN iX11_bazaar_163 rfl (by omega) ?_
          refine z_aload_0 iX11_bazaar_164 ?_
          refine m_getR iX11_bazaar_165 g_11_22 rfl ?_
          refine z_iload_1 iX11_bazaar_168 ?_
          refine z_aload_0 iX11_bazaar_169 ?_
          refine m_getR iX11_bazaar_170 g_11_16 rfl ?_
          refine z_iload_1 iX11_bazaar_173 ?_
          refine m_ialdN iX11_bazaar_174 rfl (by omega) ?_
          refine z_top (m2) ?_
          refine m_iastN iX11_bazaar_175 rfl (by omega) ?_
          refine z_iinc_1N iX11_bazaar_176 rfl ?_
          refine z_goto iX11_bazaar_179 ?_
          refine ih (g + 1) _ ho (by omega) (hF.trans (hFn.mono (by decide) (by decide))) (by rw [hFn.2.1 0 (by decide)]; exact e0) (by rw [hFn.2.1 1 (by decide)]; exact e1) (hMM.fm hFn (by decide) (by decide) (by decide) (by decide)) (fun f hf => by rw [hFn.1 141 (by decide) (by decide), hFn.1 142 (by decide) (by decide)]; exact hfn f hf) (by rw [hFn.1 141 (by decide) (by decide)]; exact h6') (fun g' hg' => ?_) (fun j hj => ?_)
          · by_cases z : g' = g
            · subst z; simp [mw_rd]
            · simp [mw_rd, z]; exact hgd g' (by omega)
          · by_cases z : j = g
            · subst z; simp [mw_rd]
            · rw [mw_ne _ _ (Or.inr z), mw_other _ _ (by decide), mw_other _ _ (by decide), hnow j hj]
              congr 1
              by_cases y : j < g
              · rw [if_pos y, if_pos (by omega)]
              · rw [if_neg y, if_neg (show ¬ j < g + 1 by omega)]
    have l2 : ∀ (n f : Nat) (o : Option Value) (μ' : Mem), (o = none ∨ ∃ w, o = some (.int w)) → n + f = rFc R → Fm [141, 142, 143, 144, 145, 146, 147] [0, 1, 9, 10, 13, 14] μ μ' → μ'.1 140 0 = nI (rFc R) → μ'.1 140 1 = nI (rGc R) → MRd μ' R → (∀ f', f' < f → μ'.1 141 f' = nI (rKd R f') ∧ ∀ j, j < 3 → μ'.1 142 (3 * f' + j) = nI (rMv R f' j)) → μ'.1 141 6 = nI 0 → (∀ j, j < 18 → μ'.1 145 j = nI (if 5 ≤ j ∧ j < 5 + f then 9 else 0)) → Zm G X cX11_bazaar RX11 μ' 51 [some (.ref (qB G + 140)), some (.int (nI f)), o] [] := by
      intro n
      induction n with
      | zero =>
        intro f o μ' ho hf hF e0 e1 hMM hfn h6' hnow
        rw [show f = rFc R by omega] at hfn hnow ⊢
        refine z_iload_1 iX11_bazaar_51 ?_
        refine z_aload_0 iX11_bazaar_52 ?_
        refine m_getI iX11_bazaar_53 g_11_99 rfl ?_
        refine z_top (e0) ?_
        refine z_icmp_geN iX11_bazaar_56 (by omega) (by omega) (fun w => ?_) (fun w => ?_)
        · rcases ho with rfl | ⟨w, rfl⟩
          all_goals {
          refine z_iconst iX11_bazaar_124 kI_0 ?_
          refine z_istore_1 iX11_bazaar_125 rfl ?_
          exact l3 _ (rGc R) 0 μ' (by first | exact Or.inl rfl | exact Or.inr ⟨_, rfl⟩) (by omega) hF e0 e1 hMM hfn h6' (fun g hg => absurd hg (Nat.not_lt_zero g)) (fun j hj => by rw [if_neg (Nat.not_lt_zero j)]; exact hnow j hj) }
        · omega
      | succ n ih =>
        intro f o μ' ho hf hF e0 e1 hMM hfn h6' hnow
        have hf6 : f < rFc R := by omega
        refine z_iload_1 iX11_bazaar_51 ?_
        refine z_aload_0 iX11_bazaar_52 ?_
        refine m_getI iX11_bazaar_53 g_11_99 rfl ?_
        refine z_top (e0) ?_
        refine z_icmp_geN iX11_bazaar_56 (by omega) (by omega) (fun w => ?_) (fun w => ?_)
        · omega
        · have hFn : Fm [141, 142, 145] [] μ' (mw μ' 141 f (nI (rKd R f))) := Fm.rf.mw _ _ (by decide) (by decide)
          have inner : ∀ (m k : Nat) (μ'' : Mem), m + k = 3 → Fm [141, 142, 145] [] μ' μ'' → μ''.1 145 = μ'.1 145 → (∀ f', f' ≤ f → μ''.1 141 f' = nI (rKd R f')) → μ''.1 141 6 = nI 0 → (∀ f', f' < f → ∀ j, j < 3 → μ''.1 142 (3 * f' + j) = nI (rMv R f' j)) → (∀ j, j < k → μ''.1 142 (3 * f + j) = nI (rMv R f j)) → Zm G X cX11_bazaar RX11 μ'' 75 [some (.ref (qB G + 140)), some (.int (nI f)), some (.int (nI k))] [] := by
            intro m
            induction m with
            | zero =>
              intro k μ'' hk hG g5 gk g6 gm gm2
              refine z_iload_2 iX11_bazaar_75 ?_
              refine z_iconst iX11_bazaar_76 kI_3 ?_
              refine z_icmp_geN iX11_bazaar_77 (by omega) (by omega) (fun w2 => ?_) (fun w2 => ?_)
              · refine z_aload_0 iX11_bazaar_108 ?_
                refine m_getR iX11_bazaar_109 g_11_22 rfl ?_
                refine z_iconst iX11_bazaar_112 kI_5 ?_
                refine z_iload_1 iX11_bazaar_113 ?_
                refine z_iaddN iX11_bazaar_114 ?_
                refine z_bipush iX11_bazaar_115 kB_9 ?_
                refine m_iastN iX11_bazaar_117 rfl (by omega) ?_
                refine z_iinc_1N iX11_bazaar_118 rfl ?_
                refine z_goto iX11_bazaar_121 ?_
                have hGn : Fm [141, 142, 145] [] μ' (mw μ'' 145 (5 + f) (nI 9)) := hG.mw _ _ (by decide) (by decide)
                refine ih (f + 1) _ _ (Or.inr ⟨_, rfl⟩) (by omega) (hF.trans (hGn.mono (by decide) (by decide))) (by rw [hGn.2.1 0 (by decide)]; exact e0) (by rw [hGn.2.1 1 (by decide)]; exact e1) (hMM.fm hGn (by decide) (by decide) (by decide) (by decide)) (fun f' hf' => ?_) (by rw [mw_other _ _ (by decide)]; exact g6) (fun j hj => ?_)
                · rw [mw_other _ _ (by decide), mw_other _ _ (by decide)]
                  refine ⟨gk f' (by omega), fun j hj => ?_⟩
                  by_cases z : f' = f
                  · subst z; exact gm2 j (by omega)
                  · exact gm f' (by omega) j hj
                · by_cases z : j = 5 + f
                  · rw [z, mw_same, if_pos (by omega)]
                  · rw [mw_ne _ _ (Or.inr z), g5, hnow j hj]
                    congr 1
                    by_cases y : 5 ≤ j ∧ j < 5 + f
                    · rw [if_pos y, if_pos (by omega)]
                    · rw [if_neg y, if_neg (by omega)]
              · omega
            | succ m ihm =>
              intro k μ'' hk hG g5 gk g6 gm gm2
              refine z_iload_2 iX11_bazaar_75 ?_
              refine z_iconst iX11_bazaar_76 kI_3 ?_
              refine z_icmp_geN iX11_bazaar_77 (by omega) (by omega) (fun w2 => ?_) (fun w2 => ?_)
              · omega
              · have er : μ''.1 146 (4 * f + 1 + k) = nI (rMv R f k) := by rw [hG.1 146 (by decide) (by decide)]; exact (hMM.2.2.1 f hf6).2 k (by omega)
                refine z_aload_0 iX11_bazaar_80 ?_
                refine m_getR iX11_bazaar_81 g_11_13 rfl ?_
                refine z_iconst iX11_bazaar_84 kI_3 ?_
                refine z_iload_1 iX11_bazaar_85 ?_
                refine z_imulN iX11_bazaar_86 ?_
                refine z_iload_2 iX11_bazaar_87 ?_
                refine z_iaddN iX11_bazaar_88 ?_
                refine z_aload_0 iX11_bazaar_89 ?_
                refine m_getR iX11_bazaar_90 g_11_25 rfl ?_
                refine z_iconst iX11_bazaar_93 kI_4 ?_
                refine z_iload_1 iX11_bazaar_94 ?_
                refine z_imulN iX11_bazaar_95 ?_
                refine z_iconst iX11_bazaar_96 kI_1 ?_
                refine z_iaddN iX11_bazaar_97 ?_
                refine z_iload_2 iX11_bazaar_98 ?_
                refine z_iaddN iX11_bazaar_99 ?_
                refine m_ialdN iX11_bazaar_100 rfl (by omega) ?_
                refine z_top (er) ?_
                refine m_iastN iX11_bazaar_101 rfl (by omega) ?_
                refine z_iinc_2N iX11_bazaar_102 rfl ?_
                refine z_goto iX11_bazaar_105 ?_
                refine ihm (k + 1) _ (by omega) (hG.mw _ _ (by decide) (by decide)) (by rw [mw_other _ _ (by decide)]; exact g5) (fun f' hf' => by rw [mw_other _ _ (by decide)]; exact gk f' hf') (by rw [mw_other _ _ (by decide)]; exact g6) (fun f' hf' j hj => by rw [mw_ne _ _ (Or.inr (by omega))]; exact gm f' hf' j hj) (fun j hj => ?_)
                by_cases z : j = k
                · rw [z, mw_same]
                · rw [mw_ne _ _ (Or.inr (by omega))]; exact gm2 j (by omega)
          rcases ho with rfl | ⟨w9, rfl⟩
          all_goals {
          refine z_aload_0 iX11_bazaar_59 ?_
          refine m_getR iX11_bazaar_60 g_11_7 rfl ?_
          refine z_iload_1 iX11_bazaar_63 ?_
          refine z_aload_0 iX11_bazaar_64 ?_
          refine m_getR iX11_bazaar_65 g_11_25 rfl ?_
          refine z_iconst iX11_bazaar_68 kI_4 ?_
          refine z_iload_1 iX11_bazaar_69 ?_
          refine z_imulN iX11_bazaar_70 ?_
          refine m_ialdN iX11_bazaar_71 rfl (by omega) ?_
          refine z_top ((hMM.2.2.1 f hf6).1) ?_
          refine m_iastN iX11_bazaar_72 rfl (by omega) ?_
          refine z_iconst iX11_bazaar_73 kI_0 ?_
          refine z_istore_2 iX11_bazaar_74 rfl ?_
          refine inner 3 0 _ (by omega) hFn (mw_other _ _ (by decide)) (fun f' hf' => ?_) (by rw [mw_ne _ _ (Or.inr (by omega))]; exact h6') (fun f' hf' j hj => by rw [mw_other _ _ (by decide)]; exact (hfn f' hf').2 j hj) (fun j hj => absurd hj (Nat.not_lt_zero j))
          by_cases z : f' = f
          · rw [z, mw_same]
          · rw [mw_ne _ _ (Or.inr z)]; exact (hfn f' (by omega)).1 }
    have l1 : ∀ (n k : Nat) (μ' : Mem), n + k = 18 → Fm [145] [] μ2 μ' → (∀ j, j < k → μ'.1 145 j = nI 0) → Zm G X cX11_bazaar RX11 μ' 30 [some (.ref (qB G + 140)), some (.int (nI k)), none] [] := by
      intro n
      induction n with
      | zero =>
        intro k μ' hk hF hz
        refine z_iload_1 iX11_bazaar_30 ?_
        refine z_bipush iX11_bazaar_31 kB_18 ?_
        refine z_icmp_geN iX11_bazaar_33 (by omega) (by omega) (fun w => ?_) (fun w => ?_)
        · refine z_iconst iX11_bazaar_49 kI_0 ?_
          refine z_istore_1 iX11_bazaar_50 rfl ?_
          refine l2 (rFc R) 0 none μ' (Or.inl rfl) (by omega) ((hF2.mono (by decide) (fun _ z => z)).trans (hF.mono (by decide) (by decide))) (by rw [hF.2.1 0 (by decide)]; exact f0) (by rw [hF.2.1 1 (by decide)]; exact f1) (hM2.fm hF (by decide) (by decide) (by decide) (by decide)) (fun f hf => absurd hf (Nat.not_lt_zero f)) (by rw [hF.1 141 (by decide) (by decide)]; exact f6) (fun j hj => ?_)
          rw [hz j (by omega), if_neg (by omega)]
        · omega
      | succ n ih =>
        intro k μ' hk hF hz
        refine z_iload_1 iX11_bazaar_30 ?_
        refine z_bipush iX11_bazaar_31 kB_18 ?_
        refine z_icmp_geN iX11_bazaar_33 (by omega) (by omega) (fun w => ?_) (fun w => ?_)
        · omega
        · refine z_aload_0 iX11_bazaar_36 ?_
          refine m_getR iX11_bazaar_37 g_11_22 rfl ?_
          refine z_iload_1 iX11_bazaar_40 ?_
          refine z_iconst iX11_bazaar_41 kI_0 ?_
          refine m_iastN iX11_bazaar_42 rfl (by omega) ?_
          refine z_iinc_1N iX11_bazaar_43 rfl ?_
          refine z_goto iX11_bazaar_46 ?_
          refine ih (k + 1) _ (by omega) (hF.mw _ _ (by decide) (by decide)) (fun j hj => ?_)
          by_cases z : j = k
          · rw [z, mw_same]
          · rw [mw_ne _ _ (Or.inr z)]; exact hz j (by omega)
    exact l1 18 0 μ2 (by decide) Fm.rf (fun j hj => absurd hj (Nat.not_lt_zero j))
  · refine z_bipush (x := -3) iX11_bazaar_9 (by decide) ?_
    refine m_iret hE iX11_bazaar_11 ?_
    have e : aBazaar S = (-3, S) := by
      unfold aBazaar
      split
      · rfl
      · next z => exact absurd (by rw [z]; rfl) q
    exact ⟨by rw [e], by rw [e]; exact h.fm hS hF1 (by decide) (by decide), hF1.cs (by decide)⟩

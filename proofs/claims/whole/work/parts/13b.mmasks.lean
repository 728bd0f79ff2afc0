/-! THE REFERENCE: chain, masks, rests -/
theorem selS_min {c : Nat → Nat → Nat} {ow : Nat} {w : Nat → Nat} : ∀ n k, k < n → (selS c ow w n).1 ≤ selC c ow w k
  | 0, k, h => absurd h (Nat.not_lt_zero k)
  | n + 1, k, h => by
    unfold selS
    split
    · next z =>
      show selC c ow w n ≤ _
      by_cases e : k = n
      · rw [e]; exact Nat.le_refl _
      · have := selS_min (c := c) (ow := ow) (w := w) n k (by omega); omega
    · next z =>
      by_cases e : k = n
      · rw [e]; omega
      · exact selS_min n k (by omega)
theorem qChain_in {S : St} {f g : Nat} (hS : SOK S) (hf : f < rFc (sR S)) (hg : g < rGc (sR S)) (z : Int32) : qChain S (nI f) (nI g) z = match idx z 2 with
    | none => -2
    | some k => vChain S f g k := by
  have h6 := hS.2.2.1.1
  have h5 := hS.2.2.1.2.1
  unfold qChain
  rw [idx_some (by omega) hf, idx_some (by omega) hg]
  rfl
theorem c_X11_chain (G : qG) (l : Launch) {μ : Mem} {S : St} (h : MAt μ S) (hS : SOK S) (x y z : Int32) : CtrI G l M_X11_chain [.ref (qB G + 140), .int x, .int y, .int z] μ (QM μ S (qChain S x y z)) := by
  refine m_enterI [some (.ref (qB G + 140)), some (.int x), some (.int y), some (.int z), none, none, none, none] (by decide +kernel) rfl (Nat.le_of_ble_eq_true rfl) (fun X hE hR => ?_)
  have hR : qR X = rm_X11_chain := hR
  have hE : EI G X _ (some .int) := hE
  show Zm G X cX11_chain RX11 _ 0 [some (.ref (qB G + 140)), some (.int x), some (.int y), some (.int z), none, none, none, none] []
  obtain ⟨h1, h2, h3, h4, h5, h6, h7, h8⟩ := id h
  have hQ := hS.2.2.1
  have hH := hS.2.2.2.1
  have n6 := hQ.1
  have n5 := hQ.2.1
  have no : (idx x (rFc (sR S)) = none ∨ idx y (rGc (sR S)) = none) → Zm G X cX11_chain RX11 μ 16 [some (.ref (qB G + 140)), some (.int x), some (.int y), some (.int z), none, none, none, none] [] := by
    intro hn
    refine z_iconst (x := -1) iX11_chain_16 (by decide) ?_
    exact m_iret hE iX11_chain_17 (QM.rf h (qChain_no hn).symm)
  refine z_aload_0 iX11_chain_0 ?_
  refine z_iload_1 iX11_chain_1 ?_
  refine m_callVi iX11_chain_2 l_11_153 f_X11_isFencer (c_X11_isFencer G _ h1.1 (by omega) x) rfl rfl rfl (Nat.le_of_ble_eq_true rfl) hR ft_X11_chain_X11_isFencer ⟨rfl, rfl⟩ ?_
  rintro r μ1 ⟨rfl, ⟨rfl, f, hf, rfl⟩ | ⟨rfl, hn⟩⟩
  · refine z_if_eq iX11_chain_5 (fun q => ?_) (fun q => ?_)
    · exact absurd q nI10
    · refine z_aload_0 iX11_chain_8 ?_
      refine z_iload_2 iX11_chain_9 ?_
      refine m_callVi iX11_chain_10 l_11_163 f_X11_isGood (c_X11_isGood G _ h1.2.1 (by omega) y) rfl rfl rfl (Nat.le_of_ble_eq_true rfl) hR ft_X11_chain_X11_isGood ⟨rfl, rfl⟩ ?_
      rintro r μ2 ⟨rfl, ⟨rfl, g, hg, rfl⟩ | ⟨rfl, hn⟩⟩
      · have eq := qChain_in hS hf hg z
        have ho := hH.1 g hg
        refine z_if_ne iX11_chain_13 (fun q => ?_) (fun q => ?_)
        · refine z_iload_3 iX11_chain_18 ?_
          refine z_i2l iX11_chain_19 ?_
          refine z_lconst (x := 0) iX11_chain_20 rfl ?_
          refine z_lconst (x := 1) iX11_chain_21 rfl ?_
          refine m_callSi iX11_chain_22 l_11_61 f_X11_in (c_inI G _ z (y := 0) (z := 1) (a := 0) (b := 1) rfl rfl) rfl rfl (Nat.le_of_ble_eq_true rfl) hR ft_X11_chain_X11_in ⟨rfl, rfl⟩ ?_
          rintro r μ3 ⟨rfl, hr⟩
          rcases q_cases z 2 (by decide) with ⟨k, hk, rfl, ei⟩ | ⟨ei, hx, -⟩
          · rw [ei] at eq
            have eq : qChain S (nI f) (nI g) (nI k) = vChain S f g k := eq
            rw [eq] at hE
            rw [nI_toInt (by omega)] at hr
            rcases hr with ⟨rfl, hr⟩ | ⟨rfl, hr⟩
            · refine z_if_ne iX11_chain_25 (fun q2 => ?_) (fun q2 => ?_)
              · refine z_aload_0 iX11_chain_31 ?_
                refine m_getR iX11_chain_32 g_11_22 rfl ?_
                refine z_iload_2 iX11_chain_35 ?_
                refine m_ialdN iX11_chain_36 rfl (by omega) ?_
                refine z_top (h2.ow0 hg) ?_
                refine z_iload_1 iX11_chain_37 ?_
                refine z_icmp_neN iX11_chain_38 (by omega) (by omega) (fun q3 => ?_) (fun q3 => ?_)
                · refine z_aload_0 iX11_chain_52 ?_
                  refine z_iload_1 iX11_chain_53 ?_
                  refine z_iload_2 iX11_chain_54 ?_
                  refine m_callVv iX11_chain_55 l_11_189 f_X11_sumsTo (c_X11_sumsTo G _ hQ hH h1 h2 hf hg) rfl rfl rfl (Nat.le_of_ble_eq_true rfl) hR ft_X11_chain_X11_sumsTo ⟨rfl, rfl⟩ ?_
                  rintro μ4 ⟨hF4, hS4⟩
                  have hc : ∀ a b, hnd (sR S) (sH S) (rPr (sR S) g) a b ≤ 18 := fun a b => hnd_le (hQ.2.2.2 g hg).1
                  have hm := mul6 (a := rFc (sR S)) (b := rFc (sR S)) n6 n6
                  have hm2 : rFc (sR S) * rFc (sR S) * rFc (sR S) ≤ 36 * 6 := Nat.mul_le_mul hm n6
                  have hfb := (fb.far f).rR (ow := hOw (sH S) g) (fc := rFc (sR S)) hc (rFc (sR S))
                  have hw0 : chW S f g f = 0 := rR_0 (by unfold updN; exact if_pos rfl) _
                  have hfin : (selS (hnd (sR S) (sH S) (rPr (sR S) g)) (hOw (sH S) g) (chW S f g) (rFc (sR S))).1 ≤ 18 := by
                    have h9 := selS_min (c := hnd (sR S) (sH S) (rPr (sR S) g)) (ow := hOw (sH S) g) (w := chW S f g) (rFc (sR S)) f hf
                    have h8 := hc (hOw (sH S) g) f
                    unfold selC at h9
                    rw [if_neg (fun z => q3 z.symm), hw0] at h9
                    omega
                  have loop : ∀ (n j : Nat) (o : Option Value) (μ' : Mem), n + j = rFc (sR S) → (o = none ∨ ∃ w, o = some (.int w)) → Fm [150] kB μ3 μ' → SumAt μ' (rFc (sR S)) (chW S f g) → Zm G X cX11_chain RX11 μ' 70 [some (.ref (qB G + 140)), some (.int (nI f)), some (.int (nI g)), some (.int (nI k)), some (.int (nI (min (selS (hnd (sR S) (sH S) (rPr (sR S) g)) (hOw (sH S) g) (chW S f g) j).1 9999))), some (.int (selS (hnd (sR S) (sH S) (rPr (sR S) g)) (hOw (sH S) g) (chW S f g) j).2), some (.int (nI j)), o] [] := by
                    intro n
                    induction n with
                    | zero =>
                      intro j o μ' hn hoo hF hSm
                      rw [show j = rFc (sR S) by omega]
                      have hR2 := h1.fm hF (by decide) (by decide)
                      refine z_iload_6 iX11_chain_70 ?_
                      refine z_aload_0 iX11_chain_72 ?_
                      refine m_getI iX11_chain_73 g_11_99 rfl ?_
                      refine z_top (hR2.1) ?_
                      refine z_icmp_geN iX11_chain_76 (by omega) (by omega) (fun q4 => ?_) (fun q4 => ?_)
                      · have qm : ∀ v, QM μ3 S v v μ' := fun v => QM.of h hS hF (by decide) kB_kS rfl
                        refine z_iload_3 iX11_chain_171 ?_
                        refine z_if_neN iX11_chain_172 (by omega) (fun q5 => ?_) (fun q5 => ?_)
                        · refine z_iload_5 iX11_chain_180 ?_
                          refine m_iret hE iX11_chain_182 (QM.of h hS hF (by decide) kB_kS ?_)
                          unfold vChain; rw [if_neg q3, if_neg q5]; rfl
                        · refine z_iload_4 iX11_chain_175 ?_
                          refine z_goto iX11_chain_177 ?_
                          refine m_iret hE iX11_chain_182 (QM.of h hS hF (by decide) kB_kS ?_)
                          unfold vChain; rw [if_neg q3, if_pos q5, Nat.min_eq_left (by omega)]; rfl
                      · omega
                    | succ n ih =>
                      intro j o μ' hn hoo hF hSm
                      have hj : j < rFc (sR S) := by omega
                      have hR2 := h1.fm hF (by decide) (by decide)
                      have hN2 := h2.fm hQ hF (by decide) (by decide)
                      have hle := selS_le (hnd (sR S) (sH S) (rPr (sR S) g)) (hOw (sH S) g) (chW S f g) j
                      have hwj := hfb j
                      have hwj : chW S f g j = 1000000 ∨ chW S f g j ≤ 18 * (0 + rFc (sR S) * rFc (sR S) * rFc (sR S)) := hwj
                      have fin : ∀ (v : Nat) (μ'' : Mem), Fm [150] kB μ3 μ'' → SumAt μ'' (rFc (sR S)) (chW S f g) → v = min (selC (hnd (sR S) (sH S) (rPr (sR S) g)) (hOw (sH S) g) (chW S f g) j) 9999 → (selC (hnd (sR S) (sH S) (rPr (sR S) g)) (hOw (sH S) g) (chW S f g) j < 9999 ∨ 1000000 ≤ selC (hnd (sR S) (sH S) (rPr (sR S) g)) (hOw (sH S) g) (chW S f g) j) → Zm G X cX11_chain RX11 μ'' 131 [some (.ref (qB G + 140)), some (.int (nI f)), some (.int (nI g)), some (.int (nI k)), some (.int (nI (min (selS (hnd (sR S) (sH S) (rPr (sR S) g)) (hOw (sH S) g) (chW S f g) j).1 9999))), some (.int (selS (hnd (sR S) (sH S) (rPr (sR S) g)) (hOw (sH S) g) (chW S f g) j).2), some (.int (nI j)), o] [.int (nI v)] := by
                        intro v μ'' hF' hS' hv hd
                        rcases hoo with rfl | ⟨w9, rfl⟩
                        all_goals {
                        refine z_istore_7 iX11_chain_131 rfl ?_
                        refine z_iload_7 iX11_chain_133 ?_
                        refine z_iload_4 iX11_chain_135 ?_
                        refine z_icmp_geN iX11_chain_137 (by omega) (by omega) (fun q5 => ?_) (fun q5 => ?_)
                        · refine z_iload_5 iX11_chain_145 ?_
                          refine z_istore_5 iX11_chain_147 rfl ?_
                          refine z_iload_7 iX11_chain_149 ?_
                          refine z_iload_4 iX11_chain_151 ?_
                          refine z_icmp_geN iX11_chain_153 (by omega) (by omega) (fun q6 => ?_) (fun q6 => by omega)
                          refine z_iload_4 iX11_chain_161 ?_
                          refine z_istore_4 iX11_chain_163 rfl ?_
                          refine z_iinc_6N iX11_chain_165 rfl ?_
                          refine z_goto iX11_chain_168 ?_
                          have es := selS_f (c := hnd (sR S) (sH S) (rPr (sR S) g)) (ow := hOw (sH S) g) (w := chW S f g) (n := j) (by omega)
                          rw [← es]
                          exact ih (j + 1) _ μ'' (by omega) (Or.inr ⟨_, rfl⟩) hF' hS'
                        · refine z_iload_6 iX11_chain_140 ?_
                          refine z_goto iX11_chain_142 ?_
                          refine z_istore_5 iX11_chain_147 rfl ?_
                          refine z_iload_7 iX11_chain_149 ?_
                          refine z_iload_4 iX11_chain_151 ?_
                          refine z_icmp_geN iX11_chain_153 (by omega) (by omega) (fun q6 => by omega) (fun q6 => ?_)
                          refine z_iload_7 iX11_chain_156 ?_
                          refine z_goto iX11_chain_158 ?_
                          refine z_istore_4 iX11_chain_163 rfl ?_
                          refine z_iinc_6N iX11_chain_165 rfl ?_
                          refine z_goto iX11_chain_168 ?_
                          have es := selS_t (c := hnd (sR S) (sH S) (rPr (sR S) g)) (ow := hOw (sH S) g) (w := chW S f g) (n := j) (by omega)
                          have := ih (j + 1) (some (.int (nI v))) μ'' (by omega) (Or.inr ⟨_, rfl⟩) hF' hS'
                          rw [es] at this
                          rw [show min (selC (hnd (sR S) (sH S) (rPr (sR S) g)) (hOw (sH S) g) (chW S f g) j, nI j).1 9999 = v from hv.symm] at this
                          exact this }
                      refine z_iload_6 iX11_chain_70 ?_
                      refine z_aload_0 iX11_chain_72 ?_
                      refine m_getI iX11_chain_73 g_11_99 rfl ?_
                      refine z_top (hR2.1) ?_
                      refine z_icmp_geN iX11_chain_76 (by omega) (by omega) (fun q4 => ?_) (fun q4 => ?_)
                      · omega
                      · refine z_iload_6 iX11_chain_79 ?_
                        refine z_aload_0 iX11_chain_81 ?_
                        refine m_getR iX11_chain_82 g_11_22 rfl ?_
                        refine z_iload_2 iX11_chain_85 ?_
                        refine m_ialdN iX11_chain_86 rfl (by omega) ?_
                        refine z_top (hN2.ow0 hg) ?_
                        refine z_icmp_eqN iX11_chain_87 (by omega) (by omega) (fun q5 => ?_) (fun q5 => ?_)
                        · refine z_sipush iX11_chain_103 kS_9999 ?_
                          refine z_goto iX11_chain_106 ?_
                          have e1 : selC (hnd (sR S) (sH S) (rPr (sR S) g)) (hOw (sH S) g) (chW S f g) j = 1000000 := by unfold selC; exact if_pos q5
                          exact fin 9999 μ' hF hSm (by rw [e1]; rfl) (Or.inr (by rw [e1]; exact Nat.le_refl _))
                        · have e1 : selC (hnd (sR S) (sH S) (rPr (sR S) g)) (hOw (sH S) g) (chW S f g) j = hnd (sR S) (sH S) (rPr (sR S) g) (hOw (sH S) g) j + chW S f g j := by unfold selC; exact if_neg q5
                          have hcj := hc (hOw (sH S) g) j
                          refine z_aload_0 iX11_chain_90 ?_
                          refine m_getR iX11_chain_91 g_11_37 rfl ?_
                          refine z_iload_6 iX11_chain_94 ?_
                          refine m_ialdN iX11_chain_96 rfl (by omega) ?_
                          refine z_top (hSm j hj) ?_
                          refine z_sipush iX11_chain_97 kS_9999 ?_
                          refine z_icmp_neN iX11_chain_100 (by omega) (by omega) (fun q6 => ?_) (fun q6 => ?_)
                          · refine z_aload_0 iX11_chain_109 ?_
                            refine m_getR iX11_chain_110 g_11_37 rfl ?_
                            refine z_iload_6 iX11_chain_113 ?_
                            refine m_ialdN iX11_chain_115 rfl (by omega) ?_
                            refine z_top (hSm j hj) ?_
                            refine z_aload_0 iX11_chain_116 ?_
                            refine z_iconst iX11_chain_117 kI_0 ?_
                            refine z_iload_6 iX11_chain_118 ?_
                            refine z_aload_0 iX11_chain_120 ?_
                            refine m_getR iX11_chain_121 g_11_22 rfl ?_
                            refine z_iload_2 iX11_chain_124 ?_
                            refine m_ialdN iX11_chain_125 rfl (by omega) ?_
                            refine z_top (hN2.ow0 hg) ?_
                            refine z_iload_2 iX11_chain_126 ?_
                            refine m_callVi iX11_chain_127 l_11_168 f_X11_costFrom (c_X11_costFrom (lv := 0) G _ hQ hH hR2 (by decide) hN2 hj ho hg) rfl rfl rfl (Nat.le_of_ble_eq_true rfl) hR ft_X11_chain_X11_costFrom ⟨rfl, rfl⟩ ?_
                            rintro r μ5 ⟨hF5, rfl⟩
                            have ec : costH (sR S) (sH S) j (hOw (sH S) g) g = hnd (sR S) (sH S) (rPr (sR S) g) (hOw (sH S) g) j := rfl
                            rw [ec]
                            refine z_iaddN iX11_chain_130 ?_
                            exact fin _ μ5 (hF.trans (hF5.mono (by decide) (fun _ z => z))) (hSm.fm hF5 (by decide)) (by omega) (by omega)
                          · refine z_sipush iX11_chain_103 kS_9999 ?_
                            refine z_goto iX11_chain_106 ?_
                            exact fin 9999 μ' hF hSm (by omega) (by omega)
                  refine z_sipush iX11_chain_58 kS_9999 ?_
                  refine z_istore_4 iX11_chain_61 rfl ?_
                  refine z_bipush (x := -9) iX11_chain_63 (by decide) ?_
                  refine z_istore_5 iX11_chain_65 rfl ?_
                  refine z_iconst iX11_chain_67 kI_0 ?_
                  refine z_istore_6 iX11_chain_68 rfl ?_
                  exact loop (rFc (sR S)) 0 none μ4 (by omega) (Or.inl rfl) hF4 hS4
                · refine z_iload_3 iX11_chain_41 ?_
                  refine z_if_neN iX11_chain_42 (by omega) (fun q5 => ?_) (fun q5 => ?_)
                  · refine z_bipush (x := -9) iX11_chain_49 (by decide) ?_
                    exact m_iret hE iX11_chain_51 (QM.rf h (by unfold vChain; rw [if_pos q3, if_neg q5]))
                  · refine z_iconst iX11_chain_45 kI_0 ?_
                    refine z_goto iX11_chain_46 ?_
                    exact m_iret hE iX11_chain_51 (QM.rf h (by unfold vChain; rw [if_pos q3, if_pos q5]))
              · exact absurd q2 nI10
            · omega
          · rcases hr with ⟨rfl, hr⟩ | ⟨rfl, hr⟩
            · omega
            · refine z_if_ne iX11_chain_25 (fun q2 => ?_) (fun q2 => ?_)
              · exact absurd nI00 q2
              · refine z_bipush (x := -2) iX11_chain_28 (by decide) ?_
                exact m_iret hE iX11_chain_30 (QM.rf h (by rw [eq, ei]))
        · exact absurd q nI10
      · refine z_if_ne iX11_chain_13 (fun q => ?_) (fun q => ?_)
        · exact absurd nI00 q
        · exact no (Or.inr (idx_none hn))
  · refine z_if_eq iX11_chain_5 (fun q => ?_) (fun q => ?_)
    · exact no (Or.inl (idx_none hn))
    · exact absurd nI00 q
/-! masks -/
def MkF (μ μ' : Mem) : Prop := Fm [142] kB μ μ' ∧ ∀ k, k < 18 → μ'.1 142 k = μ.1 142 k
theorem MkF.rf {μ : Mem} : MkF μ μ := ⟨Fm.rf, fun _ _ => rfl⟩
theorem MkF.trans {μ μ' μ'' : Mem} (h1 : MkF μ μ') (h2 : MkF μ' μ'') : MkF μ μ'' := ⟨h1.1.trans h2.1, fun k hk => (h2.2 k hk).trans (h1.2 k hk)⟩
theorem MkF.of {μ μ' : Mem} (h : Fm [] kB μ μ') : MkF μ μ' := ⟨h.mono (by decide) (fun _ z => z), fun k _ => by rw [h.1 142 (by decide) (by decide)]⟩
theorem MRoll.mk {μ μ' : Mem} {R : Rl} (h : MRoll μ R) (hR : RlOK R) (hF : MkF μ μ') : MRoll μ' R := by
  obtain ⟨h1, h2, h3, h4⟩ := h
  have h6 := hR.1
  have n : ∀ a, a ≠ 142 → a ≠ 140 → μ'.1 a = μ.1 a := fun a u v => hF.1.1 a (fun z => u (List.mem_singleton.mp z)) v
  refine ⟨by rw [hF.1.2.1 0 (by decide)]; exact h1, by rw [hF.1.2.1 1 (by decide)]; exact h2, fun f hf => ⟨by rw [n 141 (by decide) (by decide)]; exact (h3 f hf).1, fun j hj => by rw [hF.2 _ (by omega)]; exact (h3 f hf).2 j hj⟩, fun g hg => ?_⟩
  rw [n 143 (by decide) (by decide), n 144 (by decide) (by decide)]; exact h4 g hg
theorem MAt.mk {μ μ' : Mem} {S : St} (h : MAt μ S) (hS : SOK S) (hF : MkF μ μ') : MAt μ' S := by
  obtain ⟨h1, h2, h3, h4, h5, h6, h7, h8⟩ := h
  have hR := hS.2.2.1
  exact ⟨h1.mk hR hF, h2.fm hR hF.1 (by decide) (by decide), h3.fm hF.1 (by decide) (by decide), h4.fm hR hF.1 (by decide) (by decide) (by decide), h5.fm hR hF.1 (by decide) (by decide), h6.fm hF.1 (by decide) (by decide) (by decide), by rw [hF.1.2.2]; exact h7, by rw [hF.1.1 141 (by decide) (by decide)]; exact h8⟩
theorem c_X11_mayBeMask (G : qG) (l : Launch) {μ : Mem} {S : St} {mv : Nat → Nat} (h : MAt μ S) (hS : SOK S) (hmv : ∀ j, j < 3 → mv j < 5) : CtrI G l M_X11_mayBeMask [.ref (qB G + 140), .int (nI (mv 0)), .int (nI (mv 1)), .int (nI (mv 2))] μ (fun r μ' => MkF μ μ' ∧ ((r = nI 1 ∧ fitP (sR S) (sH S) (sNs S) (sSf S) (sSh S) mv) ∨ (r = nI 0 ∧ ¬ fitP (sR S) (sH S) (sNs S) (sSf S) (sSh S) mv))) := by
  refine m_enterI [some (.ref (qB G + 140)), some (.int (nI (mv 0))), some (.int (nI (mv 1))), some (.int (nI (mv 2))), none, none] (by decide +kernel) rfl (Nat.le_of_ble_eq_true rfl) (fun X hE hR => ?_)
  have hR : qR X = rm_X11_mayBeMask := hR
  have hE : EI G X _ (some .boolean) := hE
  show Zm G X cX11_mayBeMask RX11 _ 0 [some (.ref (qB G + 140)), some (.int (nI (mv 0))), some (.int (nI (mv 1))), some (.int (nI (mv 2))), none, none] []
  obtain ⟨h1, h2, h3, h4, h5, h6, h7, h8⟩ := id h
  have hQ := hS.2.2.1
  have hH := hS.2.2.2.1
  have n6 := hQ.1
  have ns := hS.2.2.2.2.2.2.2.1
  have hsd := hS.2.2.2.2.2.2.2.2
  refine z_aload_0 iX11_mayBeMask_0 ?_
  refine m_getR iX11_mayBeMask_1 g_11_13 rfl ?_
  refine z_bipush iX11_mayBeMask_4 kB_18 ?_
  refine z_iload_1 iX11_mayBeMask_6 ?_
  refine m_iastN iX11_mayBeMask_7 rfl (by omega) ?_
  refine z_aload_0 iX11_mayBeMask_8 ?_
  refine m_getR iX11_mayBeMask_9 g_11_13 rfl ?_
  refine z_bipush iX11_mayBeMask_12 kB_19 ?_
  refine z_iload_2 iX11_mayBeMask_14 ?_
  refine m_iastN iX11_mayBeMask_15 rfl (by omega) ?_
  refine z_aload_0 iX11_mayBeMask_16 ?_
  refine m_getR iX11_mayBeMask_17 g_11_13 rfl ?_
  refine z_bipush iX11_mayBeMask_20 kB_20 ?_
  refine z_iload_3 iX11_mayBeMask_22 ?_
  refine m_iastN iX11_mayBeMask_23 rfl (by omega) ?_
  refine z_iconst iX11_mayBeMask_24 kI_1 ?_
  refine z_istore_4 iX11_mayBeMask_25 rfl ?_
  refine z_iconst iX11_mayBeMask_27 kI_0 ?_
  refine z_istore_5 iX11_mayBeMask_28 rfl ?_
  have hK0 : MkF μ (mw (mw (mw μ 142 18 (nI (mv 0))) 142 19 (nI (mv 1))) 142 20 (nI (mv 2))) := ⟨((Fm.rf.mw _ _ (by decide) (by decide)).mw _ _ (by decide) (by decide)).mw _ _ (by decide) (by decide), fun k hk => by rw [mw_ne _ _ (Or.inr (by omega)), mw_ne _ _ (Or.inr (by omega)), mw_ne _ _ (Or.inr (by omega))]⟩
  have hm0 : ∀ j, j < 3 → (mw (mw (mw μ 142 18 (nI (mv 0))) 142 19 (nI (mv 1))) 142 20 (nI (mv 2))).1 142 (3 * 6 + j) = nI (mv j) := by
    intro j hj
    rcases (show j = 0 ∨ j = 1 ∨ j = 2 by omega) with rfl | rfl | rfl <;> simp [mw_rd]
  generalize mw (mw (mw μ 142 18 (nI (mv 0))) 142 19 (nI (mv 1))) 142 20 (nI (mv 2)) = μ1 at hK0 hm0
  have hA1 := h.mk hS hK0
  have loop : ∀ (n k w : Nat) (μ' : Mem), n + k = sNs S → w ≤ 1 → Fm [] kB μ1 μ' → (w = 1 ↔ ∀ k', k' < k → sSf S k' < rFc (sR S) → bH1 (0, mv, 0) (feOf (sR S) (sH S) (sSf S k')) = sSh S k') → Zm G X cX11_mayBeMask RX11 μ' 30 [some (.ref (qB G + 140)), some (.int (nI (mv 0))), some (.int (nI (mv 1))), some (.int (nI (mv 2))), some (.int (nI w)), some (.int (nI k))] [] := by
    intro n
    induction n with
    | zero =>
      intro k w μ' hn hw hF hiff
      have hA := hA1.fm hS hF (by decide) kB_kS
      refine z_iload_5 iX11_mayBeMask_30 ?_
      refine z_aload_0 iX11_mayBeMask_32 ?_
      refine m_getI iX11_mayBeMask_33 g_11_222 rfl ?_
      refine z_top (hA.2.2.2.2.2.1.1) ?_
      refine z_icmp_geN iX11_mayBeMask_36 (by omega) (by omega) (fun q => ?_) (fun q => ?_)
      · rw [show k = sNs S by omega] at hiff
        refine z_iload_4 iX11_mayBeMask_114 ?_
        rcases (show w = 1 ∨ w = 0 by omega) with rfl | rfl
        · exact m_zret hE iX11_mayBeMask_116 rfl ⟨hK0.trans (MkF.of hF), Or.inl ⟨rfl, hiff.mp rfl⟩⟩
        · exact m_zret hE iX11_mayBeMask_116 rfl ⟨hK0.trans (MkF.of hF), Or.inr ⟨rfl, fun z => absurd (hiff.mpr z) (by decide)⟩⟩
      · omega
    | succ n ih =>
      intro k w μ' hn hw hF hiff
      have hA := hA1.fm hS hF (by decide) kB_kS
      have hk : k < sNs S := by omega
      have hsf := (hsd k hk).1
      have hsh := (hsd k hk).2
      have e1 := (hA.2.2.2.2.2.1.2 k hk).1
      refine z_iload_5 iX11_mayBeMask_30 ?_
      refine z_aload_0 iX11_mayBeMask_32 ?_
      refine m_getI iX11_mayBeMask_33 g_11_222 rfl ?_
      refine z_top (hA.2.2.2.2.2.1.1) ?_
      refine z_icmp_geN iX11_mayBeMask_36 (by omega) (by omega) (fun q => ?_) (fun q => ?_)
      · omega
      · refine z_aload_0 iX11_mayBeMask_39 ?_
        refine z_aload_0 iX11_mayBeMask_40 ?_
        refine m_getR iX11_mayBeMask_41 g_11_46 rfl ?_
        refine z_iload_5 iX11_mayBeMask_44 ?_
        refine m_ialdN iX11_mayBeMask_46 rfl (by omega) ?_
        refine z_top (e1) ?_
        refine m_callVi iX11_mayBeMask_47 l_11_153 f_X11_isFencer (c_X11_isFencer G _ hA.1.1 (by omega) (nI (sSf S k))) rfl rfl rfl (Nat.le_of_ble_eq_true rfl) hR ft_X11_mayBeMask_X11_isFencer ⟨rfl, rfl⟩ ?_
        rintro r μ2 ⟨rfl, ⟨rfl, f, hf, ef⟩ | ⟨rfl, hnf⟩⟩
        · have hsl : sSf S k < rFc (sR S) := by have := (nI_eq (by omega) (by omega)).mp ef; omega
          refine z_if_eq iX11_mayBeMask_50 (fun q1 => ?_) (fun q1 => ?_)
          · exact absurd q1 nI10
          · have hm : MFen μ2 6 (0, mv, 0) := ⟨by show μ2.1 141 6 = nI 0; exact hA.2.2.2.2.2.2.2, fun j hj => by rw [hF.1 142 (by decide) (by decide)]; exact hm0 j hj⟩
            refine z_aload_0 iX11_mayBeMask_53 ?_
            refine z_bipush iX11_mayBeMask_54 kB_6 ?_
            refine z_aload_0 iX11_mayBeMask_56 ?_
            refine m_getR iX11_mayBeMask_57 g_11_46 rfl ?_
            refine z_iload_5 iX11_mayBeMask_60 ?_
            refine m_ialdN iX11_mayBeMask_62 rfl (by omega) ?_
            refine z_top (e1) ?_
            refine z_iconst iX11_mayBeMask_63 kI_0 ?_
            refine z_aload_0 iX11_mayBeMask_64 ?_
            refine m_getR iX11_mayBeMask_65 g_11_22 rfl ?_
            refine z_bipush iX11_mayBeMask_68 kB_11 ?_
            refine z_aload_0 iX11_mayBeMask_70 ?_
            refine m_getR iX11_mayBeMask_71 g_11_46 rfl ?_
            refine z_iload_5 iX11_mayBeMask_74 ?_
            refine m_ialdN iX11_mayBeMask_76 rfl (by omega) ?_
            refine z_top (e1) ?_
            refine z_iaddN iX11_mayBeMask_77 ?_
            refine m_ialdN iX11_mayBeMask_78 rfl (by omega) ?_
            refine z_top (hA.2.1.fe0 (by omega)) ?_
            refine m_callVv iX11_mayBeMask_79 l_11_141 f_X11_fight (c_X11_fight (F1 := (0, mv, 0)) (F2 := feOf (sR S) (sH S) (sSf S k)) G _ (by decide) (by omega) hm (hA.1.fen (sH S) hsl) ⟨show 0 < 4 by decide, hmv, show 0 < 3 by decide⟩ (feOK hQ hH hsl)) rfl rfl rfl (Nat.le_of_ble_eq_true rfl) hR ft_X11_mayBeMask_X11_fight ⟨rfl, rfl⟩ ?_
            rintro μ3 ⟨hF3, hP3⟩
            have hF9 := hF.trans hF3
            have hA3 := hA1.fm hS hF9 (by decide) kB_kS
            have hl := bH_lt (0, mv, 0) (feOf (sR S) (sH S) (sSf S k))
            have e2 : μ3.1 140 15 = nI (bH1 (0, mv, 0) (feOf (sR S) (sH S) (sSf S k))) := hP3.2.2.1
            have e3 := (hA3.2.2.2.2.2.1.2 k hk).2
            have fin : ∀ w' : Nat, w' ≤ 1 → (w' = 1 ↔ w = 1 ∧ bH1 (0, mv, 0) (feOf (sR S) (sH S) (sSf S k)) = sSh S k) → Zm G X cX11_mayBeMask RX11 μ3 106 [some (.ref (qB G + 140)), some (.int (nI (mv 0))), some (.int (nI (mv 1))), some (.int (nI (mv 2))), some (.int (nI w)), some (.int (nI k))] [.int (nI w')] := by
              intro w' hw' hi'
              refine z_istore_4 iX11_mayBeMask_106 rfl ?_
              refine z_iinc_5N iX11_mayBeMask_108 rfl ?_
              refine z_goto iX11_mayBeMask_111 ?_
              refine ih (k + 1) w' μ3 (by omega) hw' hF9 ?_
              rw [hi', hiff]
              constructor
              · rintro ⟨z1, z2⟩ k' hk' hl'
                by_cases e : k' = k
                · subst e; exact z2
                · exact z1 k' (by omega) hl'
              · intro z
                exact ⟨fun k' hk' => z k' (by omega), z k (by omega) hsl⟩
            refine z_iload_4 iX11_mayBeMask_82 ?_
            refine z_if_eqN iX11_mayBeMask_84 (by omega) (fun q2 => ?_) (fun q2 => ?_)
            · refine z_iconst iX11_mayBeMask_105 kI_0 ?_
              exact fin 0 (by decide) ⟨(fun z => absurd z (by decide)), fun z => by omega⟩
            · refine z_aload_0 iX11_mayBeMask_87 ?_
              refine m_getI iX11_mayBeMask_88 g_11_128 rfl ?_
              refine z_top (e2) ?_
              refine z_aload_0 iX11_mayBeMask_91 ?_
              refine m_getR iX11_mayBeMask_92 g_11_49 rfl ?_
              refine z_iload_5 iX11_mayBeMask_95 ?_
              refine m_ialdN iX11_mayBeMask_97 rfl (by omega) ?_
              refine z_top (e3) ?_
              refine z_icmp_neN iX11_mayBeMask_98 (by omega) (by omega) (fun q3 => ?_) (fun q3 => ?_)
              · refine z_iconst iX11_mayBeMask_105 kI_0 ?_
                exact fin 0 (by decide) ⟨(fun z => absurd z (by decide)), fun z => absurd z.2 q3⟩
              · refine z_iconst iX11_mayBeMask_101 kI_1 ?_
                refine z_goto iX11_mayBeMask_102 ?_
                exact fin 1 (by decide) ⟨fun _ => ⟨by omega, q3⟩, fun _ => rfl⟩
        · refine z_if_eq iX11_mayBeMask_50 (fun q1 => ?_) (fun q1 => ?_)
          · refine z_iinc_5N iX11_mayBeMask_108 rfl ?_
            refine z_goto iX11_mayBeMask_111 ?_
            refine ih (k + 1) w μ2 (by omega) hw hF ?_
            rw [hiff]
            constructor
            · intro z k' hk' hl'
              by_cases e : k' = k
              · subst e; exact absurd rfl (hnf _ hl')
              · exact z k' (by omega) hl'
            · exact fun z k' hk' => z k' (by omega)
          · exact absurd nI00 q1
  exact loop (sNs S) 0 1 μ1 (by omega) (by decide) Fm.rf ⟨fun _ k' hk' => absurd hk' (Nat.not_lt_zero k'), fun _ => rfl⟩
theorem qTwo_no {x v0 v1 : Int32} (h : idx x 2 = none) : qTwo x v0 v1 = -2 := by unfold qTwo; rw [h]
theorem c_X11_masks (G : qG) (l : Launch) {μ : Mem} {S : St} (h : MAt μ S) (hS : SOK S) (x : Int32) : CtrI G l M_X11_masks [.ref (qB G + 140), .int x] μ (QM μ S (qTwo x (nI (cnt (mskB S) 64)) (fstV (mskB S) mskV 64))) := by
  refine m_enterI [some (.ref (qB G + 140)), some (.int x), none, none, none, none, none, none] (by decide +kernel) rfl (Nat.le_of_ble_eq_true rfl) (fun X hE hR => ?_)
  have hR : qR X = rm_X11_masks := hR
  have hE : EI G X _ (some .int) := hE
  show Zm G X cX11_masks RX11 _ 0 [some (.ref (qB G + 140)), some (.int x), none, none, none, none, none, none] []
  refine z_iload_1 iX11_masks_0 ?_
  refine z_i2l iX11_masks_1 ?_
  refine z_lconst (x := 0) iX11_masks_2 rfl ?_
  refine z_lconst (x := 1) iX11_masks_3 rfl ?_
  refine m_callSi iX11_masks_4 l_11_61 f_X11_in (c_inI G _ x (y := 0) (z := 1) (a := 0) (b := 1) rfl rfl) rfl rfl (Nat.le_of_ble_eq_true rfl) hR ft_X11_masks_X11_in ⟨rfl, rfl⟩ ?_
  rintro r μ1 ⟨rfl, hr⟩
  rcases q_cases x 2 (by decide) with ⟨k, hk, rfl, ei⟩ | ⟨ei, hx, -⟩
  · rw [nI_toInt (by omega)] at hr
    rcases hr with ⟨rfl, hr⟩ | ⟨rfl, hr⟩
    · refine z_if_ne iX11_masks_7 (fun q2 => ?_) (fun q2 => ?_)
      · have loop : ∀ (m n : Nat) (o5 o6 o7 : Option Value) (μ' : Mem), m + n = 64 → (o5 = none ∧ o6 = none ∧ o7 = none ∨ ∃ a b c, o5 = some (.int a) ∧ o6 = some (.int b) ∧ o7 = some (.int c)) → MkF μ1 μ' → Zm G X cX11_masks RX11 μ' 21 [some (.ref (qB G + 140)), some (.int (nI k)), some (.int (nI (cnt (mskB S) n))), some (.int (fstV (mskB S) mskV n)), some (.int (nI n)), o5, o6, o7] [] := by
          intro m
          induction m with
          | zero =>
            intro n o5 o6 o7 μ' hn ho hF
            rw [show n = 64 by omega]
            refine z_iload_4 iX11_masks_21 ?_
            refine z_bipush iX11_masks_23 kB_64 ?_
            refine z_icmp_geN iX11_masks_25 (by omega) (by omega) (fun q3 => ?_) (fun q3 => ?_)
            · have hq : ∀ v : Int32, QM μ1 S v v μ' := fun v => ⟨rfl, h.mk hS hF, hF.1.cs (by decide)⟩
              refine z_iload_1 iX11_masks_100 ?_
              refine z_if_neN iX11_masks_101 (by omega) (fun q4 => ?_) (fun q4 => ?_)
              · rw [show k = 1 by omega, qTwo_1] at hE
                refine z_iload_3 iX11_masks_108 ?_
                exact m_iret hE iX11_masks_109 (hq _)
              · rw [q4, qTwo_0] at hE
                refine z_iload_2 iX11_masks_104 ?_
                refine z_goto iX11_masks_105 ?_
                exact m_iret hE iX11_masks_109 (hq _)
            · omega
          | succ m ih =>
            intro n o5 o6 o7 μ' hn ho hF
            have hn64 : n < 64 := by omega
            have hc := cnt_le (mskB S) n
            refine z_iload_4 iX11_masks_21 ?_
            refine z_bipush iX11_masks_23 kB_64 ?_
            refine z_icmp_geN iX11_masks_25 (by omega) (by omega) (fun q3 => ?_) (fun q3 => ?_)
            · omega
            · have m0 : nI (1 + n / 16) = nI (mkMv n 0) := by rw [Nat.add_comm]; rfl
              have m1 : nI (1 + n / 4 % 4) = nI (mkMv n 1) := by rw [Nat.add_comm]; rfl
              have m2 : nI (1 + n % 4) = nI (mkMv n 2) := by rw [Nat.add_comm]; rfl
              rcases ho with ⟨rfl, rfl, rfl⟩ | ⟨a9, b9, c9, rfl, rfl, rfl⟩
              all_goals {
              refine z_iconst iX11_masks_28 kI_1 ?_
              refine z_iload_4 iX11_masks_29 ?_
              refine z_bipush iX11_masks_31 kB_16 ?_
              refine z_idivN iX11_masks_33 (by omega) (by omega) (by omega) ?_
              refine z_iaddN iX11_masks_34 ?_
              refine z_top (m0) ?_
              refine z_istore_5 iX11_masks_35 rfl ?_
              refine z_iconst iX11_masks_37 kI_1 ?_
              refine z_iload_4 iX11_masks_38 ?_
              refine z_iconst iX11_masks_40 kI_4 ?_
              refine z_idivN iX11_masks_41 (by omega) (by omega) (by omega) ?_
              refine z_iconst iX11_masks_42 kI_4 ?_
              refine z_iremN iX11_masks_43 (by omega) (by omega) (by omega) ?_
              refine z_iaddN iX11_masks_44 ?_
              refine z_top (m1) ?_
              refine z_istore_6 iX11_masks_45 rfl ?_
              refine z_iconst iX11_masks_47 kI_1 ?_
              refine z_iload_4 iX11_masks_48 ?_
              refine z_iconst iX11_masks_50 kI_4 ?_
              refine z_iremN iX11_masks_51 (by omega) (by omega) (by omega) ?_
              refine z_iaddN iX11_masks_52 ?_
              refine z_top (m2) ?_
              refine z_istore_7 iX11_masks_53 rfl ?_
              refine z_aload_0 iX11_masks_55 ?_
              refine z_iload_5 iX11_masks_56 ?_
              refine z_iload_6 iX11_masks_58 ?_
              refine z_iload_7 iX11_masks_60 ?_
              refine m_callVi iX11_masks_62 l_11_225 f_X11_mayBeMask (c_X11_mayBeMask (mv := mkMv n) G _ (h.mk hS hF) hS (fun j hj => mkMv_lt hn64)) rfl rfl rfl (Nat.le_of_ble_eq_true rfl) hR ft_X11_masks_X11_mayBeMask ⟨rfl, rfl⟩ ?_
              rintro r μ2 ⟨hF2, hr2⟩
              have hF3 := hF.trans hF2
              rcases hr2 with ⟨rfl, hp⟩ | ⟨rfl, hp⟩
              · have hpn : mskB S n = true := by unfold mskB fitB; exact decide_eq_true hp
                have ec := cnt_t hpn
                have fin : ∀ v : Int32, v = fstV (mskB S) mskV (n + 1) → Zm G X cX11_masks RX11 μ2 90 [some (.ref (qB G + 140)), some (.int (nI k)), some (.int (nI (cnt (mskB S) n))), some (.int (fstV (mskB S) mskV n)), some (.int (nI n)), some (.int (nI (mkMv n 0))), some (.int (nI (mkMv n 1))), some (.int (nI (mkMv n 2)))] [.int v] := by
                  intro v hv
                  refine z_istore_3 iX11_masks_90 rfl ?_
                  refine z_iinc_2N iX11_masks_91 rfl ?_
                  refine z_iinc_4N iX11_masks_94 rfl ?_
                  refine z_goto iX11_masks_97 ?_
                  rw [hv, ← ec]
                  exact ih (n + 1) _ _ _ μ2 (by omega) (Or.inr ⟨_, _, _, rfl, rfl, rfl⟩) hF3
                refine z_if_eq iX11_masks_65 (fun q4 => ?_) (fun q4 => ?_)
                · exact absurd q4 nI10
                · refine z_iload_2 iX11_masks_68 ?_
                  refine z_if_neN iX11_masks_69 (by omega) (fun q5 => ?_) (fun q5 => ?_)
                  · refine z_iload_3 iX11_masks_89 ?_
                    exact fin _ (fstV_s2 q5).symm
                  · refine z_bipush iX11_masks_72 kB_100 ?_
                    refine z_iload_5 iX11_masks_74 ?_
                    refine z_imulN iX11_masks_76 ?_
                    refine z_bipush iX11_masks_77 kB_10 ?_
                    refine z_iload_6 iX11_masks_79 ?_
                    refine z_imulN iX11_masks_81 ?_
                    refine z_iaddN iX11_masks_82 ?_
                    refine z_iload_7 iX11_masks_83 ?_
                    refine z_iaddN iX11_masks_85 ?_
                    refine z_goto iX11_masks_86 ?_
                    exact fin _ (fstV_s1 (v := mskV) hpn q5).symm
              · have hpn : mskB S n = false := by unfold mskB fitB; exact decide_eq_false hp
                refine z_if_eq iX11_masks_65 (fun q4 => ?_) (fun q4 => ?_)
                · refine z_iinc_4N iX11_masks_94 rfl ?_
                  refine z_goto iX11_masks_97 ?_
                  rw [← cnt_f hpn, ← fstV_s3 (v := mskV) hpn]
                  exact ih (n + 1) _ _ _ μ2 (by omega) (Or.inr ⟨_, _, _, rfl, rfl, rfl⟩) hF3
                · exact absurd nI00 q4 }
        refine z_iconst iX11_masks_13 kI_0 ?_
        refine z_istore_2 iX11_masks_14 rfl ?_
        refine z_bipush (x := -9) iX11_masks_15 (by decide) ?_
        refine z_istore_3 iX11_masks_17 rfl ?_
        refine z_iconst iX11_masks_18 kI_0 ?_
        refine z_istore_4 iX11_masks_19 rfl ?_
        exact loop 64 0 none none none μ1 (by decide) (Or.inl ⟨rfl, rfl, rfl⟩) MkF.rf
      · exact absurd q2 nI10
    · omega
  · rcases hr with ⟨rfl, hr⟩ | ⟨rfl, hr⟩
    · omega
    · refine z_if_ne iX11_masks_7 (fun q2 => ?_) (fun q2 => ?_)
      · exact absurd nI00 q2
      · refine z_bipush (x := -2) iX11_masks_10 (by decide) ?_
        exact m_iret hE iX11_masks_12 (QM.rf h (qTwo_no ei).symm)

/-! THE LAW: its loop -/
theorem lw_body {G : qG} {X : qX} {b L i : Nat} {xs : Nat → Int32} {μ : Mem} {S : St} (hX : LwX G X b L xs) (hL : L ≤ 320) (hi : i + 5 ≤ L) (hC : CAt μ S) (hM : MAt μ S) (kk : ∀ (μ9 : Mem) (S9 : St), CAt μ9 S9 → MAt μ9 S9 → Zw G X μ9 963 [some (.ref b), some (.ref (qB G + 0)), some (.ref (qB G + 140)), some (.int (nI i))] []) : Zw G X μ 26 [some (.ref b), some (.ref (qB G + 0)), some (.ref (qB G + 140)), some (.int (nI i))] [] := by
  refine z_aload_0 iL_law_26 ?_
  refine z_iload_3 iL_law_27 ?_
  refine w_sld hX iL_law_28 (by omega) hL ?_
  refine z_bipush iL_law_29 kB_31 ?_
  refine z_iand iL_law_31 ?_
  obtain ⟨k, hk, e⟩ := lw_and (xs i)
  refine z_top e ?_
  rcases Nat.lt_or_ge k 26 with h26 | h26
  · clear e hk
    rcases (show k = 0 ∨ k = 1 ∨ k = 2 ∨ k = 3 ∨ k = 4 ∨ k = 5 ∨ k = 6 ∨ k = 7 ∨ k = 8 ∨ k = 9 ∨ k = 10 ∨ k = 11 ∨ k = 12 ∨ k = 13 ∨ k = 14 ∨ k = 15 ∨ k = 16 ∨ k = 17 ∨ k = 18 ∨ k = 19 ∨ k = 20 ∨ k = 21 ∨ k = 22 ∨ k = 23 ∨ k = 24 ∨ k = 25 by omega) with rfl | rfl | rfl | rfl | rfl | rfl | rfl | rfl | rfl | rfl | rfl | rfl | rfl | rfl | rfl | rfl | rfl | rfl | rfl | rfl | rfl | rfl | rfl | rfl | rfl | rfl
    · exact w_tab iL_law_32 (by decide) rfl rfl (lw_c0 hX hL hi hC hM kk)
    · exact w_tab iL_law_32 (by decide) rfl rfl (lw_c1 hX hL hi hC hM kk)
    · exact w_tab iL_law_32 (by decide) rfl rfl (lw_c2 hX hL hi hC hM kk)
    · exact w_tab iL_law_32 (by decide) rfl rfl (lw_c3 hX hL hi hC hM kk)
    · exact w_tab iL_law_32 (by decide) rfl rfl (lw_c4 hX hL hi hC hM kk)
    · exact w_tab iL_law_32 (by decide) rfl rfl (lw_c5 hX hL hi hC hM kk)
    · exact w_tab iL_law_32 (by decide) rfl rfl (lw_c6 hX hL hi hC hM kk)
    · exact w_tab iL_law_32 (by decide) rfl rfl (lw_c7 hX hL hi hC hM kk)
    · exact w_tab iL_law_32 (by decide) rfl rfl (lw_c8 hX hL hi hC hM kk)
    · exact w_tab iL_law_32 (by decide) rfl rfl (lw_c9 hX hL hi hC hM kk)
    · exact w_tab iL_law_32 (by decide) rfl rfl (lw_c10 hX hL hi hC hM kk)
    · exact w_tab iL_law_32 (by decide) rfl rfl (lw_c11 hX hL hi hC hM kk)
    · exact w_tab iL_law_32 (by decide) rfl rfl (lw_c12 hX hL hi hC hM kk)
    · exact w_tab iL_law_32 (by decide) rfl rfl (lw_c13 hX hL hi hC hM kk)
    · exact w_tab iL_law_32 (by decide) rfl rfl (lw_c14 hX hL hi hC hM kk)
    · exact w_tab iL_law_32 (by decide) rfl rfl (lw_c15 hX hL hi hC hM kk)
    · exact w_tab iL_law_32 (by decide) rfl rfl (lw_c16 hX hL hi hC hM kk)
    · exact w_tab iL_law_32 (by decide) rfl rfl (lw_c17 hX hL hi hC hM kk)
    · exact w_tab iL_law_32 (by decide) rfl rfl (lw_c18 hX hL hi hC hM kk)
    · exact w_tab iL_law_32 (by decide) rfl rfl (lw_c19 hX hL hi hC hM kk)
    · exact w_tab iL_law_32 (by decide) rfl rfl (lw_c20 hX hL hi hC hM kk)
    · exact w_tab iL_law_32 (by decide) rfl rfl (lw_c21 hX hL hi hC hM kk)
    · exact w_tab iL_law_32 (by decide) rfl rfl (lw_c22 hX hL hi hC hM kk)
    · exact w_tab iL_law_32 (by decide) rfl rfl (lw_c23 hX hL hi hC hM kk)
    · exact w_tab iL_law_32 (by decide) rfl rfl (lw_c24 hX hL hi hC hM kk)
    · exact w_tab iL_law_32 (by decide) rfl rfl (lw_c25 hX hL hi hC hM kk)
  · exact w_tabOut iL_law_32 h26 hk rfl (kk _ _ hC hM)
theorem lw_loop {G : qG} {X : qX} {b L : Nat} {xs : Nat → Int32} (hX : LwX G X b L xs) (hL : L ≤ 320) (hEnd : ∀ (μ : Mem) (vs : List (Option Value)), vs.length = 4 → Zw G X μ 970 vs [.int (nI 1)]) : ∀ (n i : Nat) (μ : Mem) (S : St), L ≤ i + n → i ≤ 325 → CAt μ S → MAt μ S → Zw G X μ 18 [some (.ref b), some (.ref (qB G + 0)), some (.ref (qB G + 140)), some (.int (nI i))] [] := by
  intro n
  induction n with
  | zero =>
    intro i μ S hn hi hC hM
    refine z_iload_3 iL_law_18 ?_
    refine z_aload_0 iL_law_19 ?_
    refine w_slen hX iL_law_20 ?_
    refine z_iconst iL_law_21 kI_5 ?_
    refine z_isub iL_law_22 ?_
    refine z_icmp_gt iL_law_23 (fun q => ?_) (fun q => absurd ((lw_lt hL (by omega)).mpr (by omega)) q)
    exact z_iconst iL_law_969 kI_1 (hEnd _ _ rfl)
  | succ n ih =>
    intro i μ S hn hi hC hM
    refine z_iload_3 iL_law_18 ?_
    refine z_aload_0 iL_law_19 ?_
    refine w_slen hX iL_law_20 ?_
    refine z_iconst iL_law_21 kI_5 ?_
    refine z_isub iL_law_22 ?_
    refine z_icmp_gt iL_law_23 (fun q => ?_) (fun q => ?_)
    · exact z_iconst iL_law_969 kI_1 (hEnd _ _ rfl)
    · have hi5 : i + 5 ≤ L := Classical.byContradiction fun z => q ((lw_lt hL (by omega)).mpr z)
      refine lw_body hX hL hi5 hC hM (fun μ9 S9 hC9 hM9 => ?_)
      refine z_iinc_3 iL_law_963 rfl ?_
      have e : nI i + Int32.ofInt 5 = nI (i + 5) := by rw [show Int32.ofInt 5 = nI 5 by decide, nI_add]
      rw [e]
      refine z_goto iL_law_966 ?_
      exact ih (i + 5) μ9 S9 (by omega) (by omega) hC9 hM9

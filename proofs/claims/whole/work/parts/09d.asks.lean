/-! THE CLASS'S CALLS that only answer -/
theorem scr_cS : ∀ a, a ∈ cS 37 → scr a ∧ a ≠ 125 := fun a h => by unfold cS at h; unfold scr; simp at h; omega
def vFencer (S : St) (f k : Nat) : Int32 := match k with
  | 0 => nI (rKd (sR S) f)
  | 1 => nI (100 * rMv (sR S) f 0 + 10 * rMv (sR S) f 1 + rMv (sR S) f 2)
  | 2 => nI (hPu (sH S) f)
  | 3 => nI (hFe (sH S) f)
  | 4 => nI (bset (fun g => decide (hOw (sH S) g = f)) (rGc (sR S)))
  | _ => nI (btS (sR S) (sH S) f)
def qFencer (S : St) (x y : Int32) : Int32 := match idx x (rFc (sR S)) with
  | none => -1
  | some f => match idx y 6 with
    | none => -2
    | some k => vFencer S f k
theorem q_cases (y : Int32) (n : Nat) (hn : n < 2 ^ 31) : (∃ k, k < n ∧ y = nI k ∧ idx y n = some k) ∨ (idx y n = none ∧ (y.toInt < 0 ∨ (n : Int) - 1 < y.toInt) ∧ ∀ k, k < n → y ≠ nI k) := by
  by_cases h : y < 0
  · refine Or.inr ⟨idx_neg h, Or.inl ?_, fun k hk e => ?_⟩
    · have := Int32.lt_iff_toInt_lt.mp h
      simpa using this
    · rw [e] at h
      exact nI_pos (by omega) h
  · obtain ⟨k, hk, rfl⟩ := nI_of h
    by_cases q : k < n
    · exact Or.inl ⟨k, q, rfl, idx_some hn q⟩
    · refine Or.inr ⟨idx_big hk (by omega), Or.inr ?_, fun j hj e => ?_⟩
      · rw [nI_toInt hk]; omega
      · have := (nI_eq hk (by omega)).mp e; omega
theorem c_X10_fencer (G : qG) (l : Launch) {μ : Mem} {S : St} (h : CAt μ S) (x y : Int32) : CtrI G l M_X10_fencer [.ref (qB G + 0), .int x, .int y] μ (QP μ S (qFencer S x y)) := by
  refine m_enterI [some (.ref (qB G + 0)), some (.int x), some (.int y)] (by decide +kernel) rfl (Nat.le_of_ble_eq_true rfl) (fun X hE hR => ?_)
  have hR : qR X = rm_X10_fencer := hR
  have hE : EI G X _ (some .int) := hE
  show Zm G X cX10_fencer RX10 _ 0 [some (.ref (qB G + 0)), some (.int x), some (.int y)] []
  obtain ⟨c0, c1, c2, c3, c4, c5, c6, c7, c8, c9⟩ := id h
  have h6 := c0.2.2.1.1
  refine z_aload_0 iX10_fencer_0 ?_
  refine m_getR iX10_fencer_1 g_10_29 rfl ?_
  refine z_iload_1 iX10_fencer_4 ?_
  refine m_callVi iX10_fencer_5 l_10_119 f_X7_hasFencer (c_X7_hasFencer G _ rfl c3.1 (by omega) x) rfl rfl rfl (Nat.le_of_ble_eq_true rfl) hR ft_X10_fencer_X7_hasFencer ⟨rfl, rfl⟩ ?_
  rintro r μ1 ⟨rfl, ⟨rfl, f, hf, rfl⟩ | ⟨rfl, hn⟩⟩
  · have ei := idx_some (n := rFc (sR S)) (f := f) (by omega) hf
    have f6 : f < 6 := by omega
    refine z_if_ne iX10_fencer_8 (fun q => ?_) (fun q => ?_)
    · refine z_iload_2 iX10_fencer_13 ?_
      rcases q_cases y 6 (by decide) with ⟨k, hk, rfl, ej⟩ | ⟨ej, hy, -⟩
      · have hq : qFencer S (nI f) (nI k) = vFencer S f k := by unfold qFencer; rw [ei, ej]
        rcases (show k = 0 ∨ k = 1 ∨ k = 2 ∨ k = 3 ∨ k = 4 ∨ k = 5 by omega) with rfl | rfl | rfl | rfl | rfl | rfl
        · refine z_tableIn (off := 38) (tgt := 52) iX10_fencer_14 (by decide) (by decide) (by decide) (by decide) ?_
          refine z_aload_0 iX10_fencer_52 ?_
          refine m_getR iX10_fencer_53 g_10_29 rfl ?_
          refine m_getR iX10_fencer_56 g_10_123 rfl ?_
          refine z_iload_1 iX10_fencer_59 ?_
          refine m_aaldN iX10_fencer_60 rfl (by decide) f6 ?_
          refine m_getI iX10_fencer_61 g_10_127 (isFen_roll f f6).1 ?_
          refine z_top ((c3.2.2.1 f hf).1) ?_
          exact m_iret hE iX10_fencer_64 (QP.rf h hq.symm)
        · refine z_tableIn (off := 51) (tgt := 65) iX10_fencer_14 (by decide) (by decide) (by decide) (by decide) ?_
          refine z_aload_0 iX10_fencer_65 ?_
          refine m_getR iX10_fencer_66 g_10_29 rfl ?_
          refine m_getR iX10_fencer_69 g_10_123 rfl ?_
          refine z_iload_1 iX10_fencer_72 ?_
          refine m_aaldN iX10_fencer_73 rfl (by decide) f6 ?_
          refine m_callVi iX10_fencer_74 l_10_132 f_X4_movesAsFigures (c_X4_movesAsFigures (mv := rMv (sR S) f) G _ (isFen_roll f f6) (c3.2.2.1 f hf).2) (isFen_roll f f6).2.2.2 rfl rfl (Nat.le_of_ble_eq_true rfl) hR ft_X10_fencer_X4_movesAsFigures ⟨rfl, rfl⟩ ?_
          rintro r μ2 ⟨rfl, rfl⟩
          exact m_iret hE iX10_fencer_77 (QP.rf h hq.symm)
        · refine z_tableIn (off := 64) (tgt := 78) iX10_fencer_14 (by decide) (by decide) (by decide) (by decide) ?_
          refine z_aload_0 iX10_fencer_78 ?_
          refine m_getR iX10_fencer_79 g_10_44 rfl ?_
          refine m_getR iX10_fencer_82 g_10_103 rfl ?_
          refine m_getR iX10_fencer_85 g_10_136 rfl ?_
          refine z_iload_1 iX10_fencer_88 ?_
          refine m_ialdN iX10_fencer_89 rfl f6 ?_
          refine z_top (c4.2.1 f f6) ?_
          exact m_iret hE iX10_fencer_90 (QP.rf h hq.symm)
        · refine z_tableIn (off := 77) (tgt := 91) iX10_fencer_14 (by decide) (by decide) (by decide) (by decide) ?_
          refine z_aload_0 iX10_fencer_91 ?_
          refine m_getR iX10_fencer_92 g_10_44 rfl ?_
          refine m_getR iX10_fencer_95 g_10_103 rfl ?_
          refine m_getR iX10_fencer_98 g_10_139 rfl ?_
          refine z_iload_1 iX10_fencer_101 ?_
          refine m_ialdN iX10_fencer_102 rfl f6 ?_
          refine z_top (c4.2.2.1 f f6) ?_
          exact m_iret hE iX10_fencer_103 (QP.rf h hq.symm)
        · refine z_tableIn (off := 90) (tgt := 104) iX10_fencer_14 (by decide) (by decide) (by decide) (by decide) ?_
          refine z_aload_0 iX10_fencer_104 ?_
          refine m_getR iX10_fencer_105 g_10_44 rfl ?_
          refine z_iload_1 iX10_fencer_108 ?_
          refine m_callVi iX10_fencer_109 l_10_142 f_X8_goodsOf (c_X8_goodsOf G _ isSal_37 c0.2.2.1 c0.2.2.2.1 c3 c4 (by omega)) rfl rfl rfl (Nat.le_of_ble_eq_true rfl) hR ft_X10_fencer_X8_goodsOf ⟨rfl, rfl⟩ ?_
          rintro r μ2 ⟨rfl, rfl⟩
          exact m_iret hE iX10_fencer_112 (QP.rf h hq.symm)
        · refine z_tableIn (off := 99) (tgt := 113) iX10_fencer_14 (by decide) (by decide) (by decide) (by decide) ?_
          refine z_aload_0 iX10_fencer_113 ?_
          refine m_getR iX10_fencer_114 g_10_44 rfl ?_
          refine m_callVv iX10_fencer_117 l_10_146 f_X8_compareAll (c_X8_compareAll G _ isSal_37 c0.2.2.1 c0.2.2.2.1 c3 c4) rfl rfl rfl (Nat.le_of_ble_eq_true rfl) hR ft_X10_fencer_X8_compareAll ⟨rfl, rfl⟩ ?_
          rintro μ2 ⟨hF2, hL⟩
          refine z_aload_0 iX10_fencer_120 ?_
          refine m_getR iX10_fencer_121 g_10_44 rfl ?_
          refine z_iload_1 iX10_fencer_124 ?_
          refine m_callVi iX10_fencer_125 l_10_149 f_X8_beatenBy (c_X8_beatenBy (p := btB (sR S) (sH S) f) G _ isSal_37 c0.2.2.1 (c3.fr c0.2.2.1 hF2 (by decide)) hL hf (fun _ _ => btB_iff)) rfl rfl rfl (Nat.le_of_ble_eq_true rfl) hR ft_X10_fencer_X8_beatenBy ⟨rfl, rfl⟩ ?_
          rintro r μ3 ⟨rfl, rfl⟩
          exact m_iret hE iX10_fencer_128 (QP.of h hF2 scr_cS hq.symm)
      · refine z_tableOut (tgt := 129) iX10_fencer_14 (by omega) (by decide) ?_
        refine z_bipush (x := -2) iX10_fencer_129 (by decide) ?_
        exact m_iret hE iX10_fencer_131 (QP.rf h (by unfold qFencer; rw [ei, ej]))
    · exact absurd q nI10
  · refine z_if_ne iX10_fencer_8 (fun q => ?_) (fun q => ?_)
    · exact absurd nI00 q
    · refine z_iconst (x := -1) iX10_fencer_11 (by decide) ?_
      exact m_iret hE iX10_fencer_12 (QP.rf h (by unfold qFencer; rw [idx_none hn]))
def vGood (S : St) (g k : Nat) : Int32 := match k with
  | 0 => nI (hOw (sH S) g)
  | 1 => nI (rPr (sR S) g)
  | _ => nI (rTl (sR S) g)
def qGood (S : St) (x y : Int32) : Int32 := match idx x (rGc (sR S)) with
  | none => -1
  | some g => match idx y 3 with
    | none => -2
    | some k => vGood S g k
theorem c_X10_good (G : qG) (l : Launch) {μ : Mem} {S : St} (h : CAt μ S) (x y : Int32) : CtrI G l M_X10_good [.ref (qB G + 0), .int x, .int y] μ (QP μ S (qGood S x y)) := by
  refine m_enterI [some (.ref (qB G + 0)), some (.int x), some (.int y)] (by decide +kernel) rfl (Nat.le_of_ble_eq_true rfl) (fun X hE hR => ?_)
  have hR : qR X = rm_X10_good := hR
  have hE : EI G X _ (some .int) := hE
  show Zm G X cX10_good RX10 _ 0 [some (.ref (qB G + 0)), some (.int x), some (.int y)] []
  obtain ⟨c0, c1, c2, c3, c4, c5, c6, c7, c8, c9⟩ := id h
  have h5 := c0.2.2.1.2.1
  refine z_aload_0 iX10_good_0 ?_
  refine m_getR iX10_good_1 g_10_29 rfl ?_
  refine z_iload_1 iX10_good_4 ?_
  refine m_callVi iX10_good_5 l_10_152 f_X7_hasGood (c_X7_hasGood G _ rfl c3.2.1 (by omega) x) rfl rfl rfl (Nat.le_of_ble_eq_true rfl) hR ft_X10_good_X7_hasGood ⟨rfl, rfl⟩ ?_
  rintro r μ1 ⟨rfl, ⟨rfl, g, hg, rfl⟩ | ⟨rfl, hn⟩⟩
  · have ei := idx_some (n := rGc (sR S)) (f := g) (by omega) hg
    have g5 : g < 5 := by omega
    refine z_if_ne iX10_good_8 (fun q => ?_) (fun q => ?_)
    · refine z_iload_2 iX10_good_13 ?_
      rcases q_cases y 3 (by decide) with ⟨k, hk, rfl, ej⟩ | ⟨ej, hy, -⟩
      · have hq : qGood S (nI g) (nI k) = vGood S g k := by unfold qGood; rw [ei, ej]
        rcases (show k = 0 ∨ k = 1 ∨ k = 2 by omega) with rfl | rfl | rfl
        · refine z_tableIn (off := 26) (tgt := 40) iX10_good_14 (by decide) (by decide) (by decide) (by decide) ?_
          refine z_aload_0 iX10_good_40 ?_
          refine m_getR iX10_good_41 g_10_44 rfl ?_
          refine m_getR iX10_good_44 g_10_103 rfl ?_
          refine m_getR iX10_good_47 g_10_155 rfl ?_
          refine z_iload_1 iX10_good_50 ?_
          refine m_ialdN iX10_good_51 rfl g5 ?_
          refine z_top (c4.1 g hg) ?_
          exact m_iret hE iX10_good_52 (QP.rf h hq.symm)
        · refine z_tableIn (off := 39) (tgt := 53) iX10_good_14 (by decide) (by decide) (by decide) (by decide) ?_
          refine z_aload_0 iX10_good_53 ?_
          refine m_getR iX10_good_54 g_10_29 rfl ?_
          refine m_getR iX10_good_57 g_10_158 rfl ?_
          refine z_iload_1 iX10_good_60 ?_
          refine m_ialdN iX10_good_61 rfl g5 ?_
          refine z_top ((c3.2.2.2 g hg).1) ?_
          exact m_iret hE iX10_good_62 (QP.rf h hq.symm)
        · refine z_tableIn (off := 49) (tgt := 63) iX10_good_14 (by decide) (by decide) (by decide) (by decide) ?_
          refine z_aload_0 iX10_good_63 ?_
          refine m_getR iX10_good_64 g_10_29 rfl ?_
          refine m_getR iX10_good_67 g_10_161 rfl ?_
          refine z_iload_1 iX10_good_70 ?_
          refine m_ialdN iX10_good_71 rfl g5 ?_
          refine z_top ((c3.2.2.2 g hg).2) ?_
          exact m_iret hE iX10_good_72 (QP.rf h hq.symm)
      · refine z_tableOut (tgt := 73) iX10_good_14 (by omega) (by decide) ?_
        refine z_bipush (x := -2) iX10_good_73 (by decide) ?_
        exact m_iret hE iX10_good_75 (QP.rf h (by unfold qGood; rw [ei, ej]))
    · exact absurd q nI10
  · refine z_if_ne iX10_good_8 (fun q => ?_) (fun q => ?_)
    · exact absurd nI00 q
    · refine z_iconst (x := -1) iX10_good_11 (by decide) ?_
      exact m_iret hE iX10_good_12 (QP.rf h (by unfold qGood; rw [idx_none hn]))
/-- FoilBazaar.refusalOfPair -/
theorem c_X10_refusalOfPair (G : qG) (l : Launch) {μ : Mem} {S : St} {m : Nat} (h : CAt μ S) (x y z : Int32) (hm : m < 1000) : CtrI G l M_X10_refusalOfPair [.ref (qB G + 0), .int x, .int y, .int z, .int (nI m)] μ (fun r μ' => μ' = μ ∧ ((r = -1 ∧ (idx x (rFc (sR S)) = none ∨ idx y (rFc (sR S)) = none)) ∨ ∃ i j, i < rFc (sR S) ∧ j < rFc (sR S) ∧ x = nI i ∧ y = nI j ∧ ((r = -2 ∧ (i = j ∨ idx z (m + 1) = none)) ∨ (r = -9 ∧ i ≠ j ∧ ∃ k, k < m + 1 ∧ z = nI k)))) := by
  refine m_enterI [some (.ref (qB G + 0)), some (.int x), some (.int y), some (.int z), some (.int (nI m))] (by decide +kernel) rfl (Nat.le_of_ble_eq_true rfl) (fun X hE hR => ?_)
  have hR : qR X = rm_X10_refusalOfPair := hR
  have hE : EI G X _ (some .int) := hE
  show Zm G X cX10_refusalOfPair RX10 _ 0 [some (.ref (qB G + 0)), some (.int x), some (.int y), some (.int z), some (.int (nI m))] []
  obtain ⟨c0, c1, c2, c3, c4, c5, c6, c7, c8, c9⟩ := id h
  have h6 := c0.2.2.1.1
  refine z_aload_0 iX10_refusalOfPair_0 ?_
  refine m_getR iX10_refusalOfPair_1 g_10_29 rfl ?_
  refine z_iload_1 iX10_refusalOfPair_4 ?_
  refine m_callVi iX10_refusalOfPair_5 l_10_119 f_X7_hasFencer (c_X7_hasFencer G _ rfl c3.1 (by omega) x) rfl rfl rfl (Nat.le_of_ble_eq_true rfl) hR ft_X10_refusalOfPair_X7_hasFencer ⟨rfl, rfl⟩ ?_
  rintro r μ1 ⟨rfl, ⟨rfl, i, hi, rfl⟩ | ⟨rfl, hn⟩⟩
  · refine z_if_eq iX10_refusalOfPair_8 (fun q => ?_) (fun q => ?_)
    · exact absurd q nI10
    · refine z_aload_0 iX10_refusalOfPair_11 ?_
      refine m_getR iX10_refusalOfPair_12 g_10_29 rfl ?_
      refine z_iload_2 iX10_refusalOfPair_15 ?_
      refine m_callVi iX10_refusalOfPair_16 l_10_119 f_X7_hasFencer (c_X7_hasFencer G _ rfl c3.1 (by omega) y) rfl rfl rfl (Nat.le_of_ble_eq_true rfl) hR ft_X10_refusalOfPair_X7_hasFencer ⟨rfl, rfl⟩ ?_
      rintro r μ2 ⟨rfl, ⟨rfl, j, hj, rfl⟩ | ⟨rfl, hn⟩⟩
      · refine z_if_ne iX10_refusalOfPair_19 (fun q => ?_) (fun q => ?_)
        · refine z_iload_1 iX10_refusalOfPair_24 ?_
          refine z_iload_2 iX10_refusalOfPair_25 ?_
          refine z_icmp_eqN iX10_refusalOfPair_26 (by omega) (by omega) (fun q1 => ?_) (fun q1 => ?_)
          · refine z_bipush (x := -2) iX10_refusalOfPair_39 (by decide) ?_
            refine z_goto iX10_refusalOfPair_41 ?_
            exact m_iret hE iX10_refusalOfPair_46 ⟨rfl, Or.inr ⟨i, j, hi, hj, rfl, rfl, Or.inl ⟨rfl, Or.inl q1⟩⟩⟩
          · refine z_iload_3 iX10_refusalOfPair_29 ?_
            refine z_if_lt iX10_refusalOfPair_30 (fun q2 => ?_) (fun q2 => ?_)
            · refine z_bipush (x := -2) iX10_refusalOfPair_39 (by decide) ?_
              refine z_goto iX10_refusalOfPair_41 ?_
              exact m_iret hE iX10_refusalOfPair_46 ⟨rfl, Or.inr ⟨i, j, hi, hj, rfl, rfl, Or.inl ⟨rfl, Or.inr (idx_neg q2)⟩⟩⟩
            · obtain ⟨k, hk, rfl⟩ := nI_of q2
              refine z_iload_3 iX10_refusalOfPair_33 ?_
              refine z_iload_4 iX10_refusalOfPair_34 ?_
              refine z_icmp_leN iX10_refusalOfPair_36 (by omega) (by omega) (fun q3 => ?_) (fun q3 => ?_)
              · refine z_bipush (x := -9) iX10_refusalOfPair_44 (by decide) ?_
                exact m_iret hE iX10_refusalOfPair_46 ⟨rfl, Or.inr ⟨i, j, hi, hj, rfl, rfl, Or.inr ⟨rfl, q1, k, by omega, rfl⟩⟩⟩
              · refine z_bipush (x := -2) iX10_refusalOfPair_39 (by decide) ?_
                refine z_goto iX10_refusalOfPair_41 ?_
                exact m_iret hE iX10_refusalOfPair_46 ⟨rfl, Or.inr ⟨i, j, hi, hj, rfl, rfl, Or.inl ⟨rfl, Or.inr (idx_big hk (by omega))⟩⟩⟩
        · exact absurd q nI10
      · refine z_if_ne iX10_refusalOfPair_19 (fun q => ?_) (fun q => ?_)
        · exact absurd nI00 q
        · refine z_iconst (x := -1) iX10_refusalOfPair_22 (by decide) ?_
          exact m_iret hE iX10_refusalOfPair_23 ⟨rfl, Or.inl ⟨rfl, Or.inr (idx_none hn)⟩⟩
  · refine z_if_eq iX10_refusalOfPair_8 (fun q => ?_) (fun q => ?_)
    · refine z_iconst (x := -1) iX10_refusalOfPair_22 (by decide) ?_
      exact m_iret hE iX10_refusalOfPair_23 ⟨rfl, Or.inl ⟨rfl, Or.inl (idx_none hn)⟩⟩
    · exact absurd nI00 q
/-- an answer about two fencers and a number -/
def qPair (S : St) (x y z : Int32) (n : Nat) (v : Nat → Nat → Nat → Int32) : Int32 := match idx x (rFc (sR S)), idx y (rFc (sR S)) with
  | some i, some j => if i = j then -2 else match idx z n with
    | none => -2
    | some k => v i j k
  | _, _ => -1
theorem qPair_no {S : St} {x y z : Int32} {n : Nat} {v : Nat → Nat → Nat → Int32} (h : idx x (rFc (sR S)) = none ∨ idx y (rFc (sR S)) = none) : qPair S x y z n v = -1 := by
  unfold qPair
  rcases h with h | h
  · rw [h]
  · rw [h]; cases idx x (rFc (sR S)) <;> rfl
theorem qPair_out {S : St} {i j : Nat} {z : Int32} {n : Nat} {v : Nat → Nat → Nat → Int32} (h6 : rFc (sR S) ≤ 6) (hi : i < rFc (sR S)) (hj : j < rFc (sR S)) (h : i = j ∨ idx z n = none) : qPair S (nI i) (nI j) z n v = -2 := by
  unfold qPair
  rw [idx_some (by omega) hi, idx_some (by omega) hj]
  rcases h with h | h
  · exact if_pos h
  · simp only [h]; split <;> rfl
theorem qPair_in {S : St} {i j k n : Nat} {v : Nat → Nat → Nat → Int32} (h6 : rFc (sR S) ≤ 6) (hi : i < rFc (sR S)) (hj : j < rFc (sR S)) (h : i ≠ j) (hk : k < n) (hn : n < 2 ^ 31) : qPair S (nI i) (nI j) (nI k) n v = v i j k := by
  unfold qPair
  rw [idx_some (by omega) hi, idx_some (by omega) hj, idx_some hn hk]
  exact if_neg h
def vBout (S : St) (i j k : Nat) : Int32 := if k = 0 then nI (bH1 (feOf (sR S) (sH S) i) (feOf (sR S) (sH S) j)) else if k = 1 then nI (bH2 (feOf (sR S) (sH S) i) (feOf (sR S) (sH S) j)) else nI (bLen (feOf (sR S) (sH S) i) (feOf (sR S) (sH S) j))
theorem scr_b : ∀ a, a ∈ [35, 36] → scr a ∧ a ≠ 125 := fun a h => by unfold scr; simp at h; omega
theorem c_X10_bout (G : qG) (l : Launch) {μ : Mem} {S : St} (h : CAt μ S) (x y z : Int32) : CtrI G l M_X10_bout [.ref (qB G + 0), .int x, .int y, .int z] μ (QP μ S (qPair S x y z 3 (vBout S))) := by
  refine m_enterI [some (.ref (qB G + 0)), some (.int x), some (.int y), some (.int z), none] (by decide +kernel) rfl (Nat.le_of_ble_eq_true rfl) (fun X hE hR => ?_)
  have hR : qR X = rm_X10_bout := hR
  have hE : EI G X _ (some .int) := hE
  show Zm G X cX10_bout RX10 _ 0 [some (.ref (qB G + 0)), some (.int x), some (.int y), some (.int z), none] []
  obtain ⟨c0, c1, c2, c3, c4, c5, c6, c7, c8, c9⟩ := id h
  have h6 := c0.2.2.1.1
  refine z_aload_0 iX10_bout_0 ?_
  refine z_iload_1 iX10_bout_1 ?_
  refine z_iload_2 iX10_bout_2 ?_
  refine z_iload_3 iX10_bout_3 ?_
  refine z_iconst iX10_bout_4 kI_2 ?_
  refine m_callVi iX10_bout_5 l_10_164 f_X10_refusalOfPair (c_X10_refusalOfPair G _ h x y z (by decide)) rfl rfl rfl (Nat.le_of_ble_eq_true rfl) hR ft_X10_bout_X10_refusalOfPair ⟨rfl, rfl⟩ ?_
  rintro r μ1 ⟨rfl, ⟨rfl, hn⟩ | ⟨i, j, hi, hj, rfl, rfl, ⟨rfl, ho⟩ | ⟨rfl, hij, k, hk, rfl⟩⟩⟩
  · refine z_istore_4 iX10_bout_8 rfl ?_
    refine z_iload_4 iX10_bout_10 ?_
    refine z_bipush (x := -9) iX10_bout_12 (by decide) ?_
    refine z_icmp_eq iX10_bout_14 (fun q => ?_) (fun q => ?_)
    · exact absurd q (by decide)
    · refine z_iload_4 iX10_bout_17 ?_
      exact m_iret hE iX10_bout_19 (QP.rf h (qPair_no hn).symm)
  · refine z_istore_4 iX10_bout_8 rfl ?_
    refine z_iload_4 iX10_bout_10 ?_
    refine z_bipush (x := -9) iX10_bout_12 (by decide) ?_
    refine z_icmp_eq iX10_bout_14 (fun q => ?_) (fun q => ?_)
    · exact absurd q (by decide)
    · refine z_iload_4 iX10_bout_17 ?_
      exact m_iret hE iX10_bout_19 (QP.rf h (qPair_out h6 hi hj ho).symm)
  · have e := qPair_in (v := vBout S) h6 hi hj hij hk (by decide)
    refine z_istore_4 iX10_bout_8 rfl ?_
    refine z_iload_4 iX10_bout_10 ?_
    refine z_bipush (x := -9) iX10_bout_12 (by decide) ?_
    refine z_icmp_eq iX10_bout_14 (fun q => ?_) (fun q => ?_)
    · refine z_aload_0 iX10_bout_20 ?_
      refine m_getR iX10_bout_21 g_10_44 rfl ?_
      refine z_iload_1 iX10_bout_24 ?_
      refine z_iload_2 iX10_bout_25 ?_
      refine m_callVv iX10_bout_26 l_10_168 f_X8_fightNow (c_X8_fightNow G _ isSal_37 c0.2.2.1 c0.2.2.2.1 c3 c4 hi hj) rfl rfl rfl (Nat.le_of_ble_eq_true rfl) hR ft_X10_bout_X8_fightNow ⟨rfl, rfl⟩ ?_
      rintro μ2 ⟨hF, hB⟩
      refine z_iload_3 iX10_bout_29 ?_
      rcases (show k = 0 ∨ k = 1 ∨ k = 2 by omega) with rfl | rfl | rfl
      · refine z_lookup (off := 26) (tgt := 56) iX10_bout_30 (by decide) (by decide) (by decide) ?_
        refine z_aload_0 iX10_bout_56 ?_
        refine m_getR iX10_bout_57 g_10_35 rfl ?_
        refine m_getI iX10_bout_60 g_10_172 rfl ?_
        refine z_top (hB.1) ?_
        exact m_iret hE iX10_bout_63 (QP.of h hF scr_b (by rw [e]; rfl))
      · refine z_lookup (off := 34) (tgt := 64) iX10_bout_30 (by decide) (by decide) (by decide) ?_
        refine z_aload_0 iX10_bout_64 ?_
        refine m_getR iX10_bout_65 g_10_35 rfl ?_
        refine m_getI iX10_bout_68 g_10_175 rfl ?_
        refine z_top (hB.2.1) ?_
        exact m_iret hE iX10_bout_71 (QP.of h hF scr_b (by rw [e]; rfl))
      · refine z_lookup (off := 42) (tgt := 72) iX10_bout_30 (by decide) (by decide) (by decide) ?_
        refine z_aload_0 iX10_bout_72 ?_
        refine m_getR iX10_bout_73 g_10_35 rfl ?_
        refine m_getI iX10_bout_76 g_10_178 rfl ?_
        refine z_top (hB.2.2.1) ?_
        exact m_iret hE iX10_bout_79 (QP.of h hF scr_b (by rw [e]; rfl))
    · exact absurd rfl q
def qCost (S : St) (x y : Int32) : Int32 := match idx x (rFc (sR S)), idx y (rGc (sR S)) with
  | some f, some g => if hOw (sH S) g = f then -3 else nI (costH (sR S) (sH S) f (hOw (sH S) g) g)
  | _, _ => -1
theorem c_X10_cost (G : qG) (l : Launch) {μ : Mem} {S : St} (h : CAt μ S) (x y : Int32) : CtrI G l M_X10_cost [.ref (qB G + 0), .int x, .int y] μ (QP μ S (qCost S x y)) := by
  refine m_enterI [some (.ref (qB G + 0)), some (.int x), some (.int y), none] (by decide +kernel) rfl (Nat.le_of_ble_eq_true rfl) (fun X hE hR => ?_)
  have hR : qR X = rm_X10_cost := hR
  have hE : EI G X _ (some .int) := hE
  show Zm G X cX10_cost RX10 _ 0 [some (.ref (qB G + 0)), some (.int x), some (.int y), none] []
  obtain ⟨c0, c1, c2, c3, c4, c5, c6, c7, c8, c9⟩ := id h
  have h6 := c0.2.2.1.1
  have h5 := c0.2.2.1.2.1
  refine z_aload_0 iX10_cost_0 ?_
  refine z_iload_1 iX10_cost_1 ?_
  refine z_iload_2 iX10_cost_2 ?_
  refine m_callVi iX10_cost_3 l_10_181 f_X10_refusalOfTrade (c_X10_refusalOfTrade G _ h x y) rfl rfl rfl (Nat.le_of_ble_eq_true rfl) hR ft_X10_cost_X10_refusalOfTrade ⟨rfl, rfl⟩ ?_
  rintro r μ1 ⟨rfl, ⟨rfl, hn⟩ | ⟨f, g, hf, hg, rfl, rfl, ⟨rfl, ho⟩ | ⟨rfl, ho⟩⟩⟩
  · have e : qCost S x y = -1 := by
      unfold qCost
      rcases hn with hn | hn
      · rw [hn]
      · rw [hn]; cases idx x (rFc (sR S)) <;> rfl
    refine z_istore_3 iX10_cost_6 rfl ?_
    refine z_iload_3 iX10_cost_7 ?_
    refine z_bipush (x := -9) iX10_cost_8 (by decide) ?_
    refine z_icmp_eq iX10_cost_10 (fun q => ?_) (fun q => ?_)
    · exact absurd q (by decide)
    · refine z_iload_3 iX10_cost_13 ?_
      refine z_goto iX10_cost_14 ?_
      exact m_iret hE iX10_cost_26 (QP.rf h e.symm)
  · have e : qCost S (nI f) (nI g) = -3 := by unfold qCost; rw [idx_some (by omega) hf, idx_some (by omega) hg]; exact if_pos ho
    refine z_istore_3 iX10_cost_6 rfl ?_
    refine z_iload_3 iX10_cost_7 ?_
    refine z_bipush (x := -9) iX10_cost_8 (by decide) ?_
    refine z_icmp_eq iX10_cost_10 (fun q => ?_) (fun q => ?_)
    · exact absurd q (by decide)
    · refine z_iload_3 iX10_cost_13 ?_
      refine z_goto iX10_cost_14 ?_
      exact m_iret hE iX10_cost_26 (QP.rf h e.symm)
  · have e : qCost S (nI f) (nI g) = nI (costH (sR S) (sH S) f (hOw (sH S) g) g) := by unfold qCost; rw [idx_some (by omega) hf, idx_some (by omega) hg]; exact if_neg ho
    refine z_istore_3 iX10_cost_6 rfl ?_
    refine z_iload_3 iX10_cost_7 ?_
    refine z_bipush (x := -9) iX10_cost_8 (by decide) ?_
    refine z_icmp_eq iX10_cost_10 (fun q => ?_) (fun q => ?_)
    · refine z_aload_0 iX10_cost_17 ?_
      refine m_getR iX10_cost_18 g_10_44 rfl ?_
      refine z_iload_1 iX10_cost_21 ?_
      refine z_iload_2 iX10_cost_22 ?_
      refine m_callVi iX10_cost_23 l_10_185 f_X8_costFor (c_X8_costFor G _ isSal_37 c0.2.2.1 c0.2.2.2.1 c3 c4 hf hg) rfl rfl rfl (Nat.le_of_ble_eq_true rfl) hR ft_X10_cost_X8_costFor ⟨rfl, rfl⟩ ?_
      rintro r μ2 ⟨hF, rfl⟩
      exact m_iret hE iX10_cost_26 (QP.of h hF scr_b e.symm)
    · exact absurd rfl q
/-- FoilBazaar.sumOf, of purses or feet -/
theorem c_X10_sumOf (G : qG) (l : Launch) {μ : Mem} {a : Nat} {v : Nat → Nat} (ha : layA a = some (0, 6, 0, 0)) (hv : ∀ k, k < 6 → μ.1 a k = nI (v k)) : CtrI G l M_X10_sumOf [.ref (qB G + a)] μ (fun r μ' => μ' = μ ∧ r = nI (sumN v 6)) := by
  refine m_enterI [some (.ref (qB G + a)), none, none] (by decide +kernel) rfl (Nat.le_of_ble_eq_true rfl) (fun X hE hR => ?_)
  have hR : qR X = rm_X10_sumOf := hR
  have hE : EI G X _ (some .int) := hE
  show Zm G X cX10_sumOf RX10 _ 0 [some (.ref (qB G + a)), none, none] []
  have loop : ∀ (n k : Nat), n + k = 6 → Zm G X cX10_sumOf RX10 μ 4 [some (.ref (qB G + a)), some (.int (nI (sumN v k))), some (.int (nI k))] [] := by
    intro n
    induction n with
    | zero =>
      intro k hn
      refine z_iload_2 iX10_sumOf_4 ?_
      refine z_aload_0 iX10_sumOf_5 ?_
      refine m_alen (k := 0) iX10_sumOf_6 ha ?_
      refine z_icmp_geN iX10_sumOf_7 (by omega) (by omega) (fun q => ?_) (fun q => ?_)
      · refine z_iload_1 iX10_sumOf_22 ?_
        exact m_iret hE iX10_sumOf_23 ⟨rfl, by rw [show k = 6 by omega]⟩
      · omega
    | succ n ih =>
      intro k hn
      refine z_iload_2 iX10_sumOf_4 ?_
      refine z_aload_0 iX10_sumOf_5 ?_
      refine m_alen (k := 0) iX10_sumOf_6 ha ?_
      refine z_icmp_geN iX10_sumOf_7 (by omega) (by omega) (fun q => ?_) (fun q => ?_)
      · omega
      · refine z_iload_1 iX10_sumOf_10 ?_
        refine z_aload_0 iX10_sumOf_11 ?_
        refine z_iload_2 iX10_sumOf_12 ?_
        refine m_ialdN iX10_sumOf_13 ha (by omega) ?_
        refine z_top (hv k (by omega)) ?_
        refine z_iaddN iX10_sumOf_14 ?_
        refine z_istore_1 iX10_sumOf_15 rfl ?_
        refine z_iinc_2N iX10_sumOf_16 rfl ?_
        refine z_goto iX10_sumOf_19 ?_
        exact ih (k + 1) (by omega)
  refine z_iconst iX10_sumOf_0 kI_0 ?_
  refine z_istore_1 iX10_sumOf_1 rfl ?_
  refine z_iconst iX10_sumOf_2 kI_0 ?_
  refine z_istore_2 iX10_sumOf_3 rfl ?_
  exact loop 6 0 (by omega)
def vCount (S : St) (k : Nat) : Int32 := match k with
  | 0 => nI (sLn S)
  | 1 => nI (rFc (sR S))
  | 2 => nI (rGc (sR S))
  | 3 => nI (hDy (sH S))
  | 4 => nI (sumN (hPu (sH S)) 6)
  | 5 => nI (sumN (hFe (sH S)) 6)
  | 6 => nI (bset (fun g => decide (hOw (sH S) g ≠ rTl (sR S) g)) (rGc (sR S)))
  | 7 => orF (fun f => nI (btS (sR S) (sH S) f)) (rFc (sR S))
  | 8 => nI (sN S)
  | _ => nI (sNs S)
def qCount (S : St) (x : Int32) : Int32 := match idx x 10 with
  | none => -2
  | some k => vCount S k
theorem c_X10_count (G : qG) (l : Launch) {μ : Mem} {S : St} (h : CAt μ S) (x : Int32) : CtrI G l M_X10_count [.ref (qB G + 0), .int x] μ (QP μ S (qCount S x)) := by
  refine m_enterI [some (.ref (qB G + 0)), some (.int x)] (by decide +kernel) rfl (Nat.le_of_ble_eq_true rfl) (fun X hE hR => ?_)
  have hR : qR X = rm_X10_count := hR
  have hE : EI G X _ (some .int) := hE
  show Zm G X cX10_count RX10 _ 0 [some (.ref (qB G + 0)), some (.int x)] []
  obtain ⟨c0, c1, c2, c3, c4, c5, c6, c7, c8, c9⟩ := id h
  refine z_iload_1 iX10_count_0 ?_
  rcases q_cases x 10 (by decide) with ⟨k, hk, rfl, ej⟩ | ⟨ej, hy, -⟩
  · have e : qCount S (nI k) = vCount S k := by unfold qCount; rw [ej]
    rcases (show k = 0 ∨ k = 1 ∨ k = 2 ∨ k = 3 ∨ k = 4 ∨ k = 5 ∨ k = 6 ∨ k = 7 ∨ k = 8 ∨ k = 9 by omega) with rfl | rfl | rfl | rfl | rfl | rfl | rfl | rfl | rfl | rfl
    · refine z_tableIn (off := 55) (tgt := 56) iX10_count_1 (by decide) (by decide) (by decide) (by decide) ?_
      refine z_aload_0 iX10_count_56 ?_
      refine m_getI iX10_count_57 g_10_92 rfl ?_
      refine z_top (c1) ?_
      exact m_iret hE iX10_count_60 (QP.rf h e.symm)
    · refine z_tableIn (off := 60) (tgt := 61) iX10_count_1 (by decide) (by decide) (by decide) (by decide) ?_
      refine z_aload_0 iX10_count_61 ?_
      refine m_getR iX10_count_62 g_10_29 rfl ?_
      refine m_getI iX10_count_65 g_10_113 rfl ?_
      refine z_top (c3.1) ?_
      exact m_iret hE iX10_count_68 (QP.rf h e.symm)
    · refine z_tableIn (off := 68) (tgt := 69) iX10_count_1 (by decide) (by decide) (by decide) (by decide) ?_
      refine z_aload_0 iX10_count_69 ?_
      refine m_getR iX10_count_70 g_10_29 rfl ?_
      refine m_getI iX10_count_73 g_10_116 rfl ?_
      refine z_top (c3.2.1) ?_
      exact m_iret hE iX10_count_76 (QP.rf h e.symm)
    · refine z_tableIn (off := 76) (tgt := 77) iX10_count_1 (by decide) (by decide) (by decide) (by decide) ?_
      refine z_aload_0 iX10_count_77 ?_
      refine m_getR iX10_count_78 g_10_44 rfl ?_
      refine m_getR iX10_count_81 g_10_103 rfl ?_
      refine m_getI iX10_count_84 g_10_292 rfl ?_
      refine z_top (c4.2.2.2) ?_
      exact m_iret hE iX10_count_87 (QP.rf h e.symm)
    · refine z_tableIn (off := 87) (tgt := 88) iX10_count_1 (by decide) (by decide) (by decide) (by decide) ?_
      refine z_aload_0 iX10_count_88 ?_
      refine m_getR iX10_count_89 g_10_44 rfl ?_
      refine m_getR iX10_count_92 g_10_103 rfl ?_
      refine m_getR iX10_count_95 g_10_136 rfl ?_
      refine m_callSi iX10_count_98 l_10_295 f_X10_sumOf (c_X10_sumOf (a := 40) G _ rfl c4.2.1) rfl rfl (Nat.le_of_ble_eq_true rfl) hR ft_X10_count_X10_sumOf ⟨rfl, rfl⟩ ?_
      rintro r μ2 ⟨rfl, rfl⟩
      exact m_iret hE iX10_count_101 (QP.rf h e.symm)
    · refine z_tableIn (off := 101) (tgt := 102) iX10_count_1 (by decide) (by decide) (by decide) (by decide) ?_
      refine z_aload_0 iX10_count_102 ?_
      refine m_getR iX10_count_103 g_10_44 rfl ?_
      refine m_getR iX10_count_106 g_10_103 rfl ?_
      refine m_getR iX10_count_109 g_10_139 rfl ?_
      refine m_callSi iX10_count_112 l_10_295 f_X10_sumOf (c_X10_sumOf (a := 41) G _ rfl c4.2.2.1) rfl rfl (Nat.le_of_ble_eq_true rfl) hR ft_X10_count_X10_sumOf ⟨rfl, rfl⟩ ?_
      rintro r μ2 ⟨rfl, rfl⟩
      exact m_iret hE iX10_count_115 (QP.rf h e.symm)
    · refine z_tableIn (off := 115) (tgt := 116) iX10_count_1 (by decide) (by decide) (by decide) (by decide) ?_
      refine z_aload_0 iX10_count_116 ?_
      refine m_getR iX10_count_117 g_10_44 rfl ?_
      refine m_callVi iX10_count_120 l_10_284 f_X8_goodsAbroad (c_X8_goodsAbroad G _ isSal_37 c0.2.2.1 c0.2.2.2.1 c3 c4) rfl rfl rfl (Nat.le_of_ble_eq_true rfl) hR ft_X10_count_X8_goodsAbroad ⟨rfl, rfl⟩ ?_
      rintro r μ2 ⟨rfl, rfl⟩
      exact m_iret hE iX10_count_123 (QP.rf h e.symm)
    · refine z_tableIn (off := 123) (tgt := 124) iX10_count_1 (by decide) (by decide) (by decide) (by decide) ?_
      refine z_aload_0 iX10_count_124 ?_
      refine m_getR iX10_count_125 g_10_44 rfl ?_
      refine m_callVv iX10_count_128 l_10_146 f_X8_compareAll (c_X8_compareAll G _ isSal_37 c0.2.2.1 c0.2.2.2.1 c3 c4) rfl rfl rfl (Nat.le_of_ble_eq_true rfl) hR ft_X10_count_X8_compareAll ⟨rfl, rfl⟩ ?_
      rintro μ2 ⟨hF2, hL⟩
      refine z_aload_0 iX10_count_131 ?_
      refine m_getR iX10_count_132 g_10_44 rfl ?_
      refine m_callVi iX10_count_135 l_10_299 f_X8_beatenByAnybody (c_X8_beatenByAnybody G _ isSal_37 c0.2.2.1 (c3.fr c0.2.2.1 hF2 (by decide)) hL) rfl rfl rfl (Nat.le_of_ble_eq_true rfl) hR ft_X10_count_X8_beatenByAnybody ⟨rfl, rfl⟩ ?_
      rintro r μ3 ⟨rfl, rfl⟩
      exact m_iret hE iX10_count_138 (QP.of h hF2 scr_cS e.symm)
    · refine z_tableIn (off := 138) (tgt := 139) iX10_count_1 (by decide) (by decide) (by decide) (by decide) ?_
      refine z_aload_0 iX10_count_139 ?_
      refine m_getR iX10_count_140 g_10_54 rfl ?_
      refine m_getI iX10_count_143 g_10_202 rfl ?_
      refine z_top (c5.2.1) ?_
      exact m_iret hE iX10_count_146 (QP.rf h e.symm)
    · refine z_tableIn (off := 146) (tgt := 147) iX10_count_1 (by decide) (by decide) (by decide) (by decide) ?_
      refine z_aload_0 iX10_count_147 ?_
      refine m_getR iX10_count_148 g_10_77 rfl ?_
      refine m_getI iX10_count_151 g_10_238 rfl ?_
      refine z_top (c7.2.1) ?_
      exact m_iret hE iX10_count_154 (QP.rf h e.symm)
  · refine z_tableOut (tgt := 155) iX10_count_1 (by omega) (by decide) ?_
    refine z_bipush (x := -2) iX10_count_155 (by decide) ?_
    exact m_iret hE iX10_count_157 (QP.rf h (by unfold qCount; rw [ej]))

/-! THE REFERENCE READS a part, a text; a bazaar -/
theorem RS.mw {μ : Mem} {q : Option Nat × Nat} (h : RS μ q) {a k : Nat} {x : Int32} (ha : a ≠ 140 ∨ (k ≠ 13 ∧ k ≠ 14)) : RS (mw μ a k x) q := by
  obtain ⟨h1, h2, h3⟩ := h
  refine ⟨?_, ?_, h3⟩
  · rw [mw_ne _ _ (by rcases ha with z | z; (· exact Or.inl z.symm); (· exact Or.inr z.2.symm))]; exact h1
  · rw [mw_ne _ _ (by rcases ha with z | z; (· exact Or.inl z.symm); (· exact Or.inr z.1.symm))]; exact h2
def nx3 (m : Nat) (R : Rl) (v : Nat) : Rd := if m + 1 = 3 then (1, 3, incF (setMv R m v)) else (3, m + 1, setMv R m v)
theorem rd3 (m : Nat) (R : Rl) (c : Nat) : rdStep (3, m, R) c = if mvOf c ≠ 0 then some (nx3 m R (mvOf c)) else none := by
  unfold rdStep nx3
  simp only [show ¬ (3 : Nat) = 0 by decide, show ¬ (3 : Nat) = 1 by decide, show ¬ (3 : Nat) = 2 by decide, if_false, if_true]
  split
  · split <;> rfl
  · rfl
theorem rd2 (m : Nat) (R : Rl) (c : Nat) : rdStep (2, m, R) c = if 48 ≤ c ∧ c ≤ 48 + 3 then some (3, 0, setKd R (c - 48)) else none := by
  unfold rdStep
  simp only [show ¬ (2 : Nat) = 0 by decide, show ¬ (2 : Nat) = 1 by decide, if_false, if_true]
  by_cases z : 48 ≤ c ∧ c ≤ 48 + 3
  · rw [if_pos z, if_pos ⟨z.1, by omega⟩]
  · rw [if_neg z, if_neg (by omega)]
theorem rd4 (m : Nat) (R : Rl) (c : Nat) (h : 0 < rFc R) : rdStep (4, m, R) c = if 48 ≤ c ∧ c ≤ 48 + (rFc R - 1) then some (5, m, setTl R (c - 48)) else none := by
  unfold rdStep
  simp only [show ¬ (4 : Nat) = 0 by decide, show ¬ (4 : Nat) = 1 by decide, show ¬ (4 : Nat) = 2 by decide, show ¬ (4 : Nat) = 3 by decide, if_false, if_true]
  by_cases z : 48 ≤ c ∧ c ≤ 48 + (rFc R - 1)
  · rw [if_pos z, if_pos ⟨z.1, by omega⟩]
  · rw [if_neg z, if_neg (by omega)]
theorem rd5 (m : Nat) (R : Rl) (c : Nat) : rdStep (5, m, R) c = if 48 ≤ c ∧ c ≤ 48 + 9 then some (1, m, setPr R (c - 48)) else none := by
  unfold rdStep
  simp only [show ¬ (5 : Nat) = 0 by decide, show ¬ (5 : Nat) = 1 by decide, show ¬ (5 : Nat) = 2 by decide, show ¬ (5 : Nat) = 3 by decide, show ¬ (5 : Nat) = 4 by decide, if_false]
  by_cases z : 48 ≤ c ∧ c ≤ 48 + 9
  · rw [if_pos z, if_pos ⟨z.1, by omega⟩]
  · rw [if_neg z, if_neg (by omega)]
theorem rd1 (m : Nat) (R : Rl) (c : Nat) : rdStep (1, m, R) c = if c = 70 ∧ rFc R < 6 then some (2, m, R) else if c = 71 ∧ rGc R < 5 ∧ 0 < rFc R then some (4, m, R) else none := by
  unfold rdStep
  simp only [show ¬ (1 : Nat) = 0 by decide, if_false, if_true]
theorem Tr.go {tx : Nat → Nat} {ln i : Nat} {s s' : Rd} (h : Tr tx ln s (none, i)) (hi : i < ln) (e : rdStep s (tx i) = some s') : Tr tx ln s' (none, i + 1) := by
  obtain ⟨t1, t2, t3⟩ := h
  exact ⟨(rd_go hi e).symm.trans t1, rdStep_ok t2 e, hi⟩
def rdP (tx : Nat → Nat) (ln i : Nat) (μ μ' : Mem) : Prop := Fm [146, 147] [9, 10, 13, 14] μ μ' ∧ ∃ (m : Nat) (R : Rl) (q : Option Nat × Nat), (q.1 = none → i < q.2) ∧ Tr tx ln (1, m, R) q ∧ RS μ' q ∧ MRd μ' R
theorem c_X11_readPart (G : qG) (l : Launch) {μ : Mem} {tx : Nat → Nat} {ln m i : Nat} {R : Rl} (hT : MText μ ln tx) (hln : ln ≤ 52) (htx : ∀ i, i < ln → tx i < 256) (hi : i < ln) (hTr : Tr tx ln (1, m, R) (none, i)) (hq : RS μ (none, i)) (hM : MRd μ R) : CtrV G l M_X11_readPart [.ref (qB G + 140), .int (nI (tx i))] μ (rdP tx ln i μ) := by
  refine m_enterV [some (.ref (qB G + 140)), some (.int (nI (tx i))), none] (by decide +kernel) rfl (Nat.le_of_ble_eq_true rfl) rfl (fun X hE hR => ?_)
  have hR : qR X = rm_X11_readPart := hR
  show Zm G X cX11_readPart RX11 _ 0 [some (.ref (qB G + 140)), some (.int (nI (tx i))), none] []
  have hc := htx i hi
  have hO : RlOK R := hTr.2.1.2.1
  have h6 := hO.1
  have h5 := hO.2.1
  have e1 := rd1 m R (tx i)
  have bad : ¬ (tx i = 70 ∧ rFc R < 6) → ¬ (tx i = 71 ∧ rGc R < 5 ∧ 0 < rFc R) → Zm G X cX11_readPart RX11 μ 168 [some (.ref (qB G + 140)), some (.int (nI (tx i))), none] [] := by
    intro z1 z2
    rw [if_neg z1, if_neg z2] at e1
    refine z_aload_0 iX11_readPart_168 ?_
    refine z_aload_0 iX11_readPart_169 ?_
    refine m_getI iX11_readPart_170 g_11_72 rfl ?_
    refine z_top (hq.2.1) ?_
    refine m_putI iX11_readPart_173 p_11_69 rfl ?_
    refine m_vret hE iX11_readPart_176 ⟨Fm.rf.put _ _ (by decide), m, R, (some i, i), (fun z => by cases z), ?_, ⟨mw_same _ _ _ _, by rw [mw_ne _ _ (Or.inr (by decide))]; exact hq.2.1, hq.2.2.1, fun j hj => by cases hj; exact hq.2.2.1⟩, hM.fm (Fm.rf.put (L := []) (K := [14]) _ _ (by decide)) (by decide) (by decide) (by decide) (by decide)⟩
    show (rdRun tx ln 0 rd0).1 = some i
    rw [← hTr.1]
    exact rd_fail (Or.inr ⟨hi, e1⟩)
  have good : ¬ (tx i = 70 ∧ rFc R < 6) → Zm G X cX11_readPart RX11 μ 84 [some (.ref (qB G + 140)), some (.int (nI (tx i))), none] [] := by
    intro z1
    refine z_iload_1 iX11_readPart_84 ?_
    refine z_bipush iX11_readPart_85 kB_71 ?_
    refine z_icmp_neN iX11_readPart_87 (by omega) (by omega) (fun w1 => ?_) (fun w1 => ?_)
    · exact bad z1 (fun z => w1 z.1)
    · refine z_aload_0 iX11_readPart_90 ?_
      refine m_getI iX11_readPart_91 g_11_82 rfl ?_
      refine z_top (hM.2.1) ?_
      refine z_iconst iX11_readPart_94 kI_5 ?_
      refine z_icmp_geN iX11_readPart_95 (by omega) (by omega) (fun w2 => ?_) (fun w2 => ?_)
      · exact bad z1 (fun z => by omega)
      · refine z_aload_0 iX11_readPart_98 ?_
        refine m_getI iX11_readPart_99 g_11_79 rfl ?_
        refine z_top (hM.1) ?_
        refine z_if_leN iX11_readPart_102 (by omega) (fun w3 => ?_) (fun w3 => ?_)
        · exact bad z1 (fun z => by omega)
        · rw [if_neg z1, if_pos ⟨w1, w2, w3⟩] at e1
          have t1 := hTr.go hi e1
          refine z_aload_0 iX11_readPart_105 ?_
          refine z_dup iX11_readPart_106 rfl ?_
          refine m_getI iX11_readPart_107 g_11_72 rfl ?_
          refine z_top (hq.2.1) ?_
          refine z_iconst iX11_readPart_110 kI_1 ?_
          refine z_iaddN iX11_readPart_111 ?_
          refine m_putI iX11_readPart_112 p_11_72 rfl ?_
          have hF1 : Fm [146, 147] [9, 10, 13, 14] μ (mw μ 140 13 (nI (i + 1))) := Fm.rf.put _ _ (by decide)
          have hM1 : MRd (mw μ 140 13 (nI (i + 1))) R := hM.fm (Fm.rf.put (L := []) (K := [13]) _ _ (by decide)) (by decide) (by decide) (by decide) (by decide)
          have hq1 : RS (mw μ 140 13 (nI (i + 1))) (none, i + 1) := ⟨by rw [mw_ne _ _ (Or.inr (by decide))]; exact hq.1, mw_same _ _ _ _, by show i + 1 < 100; omega, fun j hj => by cases hj⟩
          generalize mw μ 140 13 (nI (i + 1)) = μ1 at hF1 hM1 hq1
          refine z_aload_0 iX11_readPart_115 ?_
          refine m_getR iX11_readPart_116 g_11_28 rfl ?_
          refine z_iconst iX11_readPart_119 kI_2 ?_
          refine z_aload_0 iX11_readPart_120 ?_
          refine m_getI iX11_readPart_121 g_11_82 rfl ?_
          refine z_top (hM1.2.1) ?_
          refine z_imulN iX11_readPart_124 ?_
          refine z_aload_0 iX11_readPart_125 ?_
          refine z_aload_0 iX11_readPart_126 ?_
          refine m_getI iX11_readPart_127 g_11_79 rfl ?_
          refine z_top (hM1.1) ?_
          refine z_iconst iX11_readPart_130 kI_1 ?_
          refine z_isubN iX11_readPart_131 (by omega) ?_
          refine m_callVi iX11_readPart_132 l_11_89 f_X11_figureOf (c_X11_figureOf (tx := tx) (ln := ln) (most := rFc R - 1) G _ (hT.fm hF1 (by decide) (by decide)) hln htx (by omega) hq1) rfl rfl rfl (Nat.le_of_ble_eq_true rfl) hR ft_X11_readPart_X11_figureOf ⟨rfl, rfl⟩ ?_
          rintro r μ2 ⟨hF2, hq2, rfl⟩
          have t2 := t1.fig (most := rFc R - 1) (f := fun v => (5, m, setTl R v)) (show (4 : Nat) ≠ 1 by decide) (fun c hO2 => rd4 m R c w3)
          have g2 := fgS_ge tx ln (rFc R - 1) (none, i + 1)
          generalize fgS tx ln (rFc R - 1) (none, i + 1) = p2 at hq2 t2 g2
          have hM2 : MRd μ2 R := hM1.fm hF2 (by decide) (by decide) (by decide) (by decide)
          refine m_iastN iX11_readPart_135 rfl (by omega) ?_
          have hM3 := hM2.tl (o := p2.2)
          have hF3 : Fm [146, 147] [9, 10, 13, 14] μ (mw μ2 147 (2 * rGc R) (nI p2.2)) := (hF1.trans (hF2.mono (by decide) (by decide))).mw _ _ (by decide) (by decide)
          have hq3 : RS (mw μ2 147 (2 * rGc R) (nI p2.2)) p2.1 := hq2.mw (Or.inl (by decide))
          generalize mw μ2 147 (2 * rGc R) (nI p2.2) = μ3 at hF3 hM3 hq3
          refine z_aload_0 iX11_readPart_136 ?_
          refine m_getR iX11_readPart_137 g_11_28 rfl ?_
          refine z_iconst iX11_readPart_140 kI_2 ?_
          refine z_aload_0 iX11_readPart_141 ?_
          refine m_getI iX11_readPart_142 g_11_82 rfl ?_
          refine z_top (show _ = nI (rGc R) from hM3.1.2.1) ?_
          refine z_imulN iX11_readPart_145 ?_
          refine z_iconst iX11_readPart_146 kI_1 ?_
          refine z_iaddN iX11_readPart_147 ?_
          refine z_aload_0 iX11_readPart_148 ?_
          refine z_bipush iX11_readPart_149 kB_9 ?_
          refine m_callVi iX11_readPart_151 l_11_89 f_X11_figureOf (c_X11_figureOf (tx := tx) (ln := ln) (most := 9) G _ (hT.fm hF3 (by decide) (by decide)) hln htx (by omega) hq3) rfl rfl rfl (Nat.le_of_ble_eq_true rfl) hR ft_X11_readPart_X11_figureOf ⟨rfl, rfl⟩ ?_
          rintro r μ4 ⟨hF4, hq4, rfl⟩
          have t4 := t2.fig (most := 9) (f := fun v => (1, m, setPr (setTl R p2.2) v)) (show (5 : Nat) ≠ 1 by decide) (fun c hO2 => rd5 m _ c)
          have g4 := fgS_ge tx ln 9 p2.1
          generalize fgS tx ln 9 p2.1 = p4 at hq4 t4 g4
          have hM4 : MRd μ4 (setTl R p2.2) := hM3.1.fm hF4 (by decide) (by decide) (by decide) (by decide)
          have ht4 : μ4.1 147 (2 * rGc R) = nI (rTl (setTl R p2.2) (rGc R)) := by rw [hF4.1 147 (by decide) (by decide)]; exact hM3.2
          have hg4 : (mw μ4 147 (2 * rGc R + 1) (nI p4.2)).1 140 10 = nI (rGc R) := by rw [mw_ne _ _ (Or.inl (by decide))]; exact hM4.2.1
          refine m_iastN iX11_readPart_154 rfl (by omega) ?_
          refine z_aload_0 iX11_readPart_155 ?_
          refine z_dup iX11_readPart_156 rfl ?_
          refine m_getI iX11_readPart_157 g_11_82 rfl ?_
          refine z_top (hg4) ?_
          refine z_iconst iX11_readPart_160 kI_1 ?_
          refine z_iaddN iX11_readPart_161 ?_
          refine m_putI iX11_readPart_162 p_11_82 rfl ?_
          refine z_goto iX11_readPart_165 ?_
          refine m_vret hE iX11_readPart_176 ⟨((hF3.trans (hF4.mono (by decide) (by decide))).mw _ _ (by decide) (by decide)).put _ _ (by decide), m, setPr (setTl R p2.2) p4.2, p4.1, (fun _ => by omega), t4, (hq4.mw (Or.inl (by decide))).mw (Or.inr (by decide)), hM4.pr ht4⟩
  refine z_iload_1 iX11_readPart_0 ?_
  refine z_bipush iX11_readPart_1 kB_70 ?_
  refine z_icmp_neN iX11_readPart_3 (by omega) (by omega) (fun w1 => ?_) (fun w1 => ?_)
  · exact good (fun z => w1 z.1)
  · refine z_aload_0 iX11_readPart_6 ?_
    refine m_getI iX11_readPart_7 g_11_79 rfl ?_
    refine z_top (hM.1) ?_
    refine z_bipush iX11_readPart_10 kB_6 ?_
    refine z_icmp_geN iX11_readPart_12 (by omega) (by omega) (fun w2 => ?_) (fun w2 => ?_)
    · exact good (fun z => by omega)
    · rw [if_pos ⟨w1, w2⟩] at e1
      have t1 := hTr.go hi e1
      refine z_aload_0 iX11_readPart_15 ?_
      refine z_dup iX11_readPart_16 rfl ?_
      refine m_getI iX11_readPart_17 g_11_72 rfl ?_
      refine z_top (hq.2.1) ?_
      refine z_iconst iX11_readPart_20 kI_1 ?_
      refine z_iaddN iX11_readPart_21 ?_
      refine m_putI iX11_readPart_22 p_11_72 rfl ?_
      have hF1 : Fm [146, 147] [9, 10, 13, 14] μ (mw μ 140 13 (nI (i + 1))) := Fm.rf.put _ _ (by decide)
      have hM1 : MRd (mw μ 140 13 (nI (i + 1))) R := hM.fm (Fm.rf.put (L := []) (K := [13]) _ _ (by decide)) (by decide) (by decide) (by decide) (by decide)
      have hq1 : RS (mw μ 140 13 (nI (i + 1))) (none, i + 1) := ⟨by rw [mw_ne _ _ (Or.inr (by decide))]; exact hq.1, mw_same _ _ _ _, by show i + 1 < 100; omega, fun j hj => by cases hj⟩
      generalize mw μ 140 13 (nI (i + 1)) = μ1 at hF1 hM1 hq1
      refine z_aload_0 iX11_readPart_25 ?_
      refine m_getR iX11_readPart_26 g_11_25 rfl ?_
      refine z_iconst iX11_readPart_29 kI_4 ?_
      refine z_aload_0 iX11_readPart_30 ?_
      refine m_getI iX11_readPart_31 g_11_79 rfl ?_
      refine z_top (hM1.1) ?_
      refine z_imulN iX11_readPart_34 ?_
      refine z_aload_0 iX11_readPart_35 ?_
      refine z_iconst iX11_readPart_36 kI_3 ?_
      refine m_callVi iX11_readPart_37 l_11_89 f_X11_figureOf (c_X11_figureOf (tx := tx) (ln := ln) (most := 3) G _ (hT.fm hF1 (by decide) (by decide)) hln htx (by omega) hq1) rfl rfl rfl (Nat.le_of_ble_eq_true rfl) hR ft_X11_readPart_X11_figureOf ⟨rfl, rfl⟩ ?_
      rintro r μ2 ⟨hF2, hq2, rfl⟩
      have t2 := t1.fig (most := 3) (f := fun v => (3, 0, setKd R v)) (show (2 : Nat) ≠ 1 by decide) (fun c hO2 => rd2 m R c)
      have g2 := fgS_ge tx ln 3 (none, i + 1)
      generalize fgS tx ln 3 (none, i + 1) = p2 at hq2 t2 g2
      have hM2 : MRd μ2 R := hM1.fm hF2 (by decide) (by decide) (by decide) (by decide)
      have body : ∀ (mm : Nat) (R' : Rl) (q : Option Nat × Nat) (μ' : Mem), mm < 3 → rFc R' = rFc R → i + 1 ≤ q.2 → Fm [146, 147] [9, 10, 13, 14] μ μ' → Tr tx ln (3, mm, R') q → RS μ' q → MRd μ' R' → MRf μ' R' mm → (∀ (v : Nat) (q' : Option Nat × Nat) (μ'' : Mem), i + 1 ≤ q'.2 → Fm [146, 147] [9, 10, 13, 14] μ μ'' → Tr tx ln (nx3 mm R' v) q' → RS μ'' q' → MRd μ'' (setMv R' mm v) → MRf μ'' (setMv R' mm v) (mm + 1) → Zm G X cX11_readPart RX11 μ'' 43 [some (.ref (qB G + 140)), some (.int (nI (tx i))), some (.int (nI (mm + 2)))] []) → Zm G X cX11_readPart RX11 μ' 43 [some (.ref (qB G + 140)), some (.int (nI (tx i))), some (.int (nI (mm + 1)))] [] := by
        intro mm R' q μ' hmm hfc hge hF t hqq hMM hMf kk
        refine z_iload_2 iX11_readPart_43 ?_
        refine z_iconst iX11_readPart_44 kI_4 ?_
        refine z_icmp_geN iX11_readPart_45 (by omega) (by omega) (fun w3 => ?_) (fun w3 => ?_)
        · omega
        · have hfc6 : rFc R' < 6 := by omega
          refine z_aload_0 iX11_readPart_48 ?_
          refine m_getR iX11_readPart_49 g_11_25 rfl ?_
          refine z_iconst iX11_readPart_52 kI_4 ?_
          refine z_aload_0 iX11_readPart_53 ?_
          refine m_getI iX11_readPart_54 g_11_79 rfl ?_
          refine z_top (hMM.1) ?_
          refine z_imulN iX11_readPart_57 ?_
          refine z_iload_2 iX11_readPart_58 ?_
          refine z_iaddN iX11_readPart_59 ?_
          refine z_aload_0 iX11_readPart_60 ?_
          refine m_callVi iX11_readPart_61 l_11_92 f_X11_moveOf (c_X11_moveOf (tx := tx) (ln := ln) G _ (hT.fm hF (by decide) (by decide)) hln htx hqq) rfl rfl rfl (Nat.le_of_ble_eq_true rfl) hR ft_X11_readPart_X11_moveOf ⟨rfl, rfl⟩ ?_
          rintro r μ5 ⟨hF5, hq5, rfl⟩
          have t5 := t.mv (f := nx3 mm R') (show (3 : Nat) ≠ 1 by decide) (rd3 mm R')
          have g5 := mvS_ge tx ln q
          generalize mvS tx ln q = p5 at hq5 t5 g5
          refine m_iastN iX11_readPart_64 rfl (by omega) ?_
          refine z_iinc_2N iX11_readPart_65 rfl ?_
          refine z_goto iX11_readPart_68 ?_
          have hM5 := (hMM.fm hF5 (by decide) (by decide) (by decide) (by decide)).mv (v := p5.2) (hMf.fm hF5 (by decide)) hmm
          rw [show 4 * rFc R' + (mm + 1) = 4 * rFc R' + 1 + mm by omega]
          exact kk p5.2 p5.1 _ (by omega) ((hF.trans (hF5.mono (by decide) (by decide))).mw _ _ (by decide) (by decide)) t5 (hq5.mw (Or.inl (by decide))) hM5.1 hM5.2
      refine m_iastN iX11_readPart_40 rfl (by omega) ?_
      refine z_iconst iX11_readPart_41 kI_1 ?_
      refine z_istore_2 iX11_readPart_42 rfl ?_
      have hM3 := hM2.kd (k := p2.2)
      refine body 0 (setKd R p2.2) p2.1 _ (by decide) rfl g2 ((hF1.trans (hF2.mono (by decide) (by decide))).mw _ _ (by decide) (by decide)) t2 (hq2.mw (Or.inl (by decide))) hM3.1 hM3.2 (fun v1 q1 μ6 g6 hF6 t6 hq6 hM6 hf6 => ?_)
      refine body 1 (setMv (setKd R p2.2) 0 v1) q1 μ6 (by decide) rfl g6 hF6 t6 hq6 hM6 hf6 (fun v2 q2 μ7 g7 hF7 t7 hq7 hM7 hf7 => ?_)
      refine body 2 (setMv (setMv (setKd R p2.2) 0 v1) 1 v2) q2 μ7 (by decide) rfl g7 hF7 t7 hq7 hM7 hf7 (fun v3 q3 μ8 g8 hF8 t8 hq8 hM8 hf8 => ?_)
      refine z_iload_2 iX11_readPart_43 ?_
      refine z_iconst iX11_readPart_44 kI_4 ?_
      refine z_icmp_geN iX11_readPart_45 (by omega) (by omega) (fun w3 => ?_) (fun w3 => ?_)
      · refine z_aload_0 iX11_readPart_71 ?_
        refine z_dup iX11_readPart_72 rfl ?_
        refine m_getI iX11_readPart_73 g_11_79 rfl ?_
        refine z_top (hM8.1) ?_
        refine z_iconst iX11_readPart_76 kI_1 ?_
        refine z_iaddN iX11_readPart_77 ?_
        refine m_putI iX11_readPart_78 p_11_79 rfl ?_
        refine z_goto iX11_readPart_81 ?_
        exact m_vret hE iX11_readPart_176 ⟨hF8.put _ _ (by decide), 3, _, q3, (fun _ => by omega), t8, hq8.mw (Or.inr (by decide)), hM8.inc hf8⟩
      · omega
theorem c_X11_readText (G : qG) (l : Launch) {μ : Mem} {tx : Nat → Nat} {ln : Nat} (hT : MText μ ln tx) (hln : ln ≤ 52) (htx : ∀ i, i < ln → tx i < 256) : CtrI G l M_X11_readText [.ref (qB G + 140)] μ (fun r μ' => Fm [146, 147] [9, 10, 13, 14] μ μ' ∧ r = faultI (rdRun tx ln 0 rd0).1 ∧ ((rdRun tx ln 0 rd0).1 = none → RlOK (rdRun tx ln 0 rd0).2.2.2 ∧ MRd μ' (rdRun tx ln 0 rd0).2.2.2)) := by
  refine m_enterI [some (.ref (qB G + 140))] (by decide +kernel) rfl (Nat.le_of_ble_eq_true rfl) (fun X hE hR => ?_)
  have hR : qR X = rm_X11_readText := hR
  have hE : EI G X _ (some .int) := hE
  show Zm G X cX11_readText RX11 _ 0 [some (.ref (qB G + 140))] []
  have h12 : (mw (mw (mw (mw μ 140 13 (nI 0)) 140 14 (-9)) 140 9 (nI 0)) 140 10 (nI 0)).1 140 12 = nI ln := by simp [mw_rd]; exact hT.1
  refine z_aload_0 iX11_readText_0 ?_
  refine z_iconst iX11_readText_1 kI_0 ?_
  refine m_putI iX11_readText_2 p_11_72 rfl ?_
  refine z_aload_0 iX11_readText_5 ?_
  refine z_bipush (x := -9) iX11_readText_6 (by decide) ?_
  refine m_putI iX11_readText_8 p_11_69 rfl ?_
  refine z_aload_0 iX11_readText_11 ?_
  refine z_iconst iX11_readText_12 kI_0 ?_
  refine m_putI iX11_readText_13 p_11_79 rfl ?_
  refine z_aload_0 iX11_readText_16 ?_
  refine z_iconst iX11_readText_17 kI_0 ?_
  refine m_putI iX11_readText_18 p_11_82 rfl ?_
  refine z_aload_0 iX11_readText_21 ?_
  refine m_getI iX11_readText_22 g_11_65 rfl ?_
  refine z_top (h12) ?_
  have hF0 : Fm [146, 147] [9, 10, 13, 14] μ (mw (mw (mw (mw μ 140 13 (nI 0)) 140 14 (-9)) 140 9 (nI 0)) 140 10 (nI 0)) := (((Fm.rf.put _ _ (by decide)).put _ _ (by decide)).put _ _ (by decide)).put _ _ (by decide)
  have g14 : (mw (mw (mw (mw μ 140 13 (nI 0)) 140 14 (-9)) 140 9 (nI 0)) 140 10 (nI 0)).1 140 14 = -9 := by simp [mw_rd]
  have g9 : (mw (mw (mw (mw μ 140 13 (nI 0)) 140 14 (-9)) 140 9 (nI 0)) 140 10 (nI 0)).1 140 9 = nI 0 := by simp [mw_rd]
  have g10 : (mw (mw (mw (mw μ 140 13 (nI 0)) 140 14 (-9)) 140 9 (nI 0)) 140 10 (nI 0)).1 140 10 = nI 0 := by simp [mw_rd]
  generalize mw (mw (mw (mw μ 140 13 (nI 0)) 140 14 (-9)) 140 9 (nI 0)) 140 10 (nI 0) = μ1 at hF0 g14 g9 g10
  have e0 : (rdRun tx (ln - 0) 0 rd0).1 = some 0 → Zm G X cX11_readText RX11 μ1 39 [some (.ref (qB G + 140))] [] := by
    intro e
    have e : (rdRun tx ln 0 rd0).1 = some 0 := e
    refine z_iconst iX11_readText_39 kI_0 ?_
    exact m_iret hE iX11_readText_40 ⟨hF0, by rw [e]; rfl, fun z => by rw [e] at z; cases z⟩
  have hT1 := hT.fm hF0 (by decide) (by decide)
  refine z_if_eqN iX11_readText_25 (by omega) (fun w => ?_) (fun w => ?_)
  · exact e0 (rd_fail (Or.inl ⟨by omega, by decide⟩))
  · have hc := htx 0 (by omega)
    refine z_aload_0 iX11_readText_28 ?_
    refine m_getR iX11_readText_29 g_11_31 rfl ?_
    refine z_iconst iX11_readText_32 kI_0 ?_
    refine m_ialdN iX11_readText_33 rfl (by omega) ?_
    refine z_top (hT1.2 0 (by omega)) ?_
    refine z_bipush iX11_readText_34 kB_66 ?_
    refine z_icmp_eqN iX11_readText_36 (by omega) (by omega) (fun w2 => ?_) (fun w2 => ?_)
    · have s1 : rdStep rd0 (tx 0) = some (1, 0, rd0.2.2) := by unfold rdStep rd0; simp [w2]
      refine z_aload_0 iX11_readText_41 ?_
      refine z_iconst iX11_readText_42 kI_1 ?_
      refine m_putI iX11_readText_43 p_11_72 rfl ?_
      have loop : ∀ (n i : Nat) (m : Nat) (R : Rl) (o : Option Nat) (μ' : Mem), ln - i ≤ n → Fm [146, 147] [9, 10, 13, 14] μ μ' → Tr tx ln (1, m, R) (o, i) → RS μ' (o, i) → MRd μ' R → Zm G X cX11_readText RX11 μ' 46 [some (.ref (qB G + 140))] [] := by
        intro n
        induction n with
        | zero =>
          intro i m R o μ' hn hF t hqq hMM
          have hT2 := hT.fm hF (by decide) (by decide)
          have hi1 : i < 100 := hqq.2.2.1
          refine z_aload_0 iX11_readText_46 ?_
          refine m_getI iX11_readText_47 g_11_69 rfl ?_
          refine z_top (hqq.1) ?_
          refine z_bipush (x := -9) iX11_readText_50 (by decide) ?_
          refine z_icmp_ne iX11_readText_52 (fun w3 => ?_) (fun w3 => ?_)
          · cases o with
            | none => exact absurd rfl w3
            | some j =>
              have t : (rdRun tx ln 0 rd0).1 = some j := t
              refine z_aload_0 iX11_readText_82 ?_
              refine m_getI iX11_readText_83 g_11_69 rfl ?_
              refine z_top (hqq.1) ?_
              exact m_iret hE iX11_readText_86 ⟨hF, by rw [t], fun z => by rw [t] at z; cases z⟩
          · cases o with
            | some j => exact absurd w3 (faultI_ne (hqq.2.2.2 j rfl))
            | none =>
              refine z_aload_0 iX11_readText_55 ?_
              refine m_getI iX11_readText_56 g_11_72 rfl ?_
              refine z_top (hqq.2.1) ?_
              refine z_aload_0 iX11_readText_59 ?_
              refine m_getI iX11_readText_60 g_11_65 rfl ?_
              refine z_top (hT2.1) ?_
              refine z_icmp_geN iX11_readText_63 (by omega) (by omega) (fun w4 => ?_) (fun w4 => ?_)
              · obtain ⟨t1, t2, t3⟩ := t
                have t1 : rdRun tx (ln - i) i (1, m, R) = rdRun tx ln 0 rd0 := t1
                have et : rdRun tx ln 0 rd0 = (none, (1, m, R)) := by rw [← t1, show ln - i = 0 by omega]; rfl
                refine z_aload_0 iX11_readText_82 ?_
                refine m_getI iX11_readText_83 g_11_69 rfl ?_
                refine z_top (hqq.1) ?_
                exact m_iret hE iX11_readText_86 ⟨hF, by rw [et], fun _ => by rw [et]; exact ⟨t2.2.1, hMM⟩⟩
              · omega
        | succ n ih =>
          intro i m R o μ' hn hF t hqq hMM
          have hT2 := hT.fm hF (by decide) (by decide)
          have hi1 : i < 100 := hqq.2.2.1
          refine z_aload_0 iX11_readText_46 ?_
          refine m_getI iX11_readText_47 g_11_69 rfl ?_
          refine z_top (hqq.1) ?_
          refine z_bipush (x := -9) iX11_readText_50 (by decide) ?_
          refine z_icmp_ne iX11_readText_52 (fun w3 => ?_) (fun w3 => ?_)
          · cases o with
            | none => exact absurd rfl w3
            | some j =>
              have t : (rdRun tx ln 0 rd0).1 = some j := t
              refine z_aload_0 iX11_readText_82 ?_
              refine m_getI iX11_readText_83 g_11_69 rfl ?_
              refine z_top (hqq.1) ?_
              exact m_iret hE iX11_readText_86 ⟨hF, by rw [t], fun z => by rw [t] at z; cases z⟩
          · cases o with
            | some j => exact absurd w3 (faultI_ne (hqq.2.2.2 j rfl))
            | none =>
              refine z_aload_0 iX11_readText_55 ?_
              refine m_getI iX11_readText_56 g_11_72 rfl ?_
              refine z_top (hqq.2.1) ?_
              refine z_aload_0 iX11_readText_59 ?_
              refine m_getI iX11_readText_60 g_11_65 rfl ?_
              refine z_top (hT2.1) ?_
              refine z_icmp_geN iX11_readText_63 (by omega) (by omega) (fun w4 => ?_) (fun w4 => ?_)
              · obtain ⟨t1, t2, t3⟩ := t
                have t1 : rdRun tx (ln - i) i (1, m, R) = rdRun tx ln 0 rd0 := t1
                have et : rdRun tx ln 0 rd0 = (none, (1, m, R)) := by rw [← t1, show ln - i = 0 by omega]; rfl
                refine z_aload_0 iX11_readText_82 ?_
                refine m_getI iX11_readText_83 g_11_69 rfl ?_
                refine z_top (hqq.1) ?_
                exact m_iret hE iX11_readText_86 ⟨hF, by rw [et], fun _ => by rw [et]; exact ⟨t2.2.1, hMM⟩⟩
              · refine z_aload_0 iX11_readText_66 ?_
                refine z_aload_0 iX11_readText_67 ?_
                refine m_getR iX11_readText_68 g_11_31 rfl ?_
                refine z_aload_0 iX11_readText_71 ?_
                refine m_getI iX11_readText_72 g_11_72 rfl ?_
                refine z_top (hqq.2.1) ?_
                refine m_ialdN iX11_readText_75 rfl (by omega) ?_
                refine z_top (hT2.2 i w4) ?_
                refine m_callVv iX11_readText_76 l_11_85 f_X11_readPart (c_X11_readPart G _ hT2 hln htx w4 t hqq hMM) rfl rfl rfl (Nat.le_of_ble_eq_true rfl) hR ft_X11_readText_X11_readPart ⟨rfl, rfl⟩ ?_
                rintro μ2 ⟨hF2, m2, R2, ⟨o2, i2⟩, hlt, t2, hq2, hM2⟩
                refine z_goto iX11_readText_79 ?_
                cases o2 with
                | none => exact ih i2 m2 R2 none μ2 (by have := hlt rfl; have : i < i2 := this; omega) (hF.trans hF2) t2 hq2 hM2
                | some j =>
                  have t2 : (rdRun tx ln 0 rd0).1 = some j := t2
                  refine z_aload_0 iX11_readText_46 ?_
                  refine m_getI iX11_readText_47 g_11_69 rfl ?_
                  refine z_top (hq2.1) ?_
                  refine z_bipush (x := -9) iX11_readText_50 (by decide) ?_
                  refine z_icmp_ne iX11_readText_52 (fun w5 => ?_) (fun w5 => ?_)
                  · refine z_aload_0 iX11_readText_82 ?_
                    refine m_getI iX11_readText_83 g_11_69 rfl ?_
                    refine z_top (hq2.1) ?_
                    exact m_iret hE iX11_readText_86 ⟨hF.trans hF2, by rw [t2], fun z => by rw [t2] at z; cases z⟩
                  · exact absurd w5 (faultI_ne (hq2.2.2.2 j rfl))
      refine loop ln 1 0 rd0.2.2 none _ (by omega) (hF0.put _ _ (by decide)) ⟨(rd_go (s := rd0) (i := 0) (by omega) s1).symm, rdStep_ok rd0_ok s1, by show 1 ≤ ln; omega⟩ ⟨by rw [mw_ne _ _ (Or.inr (by decide))]; exact g14, mw_same _ _ _ _, by decide, fun j hj => by cases hj⟩ ⟨by rw [mw_ne _ _ (Or.inr (by decide))]; exact g9, by rw [mw_ne _ _ (Or.inr (by decide))]; exact g10, fun f hf => absurd hf (Nat.not_lt_zero f), fun g hg => absurd hg (Nat.not_lt_zero g)⟩
    · refine e0 (rd_fail (Or.inr ⟨by omega, ?_⟩))
      unfold rdStep rd0
      simp [w2]
theorem c_X11_fault (G : qG) (l : Launch) {μ : Mem} {S : St} (h : MAt μ S) (hS : SOK S) : CtrI G l M_X11_fault [.ref (qB G + 140)] μ (QM μ S (qFault S)) := by
  refine m_enterI [some (.ref (qB G + 140))] (by decide +kernel) rfl (Nat.le_of_ble_eq_true rfl) (fun X hE hR => ?_)
  have hR : qR X = rm_X11_fault := hR
  have hE : EI G X _ (some .int) := hE
  show Zm G X cX11_fault RX11 _ 0 [some (.ref (qB G + 140))] []
  obtain ⟨h1, h2, h3, h4, h5, h6, h7, h8⟩ := id h
  refine z_aload_0 iX11_fault_0 ?_
  refine m_callVi iX11_fault_1 l_11_96 f_X11_readText (c_X11_readText G _ h3 hS.1 hS.2.1) rfl rfl rfl (Nat.le_of_ble_eq_true rfl) hR ft_X11_fault_X11_readText ⟨rfl, rfl⟩ ?_
  rintro r μ1 ⟨hF, rfl, -⟩
  exact m_iret hE iX11_fault_4 (QM.of h hS hF (by decide) (by decide) rfl)

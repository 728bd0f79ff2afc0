/-! THE CLASS'S CALLS: chain, order, masks, share, rests, clouded -/
def chW (S : St) (f g : Nat) : Nat → Nat := rR (hnd (sR S) (sH S) (rPr (sR S) g)) (hOw (sH S) g) (rFc (sR S)) (updN (fun _ => 1000000) f 0) (rFc (sR S))
def chS (S : St) (f g : Nat) : Nat × Int32 := selS (hnd (sR S) (sH S) (rPr (sR S) g)) (hOw (sH S) g) (chW S f g) (rFc (sR S))
def vChain (S : St) (f g k : Nat) : Int32 := if hOw (sH S) g = f then (if k = 0 then nI 0 else -9) else (if k = 0 then nI (chS S f g).1 else (chS S f g).2)
def qChain (S : St) (x y z : Int32) : Int32 := match idx x (rFc (sR S)), idx y (rGc (sR S)) with
  | some f, some g => match idx z 2 with
    | none => -2
    | some k => vChain S f g k
  | _, _ => -1
theorem qChain_no {S : St} {x y z : Int32} (h : idx x (rFc (sR S)) = none ∨ idx y (rGc (sR S)) = none) : qChain S x y z = -1 := by
  unfold qChain
  rcases h with h | h
  · rw [h]
  · rw [h]; cases idx x (rFc (sR S)) <;> rfl
theorem scr_ch : ∀ a, a ∈ [35, 36, 43, 44, 45, 46, 47, 48, 119, 120] → scr a ∧ a ≠ 125 := fun a h => by unfold scr; simp at h; omega
theorem c_X10_chain (G : qG) (l : Launch) {μ : Mem} {S : St} (h : CAt μ S) (x y z : Int32) : CtrI G l M_X10_chain [.ref (qB G + 0), .int x, .int y, .int z] μ (QP μ S (qChain S x y z)) := by
  refine m_enterI [some (.ref (qB G + 0)), some (.int x), some (.int y), some (.int z)] (by decide +kernel) rfl (Nat.le_of_ble_eq_true rfl) (fun X hE hR => ?_)
  have hR : qR X = rm_X10_chain := hR
  have hE : EI G X _ (some .int) := hE
  show Zm G X cX10_chain RX10 _ 0 [some (.ref (qB G + 0)), some (.int x), some (.int y), some (.int z)] []
  obtain ⟨c0, c1, c2, c3, c4, c5, c6, c7, c8, c9⟩ := id h
  have h6 := c0.2.2.1.1
  have h5 := c0.2.2.1.2.1
  refine z_aload_0 iX10_chain_0 ?_
  refine m_getR iX10_chain_1 g_10_29 rfl ?_
  refine z_iload_1 iX10_chain_4 ?_
  refine m_callVi iX10_chain_5 l_10_119 f_X7_hasFencer (c_X7_hasFencer G _ rfl c3.1 (by omega) x) rfl rfl rfl (Nat.le_of_ble_eq_true rfl) hR ft_X10_chain_X7_hasFencer ⟨rfl, rfl⟩ ?_
  rintro r μ1 ⟨rfl, ⟨rfl, f, hf, rfl⟩ | ⟨rfl, hn⟩⟩
  · refine z_if_eq iX10_chain_8 (fun q => ?_) (fun q => ?_)
    · exact absurd q nI10
    · refine z_aload_0 iX10_chain_11 ?_
      refine m_getR iX10_chain_12 g_10_29 rfl ?_
      refine z_iload_2 iX10_chain_15 ?_
      refine m_callVi iX10_chain_16 l_10_152 f_X7_hasGood (c_X7_hasGood G _ rfl c3.2.1 (by omega) y) rfl rfl rfl (Nat.le_of_ble_eq_true rfl) hR ft_X10_chain_X7_hasGood ⟨rfl, rfl⟩ ?_
      rintro r μ2 ⟨rfl, ⟨rfl, g, hg, rfl⟩ | ⟨rfl, hn⟩⟩
      · have ei := idx_some (n := rFc (sR S)) (f := f) (by omega) hf
        have ej := idx_some (n := rGc (sR S)) (f := g) (by omega) hg
        refine z_if_ne iX10_chain_19 (fun q => ?_) (fun q => ?_)
        · refine z_iload_3 iX10_chain_24 ?_
          refine z_if_lt iX10_chain_25 (fun q2 => ?_) (fun q2 => ?_)
          · refine z_bipush (x := -2) iX10_chain_33 (by decide) ?_
            exact m_iret hE iX10_chain_35 (QP.rf h (by unfold qChain; rw [ei, ej, idx_neg q2]))
          · obtain ⟨k, hk, rfl⟩ := nI_of q2
            refine z_iload_3 iX10_chain_28 ?_
            refine z_iconst iX10_chain_29 kI_1 ?_
            refine z_icmp_leN iX10_chain_30 (by omega) (by omega) (fun q3 => ?_) (fun q3 => ?_)
            · have e : qChain S (nI f) (nI g) (nI k) = vChain S f g k := by unfold qChain; rw [ei, ej, idx_some (by decide) (by omega)]
              refine z_aload_0 iX10_chain_36 ?_
              refine m_getR iX10_chain_37 g_10_63 rfl ?_
              refine z_iload_1 iX10_chain_40 ?_
              refine z_iload_2 iX10_chain_41 ?_
              refine m_callVv iX10_chain_42 l_10_208 f_X3_findChain (c_X3_findChain G _ c0.2.2.1 c0.2.2.2.1 c3 c4 hf hg) rfl rfl rfl (Nat.le_of_ble_eq_true rfl) hR ft_X10_chain_X3_findChain ⟨rfl, rfl⟩ ?_
              rintro μ3 ⟨hF, hc⟩
              refine z_iload_3 iX10_chain_45 ?_
              refine z_if_neN iX10_chain_46 (by omega) (fun q4 => ?_) (fun q4 => ?_)
              · refine z_aload_0 iX10_chain_59 ?_
                refine m_getR iX10_chain_60 g_10_63 rfl ?_
                refine m_getI iX10_chain_63 g_10_214 rfl ?_
                refine m_iret hE iX10_chain_66 (QP.of h hF scr_ch ?_)
                rw [e]
                unfold vChain
                rcases hc with ⟨z1, z2, z3⟩ | ⟨z1, z2, z3⟩
                · rw [if_pos z1, if_neg q4]; exact z3
                · rw [if_neg z1, if_neg q4]; exact z3
              · refine z_aload_0 iX10_chain_49 ?_
                refine m_getR iX10_chain_50 g_10_63 rfl ?_
                refine m_getI iX10_chain_53 g_10_211 rfl ?_
                refine z_goto iX10_chain_56 ?_
                refine m_iret hE iX10_chain_66 (QP.of h hF scr_ch ?_)
                rw [e]
                unfold vChain
                rcases hc with ⟨z1, z2, z3⟩ | ⟨z1, z2, z3⟩
                · rw [if_pos z1, if_pos q4]; exact z2
                · rw [if_neg z1, if_pos q4]; exact z2
            · refine z_bipush (x := -2) iX10_chain_33 (by decide) ?_
              exact m_iret hE iX10_chain_35 (QP.rf h (by unfold qChain; rw [ei, ej, idx_big hk (by omega)]))
        · exact absurd q nI10
      · refine z_if_ne iX10_chain_19 (fun q => ?_) (fun q => ?_)
        · exact absurd nI00 q
        · refine z_iconst (x := -1) iX10_chain_22 (by decide) ?_
          exact m_iret hE iX10_chain_23 (QP.rf h (qChain_no (Or.inr (idx_none hn))).symm)
  · refine z_if_eq iX10_chain_8 (fun q => ?_) (fun q => ?_)
    · refine z_iconst (x := -1) iX10_chain_22 (by decide) ?_
      exact m_iret hE iX10_chain_23 (QP.rf h (qChain_no (Or.inl (idx_none hn))).symm)
    · exact absurd nI00 q
/-- an answer by a number of two -/
def qTwo (x v0 v1 : Int32) : Int32 := match idx x 2 with
  | none => -2
  | some 0 => v0
  | some _ => v1
theorem qTwo_neg {x v0 v1 : Int32} (h : x < 0) : qTwo x v0 v1 = -2 := by unfold qTwo; rw [idx_neg h]
theorem qTwo_big {k : Nat} {v0 v1 : Int32} (hk : k < 2 ^ 31) (h : 2 ≤ k) : qTwo (nI k) v0 v1 = -2 := by unfold qTwo; rw [idx_big hk h]
theorem qTwo_0 {v0 v1 : Int32} : qTwo (nI 0) v0 v1 = v0 := by unfold qTwo; rw [idx_some (by decide) (by decide)]; rfl
theorem qTwo_1 {v0 v1 : Int32} : qTwo (nI 1) v0 v1 = v1 := by unfold qTwo; rw [idx_some (by decide) (by decide)]; rfl
def ordT (S : St) : Nat → Nat := tbl (whoB (sR S) (sH S)) (rFc (sR S)) (2 ^ rFc (sR S))
theorem scr_cn : ∀ a, a ∈ cnS → scr a ∧ a ≠ 125 := fun a h => by unfold cnS at h; unfold scr; simp at h; omega
theorem c_X10_order (G : qG) (l : Launch) {μ : Mem} {S : St} (h : CAt μ S) (x : Int32) : CtrI G l M_X10_order [.ref (qB G + 0), .int x] μ (QP μ S (qTwo x (nI (ordT S (2 ^ rFc (sR S) - 1))) (nI (bOrd (whoB (sR S) (sH S)) (ordT S) (rFc (sR S)) (rFc (sR S))).2))) := by
  refine m_enterI [some (.ref (qB G + 0)), some (.int x)] (by decide +kernel) rfl (Nat.le_of_ble_eq_true rfl) (fun X hE hR => ?_)
  have hR : qR X = rm_X10_order := hR
  have hE : EI G X _ (some .int) := hE
  show Zm G X cX10_order RX10 _ 0 [some (.ref (qB G + 0)), some (.int x)] []
  obtain ⟨c0, c1, c2, c3, c4, c5, c6, c7, c8, c9⟩ := id h
  refine z_iload_1 iX10_order_0 ?_
  refine z_if_lt iX10_order_1 (fun q2 => ?_) (fun q2 => ?_)
  · refine z_bipush (x := -2) iX10_order_9 (by decide) ?_
    exact m_iret hE iX10_order_11 (QP.rf h (qTwo_neg q2).symm)
  · obtain ⟨k, hk, rfl⟩ := nI_of q2
    refine z_iload_1 iX10_order_4 ?_
    refine z_iconst iX10_order_5 kI_1 ?_
    refine z_icmp_leN iX10_order_6 (by omega) (by omega) (fun q3 => ?_) (fun q3 => ?_)
    · refine z_aload_0 iX10_order_12 ?_
      refine m_getR iX10_order_13 g_10_63 rfl ?_
      refine m_callVv iX10_order_16 l_10_217 f_X3_weighOrders (c_X3_weighOrders G _ c0.2.2.1 c0.2.2.2.1 c3 c4) rfl rfl rfl (Nat.le_of_ble_eq_true rfl) hR ft_X10_order_X3_weighOrders ⟨rfl, rfl⟩ ?_
      rintro μ2 ⟨hF, hB, hT⟩
      have hR2 : RollAt μ2 (sR S) := c3.fr c0.2.2.1 hF (by decide)
      refine z_iload_1 iX10_order_19 ?_
      refine z_if_neN iX10_order_20 (by omega) (fun q4 => ?_) (fun q4 => ?_)
      · refine z_aload_0 iX10_order_33 ?_
        refine m_getR iX10_order_34 g_10_63 rfl ?_
        refine m_callVi iX10_order_37 l_10_223 f_X3_bestOrder (c_X3_bestOrder (B := whoB (sR S) (sH S)) (t := ordT S) G _ c0.2.2.1 hR2 (fun f hf => ⟨hB f hf, whoB_lt c0.2.2.1⟩) (fun s hs => ⟨hT s hs, tbl_le _ _ _ _⟩)) rfl rfl rfl (Nat.le_of_ble_eq_true rfl) hR ft_X10_order_X3_bestOrder ⟨rfl, rfl⟩ ?_
        rintro r μ3 ⟨rfl, rfl⟩
        rw [show k = 1 by omega] at hE
        exact m_iret hE iX10_order_40 (QP.of h hF scr_cn qTwo_1.symm)
      · refine z_aload_0 iX10_order_23 ?_
        refine m_getR iX10_order_24 g_10_63 rfl ?_
        refine m_callVi iX10_order_27 l_10_220 f_X3_fewestAgainst (c_X3_fewestAgainst (t := ordT S) G _ c0.2.2.1 hR2 hT) rfl rfl rfl (Nat.le_of_ble_eq_true rfl) hR ft_X10_order_X3_fewestAgainst ⟨rfl, rfl⟩ ?_
        rintro r μ3 ⟨rfl, rfl⟩
        refine z_goto iX10_order_30 ?_
        rw [q4] at hE
        exact m_iret hE iX10_order_40 (QP.of h hF scr_cn qTwo_0.symm)
    · refine z_bipush (x := -2) iX10_order_9 (by decide) ?_
      exact m_iret hE iX10_order_11 (QP.rf h (qTwo_big hk (by omega)).symm)
def fitB (R : Rl) (H : Hd) (ns : Nat) (sf sh : Nat → Nat) (n : Nat) : Bool := decide (∀ k, k < ns → sf k < rFc R → bH1 (0, mkMv n, 0) (feOf R H (sf k)) = sh k)
def mskB (S : St) : Nat → Bool := fitB (sR S) (sH S) (sNs S) (sSf S) (sSh S)
def mskV (n : Nat) : Int32 := nI (100 * mkMv n 0 + 10 * mkMv n 1 + mkMv n 2)
theorem c_X10_masks (G : qG) (l : Launch) {μ : Mem} {S : St} (h : CAt μ S) (x : Int32) : CtrI G l M_X10_masks [.ref (qB G + 0), .int x] μ (QP μ S (qTwo x (nI (cnt (mskB S) 64)) (fstV (mskB S) mskV 64))) := by
  refine m_enterI [some (.ref (qB G + 0)), some (.int x)] (by decide +kernel) rfl (Nat.le_of_ble_eq_true rfl) (fun X hE hR => ?_)
  have hR : qR X = rm_X10_masks := hR
  have hE : EI G X _ (some .int) := hE
  show Zm G X cX10_masks RX10 _ 0 [some (.ref (qB G + 0)), some (.int x)] []
  obtain ⟨c0, c1, c2, c3, c4, c5, c6, c7, c8, c9⟩ := id h
  refine z_iload_1 iX10_masks_0 ?_
  refine z_if_lt iX10_masks_1 (fun q2 => ?_) (fun q2 => ?_)
  · refine z_bipush (x := -2) iX10_masks_9 (by decide) ?_
    exact m_iret hE iX10_masks_11 (QP.rf h (qTwo_neg q2).symm)
  · obtain ⟨k, hk, rfl⟩ := nI_of q2
    refine z_iload_1 iX10_masks_4 ?_
    refine z_iconst iX10_masks_5 kI_1 ?_
    refine z_icmp_leN iX10_masks_6 (by omega) (by omega) (fun q3 => ?_) (fun q3 => ?_)
    · refine z_aload_0 iX10_masks_12 ?_
      refine m_getR iX10_masks_13 g_10_77 rfl ?_
      refine m_callVv iX10_masks_16 l_10_242 f_X9_findMasks (c_X9_findMasks (p := mskB S) G _ c0.2.2.1 c0.2.2.2.1 c3 c4 c7 c9 (fun n hn => by unfold mskB fitB fitP; exact decide_eq_true_iff)) rfl rfl rfl (Nat.le_of_ble_eq_true rfl) hR ft_X10_masks_X9_findMasks ⟨rfl, rfl⟩ ?_
      rintro μ2 ⟨hF, e4, e5, e6⟩
      have hq : ∀ v : Int32, QP μ S v v μ2 := fun v => ⟨rfl, h.kept (fun a _ ha => hF.1 a (fun z => ha (by unfold scr; simp at z; omega))) e4 (by rw [hF.2]) (by rw [hF.2]), hF.ms (by decide)⟩
      refine z_iload_1 iX10_masks_19 ?_
      refine z_if_neN iX10_masks_20 (by omega) (fun q4 => ?_) (fun q4 => ?_)
      · rw [show k = 1 by omega] at hE
        refine z_aload_0 iX10_masks_33 ?_
        refine m_getR iX10_masks_34 g_10_77 rfl ?_
        refine m_getI iX10_masks_37 g_10_248 rfl ?_
        refine z_top (e6) ?_
        rw [qTwo_1] at hE
        exact m_iret hE iX10_masks_40 (hq _)
      · rw [q4] at hE
        refine z_aload_0 iX10_masks_23 ?_
        refine m_getR iX10_masks_24 g_10_77 rfl ?_
        refine m_getI iX10_masks_27 g_10_245 rfl ?_
        refine z_top (e5) ?_
        refine z_goto iX10_masks_30 ?_
        rw [qTwo_0] at hE
        exact m_iret hE iX10_masks_40 (hq _)
    · refine z_bipush (x := -2) iX10_masks_9 (by decide) ?_
      exact m_iret hE iX10_masks_11 (QP.rf h (qTwo_big hk (by omega)).symm)
def qShare (S : St) (x u : Int32) : Int32 := match idx x (rFc (sR S)) with
  | none => -1
  | some f => nI ((if u = 0 then 60 else sumN (shr (sR S) (sH S) f) (rFc (sR S))) / Nat.gcd 60 (sumN (shr (sR S) (sH S) f) (rFc (sR S))))
theorem shr_le (R : Rl) (H : Hd) (f o : Nat) : shr R H f o ≤ 60 := by
  unfold shr
  split
  · exact Nat.div_le_self _ _
  · omega
theorem c_X10_share (G : qG) (l : Launch) {μ : Mem} {S : St} (h : CAt μ S) (x u : Int32) : CtrI G l M_X10_share [.ref (qB G + 0), .int x, .int u] μ (QP μ S (qShare S x u)) := by
  refine m_enterI [some (.ref (qB G + 0)), some (.int x), some (.int u)] (by decide +kernel) rfl (Nat.le_of_ble_eq_true rfl) (fun X hE hR => ?_)
  have hR : qR X = rm_X10_share := hR
  have hE : EI G X _ (some .int) := hE
  show Zm G X cX10_share RX10 _ 0 [some (.ref (qB G + 0)), some (.int x), some (.int u)] []
  obtain ⟨c0, c1, c2, c3, c4, c5, c6, c7, c8, c9⟩ := id h
  have h6 := c0.2.2.1.1
  refine z_aload_0 iX10_share_0 ?_
  refine m_getR iX10_share_1 g_10_29 rfl ?_
  refine z_iload_1 iX10_share_4 ?_
  refine m_callVi iX10_share_5 l_10_119 f_X7_hasFencer (c_X7_hasFencer G _ rfl c3.1 (by omega) x) rfl rfl rfl (Nat.le_of_ble_eq_true rfl) hR ft_X10_share_X7_hasFencer ⟨rfl, rfl⟩ ?_
  rintro r μ1 ⟨rfl, ⟨rfl, f, hf, rfl⟩ | ⟨rfl, hn⟩⟩
  · refine z_if_ne iX10_share_8 (fun q => ?_) (fun q => ?_)
    · refine z_aload_0 iX10_share_13 ?_
      refine m_getR iX10_share_14 g_10_70 rfl ?_
      refine z_iload_1 iX10_share_17 ?_
      refine m_callVv iX10_share_18 l_10_251 f_X2_findShare (c_X2_findShare G _ c0.2.2.1 c0.2.2.2.1 c3 c4 hf) rfl rfl rfl (Nat.le_of_ble_eq_true rfl) hR ft_X10_share_X2_findShare ⟨rfl, rfl⟩ ?_
      rintro μ2 ⟨hF, e2, e3⟩
      have hb : sumN (shr (sR S) (sH S) f) (rFc (sR S)) ≤ 1000000 := by
        have h1 := sumN_le (f := shr (sR S) (sH S) f) (g := fun _ => 60) (rFc (sR S)) (fun i _ => shr_le _ _ _ _)
        have h2 : ∀ n, sumN (fun _ => 60) n = 60 * n := by
          intro n
          induction n with
          | zero => rfl
          | succ n ih => simp [sumN, ih]; omega
        rw [h2] at h1
        omega
      refine z_aload_0 iX10_share_21 ?_
      refine m_getR iX10_share_22 g_10_70 rfl ?_
      refine z_iload_2 iX10_share_25 ?_
      refine m_callVi iX10_share_26 l_10_254 f_X2_told (c_X2_told G _ e2 e3 hb (by decide) (by decide)) rfl rfl rfl (Nat.le_of_ble_eq_true rfl) hR ft_X10_share_X2_told ⟨rfl, rfl⟩ ?_
      rintro r μ3 ⟨rfl, rfl⟩
      refine m_iret hE iX10_share_29 (QP.of h hF (fun a z => by unfold scr; simp at z; omega) ?_)
      unfold qShare; rw [idx_some (by omega) hf]
    · exact absurd q nI10
  · refine z_if_ne iX10_share_8 (fun q => ?_) (fun q => ?_)
    · exact absurd nI00 q
    · refine z_iconst (x := -1) iX10_share_11 (by decide) ?_
      exact m_iret hE iX10_share_12 (QP.rf h (by unfold qShare; rw [idx_none hn]))
def rs1 (s : Nat → Nat → Int32) (a b t : Nat) : Bool := decide (s t b ≤ s a b) && decide (s a b ≤ s a t)
def rsB (R : Rl) (i j k : Nat) : Bool := rs1 (sl R i j) (k / 3) (k % 3) 0 && (rs1 (sl R i j) (k / 3) (k % 3) 1 && rs1 (sl R i j) (k / 3) (k % 3) 2)
theorem rsB_iff {R : Rl} {i j k : Nat} : rsB R i j k = true ↔ rsP (sl R i j) (k / 3) (k % 3) := by
  unfold rsB rs1 rsP
  simp only [Bool.and_eq_true, decide_eq_true_eq]
  constructor
  · rintro ⟨h0, h1, h2⟩ t ht
    rcases (show t = 0 ∨ t = 1 ∨ t = 2 by omega) with rfl | rfl | rfl
    · exact h0
    · exact h1
    · exact h2
  · intro h
    exact ⟨h 0 (by decide), h 1 (by decide), h 2 (by decide)⟩
def rsV (k : Nat) : Int32 := nI (10 * (k / 3) + k % 3)
def vRests (S : St) (i j k : Nat) : Int32 := if k = 0 then nI (cnt (rsB (sR S) i j) 9) else fstV (rsB (sR S) i j) rsV 9
theorem c_X10_rests (G : qG) (l : Launch) {μ : Mem} {S : St} (h : CAt μ S) (x y z : Int32) : CtrI G l M_X10_rests [.ref (qB G + 0), .int x, .int y, .int z] μ (QP μ S (qPair S x y z 2 (vRests S))) := by
  refine m_enterI [some (.ref (qB G + 0)), some (.int x), some (.int y), some (.int z), none] (by decide +kernel) rfl (Nat.le_of_ble_eq_true rfl) (fun X hE hR => ?_)
  have hR : qR X = rm_X10_rests := hR
  have hE : EI G X _ (some .int) := hE
  show Zm G X cX10_rests RX10 _ 0 [some (.ref (qB G + 0)), some (.int x), some (.int y), some (.int z), none] []
  obtain ⟨c0, c1, c2, c3, c4, c5, c6, c7, c8, c9⟩ := id h
  have h6 := c0.2.2.1.1
  refine z_aload_0 iX10_rests_0 ?_
  refine z_iload_1 iX10_rests_1 ?_
  refine z_iload_2 iX10_rests_2 ?_
  refine z_iload_3 iX10_rests_3 ?_
  refine z_iconst iX10_rests_4 kI_1 ?_
  refine m_callVi iX10_rests_5 l_10_164 f_X10_refusalOfPair (c_X10_refusalOfPair G _ h x y z (by decide)) rfl rfl rfl (Nat.le_of_ble_eq_true rfl) hR ft_X10_rests_X10_refusalOfPair ⟨rfl, rfl⟩ ?_
  rintro r μ1 ⟨rfl, ⟨rfl, hn⟩ | ⟨i, j, hi, hj, rfl, rfl, ⟨rfl, ho⟩ | ⟨rfl, hij, k, hk, rfl⟩⟩⟩
  · refine z_istore_4 iX10_rests_8 rfl ?_
    refine z_iload_4 iX10_rests_10 ?_
    refine z_bipush (x := -9) iX10_rests_12 (by decide) ?_
    refine z_icmp_eq iX10_rests_14 (fun q => ?_) (fun q => ?_)
    · exact absurd q (by decide)
    · refine z_iload_4 iX10_rests_17 ?_
      exact m_iret hE iX10_rests_19 (QP.rf h (qPair_no hn).symm)
  · refine z_istore_4 iX10_rests_8 rfl ?_
    refine z_iload_4 iX10_rests_10 ?_
    refine z_bipush (x := -9) iX10_rests_12 (by decide) ?_
    refine z_icmp_eq iX10_rests_14 (fun q => ?_) (fun q => ?_)
    · exact absurd q (by decide)
    · refine z_iload_4 iX10_rests_17 ?_
      exact m_iret hE iX10_rests_19 (QP.rf h (qPair_out h6 hi hj ho).symm)
  · have e := qPair_in (v := vRests S) h6 hi hj hij hk (by decide)
    refine z_istore_4 iX10_rests_8 rfl ?_
    refine z_iload_4 iX10_rests_10 ?_
    refine z_bipush (x := -9) iX10_rests_12 (by decide) ?_
    refine z_icmp_eq iX10_rests_14 (fun q => ?_) (fun q => ?_)
    · refine z_aload_0 iX10_rests_20 ?_
      refine m_getR iX10_rests_21 g_10_70 rfl ?_
      refine z_iload_1 iX10_rests_24 ?_
      refine z_iload_2 iX10_rests_25 ?_
      refine m_callVv iX10_rests_26 l_10_258 f_X2_findRests (c_X2_findRests (p := rsB (sR S) i j) G _ c0.2.2.1 c3 hi hj (fun k hk => rsB_iff)) rfl rfl rfl (Nat.le_of_ble_eq_true rfl) hR ft_X10_rests_X2_findRests ⟨rfl, rfl⟩ ?_
      rintro μ2 ⟨hF, e4, e5⟩
      have hsc : ∀ a, a ∈ [35, 36, 123, 124] → scr a ∧ a ≠ 125 := fun a z => by unfold scr; simp at z; omega
      refine z_iload_3 iX10_rests_29 ?_
      refine z_if_neN iX10_rests_30 (by omega) (fun q4 => ?_) (fun q4 => ?_)
      · refine z_aload_0 iX10_rests_43 ?_
        refine m_getR iX10_rests_44 g_10_70 rfl ?_
        refine m_getI iX10_rests_47 g_10_264 rfl ?_
        refine z_top (e5) ?_
        refine m_iret hE iX10_rests_50 (QP.of h hF hsc ?_)
        rw [e]; unfold vRests; rw [if_neg q4]; rfl
      · refine z_aload_0 iX10_rests_33 ?_
        refine m_getR iX10_rests_34 g_10_70 rfl ?_
        refine m_getI iX10_rests_37 g_10_261 rfl ?_
        refine z_top (e4) ?_
        refine z_goto iX10_rests_40 ?_
        refine m_iret hE iX10_rests_50 (QP.of h hF hsc ?_)
        rw [e]; unfold vRests; rw [if_pos q4]
    · exact absurd rfl q
def clB (S : St) (i j s : Nat) : Bool := decide (sumN (fun t => bitN s t * takn (feOf (sR S) (sH S) i) (feOf (sR S) (sH S) j) t) 6 < sumN (fun t => bitN s t * made (feOf (sR S) (sH S) i) (feOf (sR S) (sH S) j) t) 6)
def clA (S : St) (i j x : Nat) : Nat := sumN (fun s => if clB S i j s then wgt s x else 0) 64
def vCloud (S : St) (u : Int32) (i j x : Nat) : Int32 := nI ((if u = 0 then 1000000 else clA S i j x) / Nat.gcd 1000000 (clA S i j x))
theorem clA_le {S : St} {i j x : Nat} (hx : x ≤ 10) : clA S i j x ≤ 1000000 := by
  rw [← wgt_sum x (by omega)]
  refine sumN_le 64 (fun s _ => ?_)
  split
  · exact Nat.le_refl _
  · exact Nat.zero_le _
theorem c_X10_clouded (G : qG) (l : Launch) {μ : Mem} {S : St} (h : CAt μ S) (x y z u : Int32) : CtrI G l M_X10_clouded [.ref (qB G + 0), .int x, .int y, .int z, .int u] μ (QP μ S (qPair S x y z 11 (vCloud S u))) := by
  refine m_enterI [some (.ref (qB G + 0)), some (.int x), some (.int y), some (.int z), some (.int u), none] (by decide +kernel) rfl (Nat.le_of_ble_eq_true rfl) (fun X hE hR => ?_)
  have hR : qR X = rm_X10_clouded := hR
  have hE : EI G X _ (some .int) := hE
  show Zm G X cX10_clouded RX10 _ 0 [some (.ref (qB G + 0)), some (.int x), some (.int y), some (.int z), some (.int u), none] []
  obtain ⟨c0, c1, c2, c3, c4, c5, c6, c7, c8, c9⟩ := id h
  have h6 := c0.2.2.1.1
  refine z_aload_0 iX10_clouded_0 ?_
  refine z_iload_1 iX10_clouded_1 ?_
  refine z_iload_2 iX10_clouded_2 ?_
  refine z_iload_3 iX10_clouded_3 ?_
  refine z_bipush iX10_clouded_4 kB_10 ?_
  refine m_callVi iX10_clouded_6 l_10_164 f_X10_refusalOfPair (c_X10_refusalOfPair G _ h x y z (by decide)) rfl rfl rfl (Nat.le_of_ble_eq_true rfl) hR ft_X10_clouded_X10_refusalOfPair ⟨rfl, rfl⟩ ?_
  rintro r μ1 ⟨rfl, ⟨rfl, hn⟩ | ⟨i, j, hi, hj, rfl, rfl, ⟨rfl, ho⟩ | ⟨rfl, hij, k, hk, rfl⟩⟩⟩
  · refine z_istore_5 iX10_clouded_9 rfl ?_
    refine z_iload_5 iX10_clouded_11 ?_
    refine z_bipush (x := -9) iX10_clouded_13 (by decide) ?_
    refine z_icmp_eq iX10_clouded_15 (fun q => ?_) (fun q => ?_)
    · exact absurd q (by decide)
    · refine z_iload_5 iX10_clouded_18 ?_
      exact m_iret hE iX10_clouded_20 (QP.rf h (qPair_no hn).symm)
  · refine z_istore_5 iX10_clouded_9 rfl ?_
    refine z_iload_5 iX10_clouded_11 ?_
    refine z_bipush (x := -9) iX10_clouded_13 (by decide) ?_
    refine z_icmp_eq iX10_clouded_15 (fun q => ?_) (fun q => ?_)
    · exact absurd q (by decide)
    · refine z_iload_5 iX10_clouded_18 ?_
      exact m_iret hE iX10_clouded_20 (QP.rf h (qPair_out h6 hi hj ho).symm)
  · have e := qPair_in (v := vCloud S u) h6 hi hj hij hk (by decide)
    refine z_istore_5 iX10_clouded_9 rfl ?_
    refine z_iload_5 iX10_clouded_11 ?_
    refine z_bipush (x := -9) iX10_clouded_13 (by decide) ?_
    refine z_icmp_eq iX10_clouded_15 (fun q => ?_) (fun q => ?_)
    · refine z_aload_0 iX10_clouded_21 ?_
      refine m_getR iX10_clouded_22 g_10_70 rfl ?_
      refine z_iload_1 iX10_clouded_25 ?_
      refine z_iload_2 iX10_clouded_26 ?_
      refine z_iload_3 iX10_clouded_27 ?_
      refine m_callVv iX10_clouded_28 l_10_267 f_X2_findClouded (c_X2_findClouded (p := clB S i j) G _ c0.2.2.1 c0.2.2.2.1 c3 c4 hi hj (by omega) (fun s hs => by unfold clB clP; exact decide_eq_true_iff)) rfl rfl rfl (Nat.le_of_ble_eq_true rfl) hR ft_X10_clouded_X2_findClouded ⟨rfl, rfl⟩ ?_
      rintro μ2 ⟨hF, e2, e3⟩
      refine z_aload_0 iX10_clouded_31 ?_
      refine m_getR iX10_clouded_32 g_10_70 rfl ?_
      refine z_iload_4 iX10_clouded_35 ?_
      refine m_callVi iX10_clouded_37 l_10_254 f_X2_told (c_X2_told G _ e2 e3 (clA_le (S := S) (i := i) (j := j) (x := k) (by omega)) (by decide) (by decide)) rfl rfl rfl (Nat.le_of_ble_eq_true rfl) hR ft_X10_clouded_X2_told ⟨rfl, rfl⟩ ?_
      rintro r μ3 ⟨rfl, rfl⟩
      refine m_iret hE iX10_clouded_40 (QP.of h hF (fun a z => by unfold scr; simp at z; omega) ?_)
      rw [e]; rfl
    · exact absurd rfl q

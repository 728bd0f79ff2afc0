/-! THE CLASS'S CALLS: undo, sightings, slots, seed -/
def aUndo (S : St) : Int32 × St := match sN S with
  | 0 => (-3, S)
  | n + 1 => (nI n, setHA S (sA S n) n (sA S))
theorem c_X10_undo (G : qG) (l : Launch) {μ : Mem} {S : St} (h : CAt μ S) : CtrI G l M_X10_undo [.ref (qB G + 0)] μ (CP μ (aUndo S)) := by
  refine m_enterI [some (.ref (qB G + 0))] (by decide +kernel) rfl (Nat.le_of_ble_eq_true rfl) (fun X hE hR => ?_)
  have hR : qR X = rm_X10_undo := hR
  have hE : EI G X _ (some .int) := hE
  show Zm G X cX10_undo RX10 _ 0 [some (.ref (qB G + 0))] []
  obtain ⟨c0, c1, c2, c3, c4, c5, c6, c7, c8, c9⟩ := id h
  have h14 := c0.2.2.2.2.1
  refine z_aload_0 iX10_undo_0 ?_
  refine m_getR iX10_undo_1 g_10_54 rfl ?_
  refine m_getI iX10_undo_4 g_10_202 rfl ?_
  refine z_top (c5.2.1) ?_
  cases hn : sN S with
  | zero =>
    have e : aUndo S = (-3, S) := by unfold aUndo; rw [hn]
    refine z_if_neN iX10_undo_7 (by omega) (fun q => absurd rfl q) (fun _ => ?_)
    refine z_bipush (x := -3) iX10_undo_10 (by decide) ?_
    exact m_iret hE iX10_undo_12 ⟨by rw [e], by rw [e]; exact h, MSame.rf⟩
  | succ n =>
    have e : aUndo S = (nI n, setHA S (sA S n) n (sA S)) := by unfold aUndo; rw [hn]
    refine z_if_neN iX10_undo_7 (by omega) (fun _ => ?_) (fun q => by omega)
    rw [hn] at c5
    refine z_aload_0 iX10_undo_13 ?_
    refine m_getR iX10_undo_14 g_10_54 rfl ?_
    refine z_aload_0 iX10_undo_17 ?_
    refine m_getR iX10_undo_18 g_10_44 rfl ?_
    refine m_getR iX10_undo_21 g_10_103 rfl ?_
    refine m_callVv iX10_undo_24 l_10_205 f_X0_takeBack (c_X0_takeBack G _ c0.2.2.1 c5) rfl rfl rfl (Nat.le_of_ble_eq_true rfl) hR ft_X10_undo_X0_takeBack ⟨rfl, rfl⟩ ?_
    rintro μ2 ⟨hF, hA, hH⟩
    refine z_aload_0 iX10_undo_27 ?_
    refine m_getR iX10_undo_28 g_10_54 rfl ?_
    refine m_getI iX10_undo_31 g_10_202 rfl ?_
    refine z_top (hA.2.1) ?_
    have k0 : ∀ {a : Nat}, a ≠ 61 → ¬ (38 ≤ a ∧ a ≤ 41) → μ2.1 a = μ.1 a := fun {a} q1 q2 => hF.1 a (fun z => by simp at z; omega)
    refine m_iret hE iX10_undo_34 ⟨by rw [e], ?_, hF.ms (by decide)⟩
    rw [e]
    exact ⟨⟨c0.1, c0.2.1, c0.2.2.1, c0.2.2.2.2.2.1 n (by omega), (by show n ≤ 14; omega), (fun k hk => c0.2.2.2.2.2.1 k (by have hk' : k < n := hk; omega)), c0.2.2.2.2.2.2⟩, by rw [k0 (by omega) (by omega)]; exact c1, fun i hi => by rw [k0 (by omega) (by omega)]; exact c2 i hi, c3.kept c0.2.2.1 (fun a h1 h2 => k0 (by omega) (by omega)), hH, hA, SlotAt.kept c6 (fun a h1 h2 => k0 (by omega) (by omega)), c7.kept (by rw [k0 (by omega) (by omega)]) (k0 (by omega) (by omega)) (k0 (by omega) (by omega)), by rw [hF.2]; exact c8, by rw [k0 (by omega) (by omega)]; exact c9⟩
def setSe (S : St) (n : Nat) (sf sh : Nat → Nat) : St := (S.1, S.2.1, S.2.2.1, S.2.2.2.1, (n, sf, sh), S.2.2.2.2.2)
theorem CAt.seen {μ μ' : Mem} {S : St} {n : Nat} {sf sh : Nat → Nat} (h : CAt μ S) (hF : Fr [125, 128, 129] μ μ') (hs : SeenAt μ' n sf sh) : CAt μ' (setSe S n sf sh) ∧ MSame μ μ' := by
  obtain ⟨c0, c1, c2, c3, c4, c5, c6, c7, c8, c9⟩ := h
  have k0 : ∀ {a : Nat}, a ≠ 125 → a ≠ 128 → a ≠ 129 → μ'.1 a = μ.1 a := fun {a} q1 q2 q3 => hF.1 a (fun z => by simp at z; omega)
  exact ⟨⟨⟨c0.1, c0.2.1, c0.2.2.1, c0.2.2.2.1, c0.2.2.2.2.1, c0.2.2.2.2.2.1, c0.2.2.2.2.2.2.1, hs.1, fun k hk => (hs.2.2 k hk).2.2⟩, by rw [k0 (by omega) (by omega) (by omega)]; exact c1, fun i hi => by rw [k0 (by omega) (by omega) (by omega)]; exact c2 i hi, c3.kept c0.2.2.1 (fun a h1 h2 => k0 (by omega) (by omega) (by omega)), c4.row (fun i hi => k0 (by omega) (by omega) (by omega)), c5.kept (by rw [k0 (by omega) (by omega) (by omega)]) (fun a h1 h2 => k0 (by omega) (by omega) (by omega)) (by rw [hF.2]), SlotAt.kept c6 (fun a h1 h2 => k0 (by omega) (by omega) (by omega)), hs, by rw [hF.2]; exact c8, by rw [k0 (by omega) (by omega) (by omega)]; exact c9⟩, hF.ms (by decide)⟩
def aSee (S : St) (x y : Int32) : Int32 × St := match idx x (rFc (sR S)) with
  | none => (-1, S)
  | some f => match idx y 10 with
    | none => (-2, S)
    | some k => if 6 ≤ sNs S then (-4, S) else (nI (sNs S + 1), setSe S (sNs S + 1) (updN (sSf S) (sNs S) f) (updN (sSh S) (sNs S) k))
theorem c_X10_see (G : qG) (l : Launch) {μ : Mem} {S : St} (h : CAt μ S) (x y : Int32) : CtrI G l M_X10_see [.ref (qB G + 0), .int x, .int y] μ (CP μ (aSee S x y)) := by
  refine m_enterI [some (.ref (qB G + 0)), some (.int x), some (.int y)] (by decide +kernel) rfl (Nat.le_of_ble_eq_true rfl) (fun X hE hR => ?_)
  have hR : qR X = rm_X10_see := hR
  have hE : EI G X _ (some .int) := hE
  show Zm G X cX10_see RX10 _ 0 [some (.ref (qB G + 0)), some (.int x), some (.int y)] []
  obtain ⟨c0, c1, c2, c3, c4, c5, c6, c7, c8, c9⟩ := id h
  have h6 := c0.2.2.1.1
  have hns := c7.1
  refine z_aload_0 iX10_see_0 ?_
  refine m_getR iX10_see_1 g_10_29 rfl ?_
  refine z_iload_1 iX10_see_4 ?_
  refine m_callVi iX10_see_5 l_10_119 f_X7_hasFencer (c_X7_hasFencer G _ rfl c3.1 (by omega) x) rfl rfl rfl (Nat.le_of_ble_eq_true rfl) hR ft_X10_see_X7_hasFencer ⟨rfl, rfl⟩ ?_
  rintro r μ1 ⟨rfl, ⟨rfl, f, hf, rfl⟩ | ⟨rfl, hn⟩⟩
  · have ei := idx_some (n := rFc (sR S)) (f := f) (by omega) hf
    refine z_if_ne iX10_see_8 (fun q => ?_) (fun q => ?_)
    · refine z_iload_2 iX10_see_13 ?_
      refine z_if_lt iX10_see_14 (fun q2 => ?_) (fun q2 => ?_)
      · have e : aSee S (nI f) y = (-2, S) := by unfold aSee; rw [ei, idx_neg q2]
        refine z_bipush (x := -2) iX10_see_23 (by decide) ?_
        exact m_iret hE iX10_see_25 ⟨by rw [e], by rw [e]; exact h, MSame.rf⟩
      · obtain ⟨k, hk, rfl⟩ := nI_of q2
        refine z_iload_2 iX10_see_17 ?_
        refine z_bipush iX10_see_18 kB_9 ?_
        refine z_icmp_leN iX10_see_20 (by omega) (by omega) (fun q3 => ?_) (fun q3 => ?_)
        · have ej : idx (nI k) 10 = some k := idx_some (by decide) (by omega)
          refine z_aload_0 iX10_see_26 ?_
          refine m_getR iX10_see_27 g_10_77 rfl ?_
          refine m_getI iX10_see_30 g_10_238 rfl ?_
          refine z_top (c7.2.1) ?_
          refine z_bipush iX10_see_33 kB_6 ?_
          refine z_icmp_ltN iX10_see_35 (by omega) (by omega) (fun q4 => ?_) (fun q4 => ?_)
          · have e : aSee S (nI f) (nI k) = (nI (sNs S + 1), setSe S (sNs S + 1) (updN (sSf S) (sNs S) f) (updN (sSh S) (sNs S) k)) := by unfold aSee; rw [ei, ej]; exact if_neg (by omega)
            refine z_aload_0 iX10_see_41 ?_
            refine m_getR iX10_see_42 g_10_77 rfl ?_
            refine z_iload_1 iX10_see_45 ?_
            refine z_iload_2 iX10_see_46 ?_
            refine m_callVv iX10_see_47 l_10_239 f_X9_add (c_X9_add G _ c7 q4 (by omega) (by omega)) rfl rfl rfl (Nat.le_of_ble_eq_true rfl) hR ft_X10_see_X9_add ⟨rfl, rfl⟩ ?_
            rintro μ2 ⟨hF, hs⟩
            refine z_aload_0 iX10_see_50 ?_
            refine m_getR iX10_see_51 g_10_77 rfl ?_
            refine m_getI iX10_see_54 g_10_238 rfl ?_
            refine z_top (hs.2.1) ?_
            exact m_iret hE iX10_see_57 ⟨by rw [e], by rw [e]; exact (h.seen hF hs).1, (h.seen hF hs).2⟩
          · have e : aSee S (nI f) (nI k) = (-4, S) := by unfold aSee; rw [ei, ej]; exact if_pos (by omega)
            refine z_bipush (x := -4) iX10_see_38 (by decide) ?_
            exact m_iret hE iX10_see_40 ⟨by rw [e], by rw [e]; exact h, MSame.rf⟩
        · have e : aSee S (nI f) (nI k) = (-2, S) := by unfold aSee; rw [ei, idx_big hk (by omega)]
          refine z_bipush (x := -2) iX10_see_23 (by decide) ?_
          exact m_iret hE iX10_see_25 ⟨by rw [e], by rw [e]; exact h, MSame.rf⟩
    · exact absurd q nI10
  · have e : aSee S x y = (-1, S) := by unfold aSee; rw [idx_none hn]
    refine z_if_ne iX10_see_8 (fun q => ?_) (fun q => ?_)
    · exact absurd nI00 q
    · refine z_iconst (x := -1) iX10_see_11 (by decide) ?_
      exact m_iret hE iX10_see_12 ⟨by rw [e], by rw [e]; exact h, MSame.rf⟩
def aUnsee (S : St) : Int32 × St := (nI (sNs S), setSe S 0 (sSf S) (sSh S))
theorem c_X10_unsee (G : qG) (l : Launch) {μ : Mem} {S : St} (h : CAt μ S) : CtrI G l M_X10_unsee [.ref (qB G + 0)] μ (CP μ (aUnsee S)) := by
  refine m_enterI [some (.ref (qB G + 0)), none] (by decide +kernel) rfl (Nat.le_of_ble_eq_true rfl) (fun X hE hR => ?_)
  have hR : qR X = rm_X10_unsee := hR
  have hE : EI G X _ (some .int) := hE
  show Zm G X cX10_unsee RX10 _ 0 [some (.ref (qB G + 0)), none] []
  obtain ⟨c0, c1, c2, c3, c4, c5, c6, c7, c8, c9⟩ := id h
  refine z_aload_0 iX10_unsee_0 ?_
  refine m_getR iX10_unsee_1 g_10_77 rfl ?_
  refine m_getI iX10_unsee_4 g_10_238 rfl ?_
  refine z_top (c7.2.1) ?_
  refine z_istore_1 iX10_unsee_7 rfl ?_
  refine z_aload_0 iX10_unsee_8 ?_
  refine m_getR iX10_unsee_9 g_10_77 rfl ?_
  refine z_iconst iX10_unsee_12 kI_0 ?_
  refine m_putI iX10_unsee_13 p_10_238 rfl ?_
  refine z_iload_1 iX10_unsee_16 ?_
  have hs := h.seen (μ' := mw μ 125 4 (nI 0)) (n := 0) (sf := sSf S) (sh := sSh S) (Fr.rf.mw _ _ (by decide)) ⟨by decide, mw_same _ _ _ _, fun k hk => absurd hk (Nat.not_lt_zero k)⟩
  exact m_iret hE iX10_unsee_17 ⟨rfl, hs.1, hs.2⟩
def setSd (S : St) (v : Int64) : St := (S.1, S.2.1, S.2.2.1, S.2.2.2.1, S.2.2.2.2.1, v)
theorem CAt.seed {μ : Mem} {S : St} (h : CAt μ S) (v : Int64) : CAt (mwL μ 0 v) (setSd S v) ∧ MSame μ (mwL μ 0 v) := by
  obtain ⟨c0, c1, c2, c3, c4, c5, c6, c7, c8, c9⟩ := h
  exact ⟨⟨c0, c1, c2, c3, c4, c5, c6, c7, rfl, c9⟩, fun a ha => ⟨rfl, if_neg (by omega)⟩⟩
theorem sd_class : ∀ i : Nat, i ≠ 14 → ([some (some 1), none, some (some 2), some (some 18), some (some 19), some (some 35), some (some 37), some (some 49), some (some 61), some (some 119), some (some 123), some (some 125), some (some 130), some (some 131), some none] : List (Option (Option Nat)))[i]? ≠ some (some none) := by
  intro i hi
  by_cases z : i < 15
  · rcases (show i = 0 ∨ i = 1 ∨ i = 2 ∨ i = 3 ∨ i = 4 ∨ i = 5 ∨ i = 6 ∨ i = 7 ∨ i = 8 ∨ i = 9 ∨ i = 10 ∨ i = 11 ∨ i = 12 ∨ i = 13 ∨ i = 14 by omega) with rfl | rfl | rfl | rfl | rfl | rfl | rfl | rfl | rfl | rfl | rfl | rfl | rfl | rfl | rfl <;> first | exact absurd rfl hi | (intro q; cases q)
  · rw [List.getElem?_eq_none (by simp; omega)]
    intro q; cases q
theorem c_X10_seed (G : qG) (l : Launch) {μ : Mem} {S : St} (h : CAt μ S) (v : Int64) : CtrL G l M_X10_seed [.ref (qB G + 0), .long v] μ (fun r μ' => r = sSd S ∧ CAt μ' (setSd S v) ∧ MSame μ μ') := by
  refine m_enterL [some (.ref (qB G + 0)), some (.long v), none, none, none] (by decide +kernel) rfl (Nat.le_of_ble_eq_true rfl) rfl (fun X hE hR => ?_)
  have hR : qR X = rm_X10_seed := hR
  show Zm G X cX10_seed RX10 _ 0 [some (.ref (qB G + 0)), some (.long v), none, none, none] []
  obtain ⟨c0, c1, c2, c3, c4, c5, c6, c7, c8, c9⟩ := id h
  refine z_aload_0 iX10_seed_0 ?_
  refine m_getL iX10_seed_1 g_10_271 rfl ?_
  refine z_lstore_3 iX10_seed_4 rfl ?_
  refine z_aload_0 iX10_seed_5 ?_
  refine z_lload_1 iX10_seed_6 ?_
  refine m_putL iX10_seed_7 g_10_271 (by decide +kernel) (by decide +kernel) rfl rfl sd_class ?_
  refine z_lload_3 iX10_seed_10 ?_
  exact m_lret hE iX10_seed_11 ⟨c8, (h.seed v).1, (h.seed v).2⟩
def setKp (S : St) (K : Nat → Bool) (KH : Nat → Hd) : St := (S.1, S.2.1, S.2.2.1, (K, KH), S.2.2.2.2)
def aKeep (S : St) (x : Int32) : Int32 × St := match idx x 2 with
  | none => (-1, S)
  | some k => (nI (hDy (sH S)), setKp S (fun j => if j = k then true else sK S j) (fun j => if j = k then sH S else sKH S j))
theorem isHold_slot : ∀ k, k < 2 → isHold (132 + 4 * k) := by
  intro k hk
  rcases (show k = 0 ∨ k = 1 by omega) with rfl | rfl <;> exact ⟨rfl, rfl, rfl, rfl, rfl, rfl, rfl, rfl⟩
theorem c_X10_keep (G : qG) (l : Launch) {μ : Mem} {S : St} (h : CAt μ S) (x : Int32) : CtrI G l M_X10_keep [.ref (qB G + 0), .int x] μ (CP μ (aKeep S x)) := by
  refine m_enterI [some (.ref (qB G + 0)), some (.int x)] (by decide +kernel) rfl (Nat.le_of_ble_eq_true rfl) (fun X hE hR => ?_)
  have hR : qR X = rm_X10_keep := hR
  have hE : EI G X _ (some .int) := hE
  show Zm G X cX10_keep RX10 _ 0 [some (.ref (qB G + 0)), some (.int x)] []
  obtain ⟨c0, c1, c2, c3, c4, c5, c6, c7, c8, c9⟩ := id h
  refine z_iload_1 iX10_keep_0 ?_
  refine z_if_lt iX10_keep_1 (fun q => ?_) (fun q => ?_)
  · have e : aKeep S x = (-1, S) := by unfold aKeep; rw [idx_neg q]
    refine z_iconst (x := -1) iX10_keep_9 (by decide) ?_
    exact m_iret hE iX10_keep_10 ⟨by rw [e], by rw [e]; exact h, MSame.rf⟩
  · obtain ⟨k, hk, rfl⟩ := nI_of q
    refine z_iload_1 iX10_keep_4 ?_
    refine z_iconst iX10_keep_5 kI_2 ?_
    refine z_icmp_ltN iX10_keep_6 (by omega) (by omega) (fun q2 => ?_) (fun q2 => ?_)
    · have e : aKeep S (nI k) = (nI (hDy (sH S)), setKp S (fun j => if j = k then true else sK S j) (fun j => if j = k then sH S else sKH S j)) := by unfold aKeep; rw [idx_some (by decide) q2]
      refine z_aload_0 iX10_keep_11 ?_
      refine m_getR iX10_keep_12 g_10_83 rfl ?_
      refine z_iload_1 iX10_keep_15 ?_
      refine m_aaldN iX10_keep_16 rfl (by decide) q2 ?_
      refine z_aload_0 iX10_keep_17 ?_
      refine m_getR iX10_keep_18 g_10_44 rfl ?_
      refine m_getR iX10_keep_21 g_10_103 rfl ?_
      refine m_callVv iX10_keep_24 l_10_230 f_X5_copyFrom (c_X5_copyFrom G _ (isHold_slot k q2) isHold_38 (by omega)) (isHold_slot k q2).2.2.2.2.2.2.2 rfl rfl (Nat.le_of_ble_eq_true rfl) hR ft_X10_keep_X5_copyFrom ⟨rfl, rfl⟩ ?_
      rintro μ2 ⟨hF, hc⟩
      have hk0 := hc _ _ c4 c0.2.2.1
      have k0 : ∀ {a : Nat}, ¬ (132 + 4 * k ≤ a ∧ a ≤ 132 + 4 * k + 3) → μ2.1 a = μ.1 a := fun {a} q => hF.1 a (fun z => by simp at z; omega)
      have hH2 : HoldAt μ2 38 (sR S) (sH S) := c4.row (fun i hi => k0 (by omega))
      have hd : (mw μ2 131 k (nI 1)).1 38 3 = nI (hDy (sH S)) := by rw [mw_ne _ _ (Or.inl (by decide))]; exact hH2.2.2.2
      refine z_aload_0 iX10_keep_27 ?_
      refine m_getR iX10_keep_28 g_10_87 rfl ?_
      refine z_iload_1 iX10_keep_31 ?_
      refine z_iconst iX10_keep_32 kI_1 ?_
      refine m_zastN iX10_keep_33 rfl q2 (by decide) ?_
      refine z_aload_0 iX10_keep_34 ?_
      refine m_getR iX10_keep_35 g_10_44 rfl ?_
      refine m_getR iX10_keep_38 g_10_103 rfl ?_
      refine m_getI iX10_keep_41 g_10_292 rfl ?_
      refine z_top (hd) ?_
      have k1 : ∀ {a : Nat}, a ≠ 131 → ¬ (132 + 4 * k ≤ a ∧ a ≤ 132 + 4 * k + 3) → (mw μ2 131 k (nI 1)).1 a = μ.1 a := fun {a} q1 q2 => by rw [mw_other _ _ q1, k0 q2]
      refine m_iret hE iX10_keep_44 ⟨by rw [e], ?_, fun a ha => ⟨k1 (by omega) (by omega), by show μ2.2.1 a = _; rw [hF.2]⟩⟩
      rw [e]
      refine ⟨⟨c0.1, c0.2.1, c0.2.2.1, c0.2.2.2.1, c0.2.2.2.2.1, c0.2.2.2.2.2.1, ?_, c0.2.2.2.2.2.2.2⟩, by rw [k1 (by omega) (by omega)]; exact c1, fun i hi => by rw [k1 (by omega) (by omega)]; exact c2 i hi, c3.kept c0.2.2.1 (fun a h1 h2 => k1 (by omega) (by omega)), c4.row (fun i hi => k1 (by omega) (by omega)), c5.kept (by rw [k1 (by omega) (by omega)]) (fun a h1 h2 => k1 (by omega) (by omega)) (by show μ2.2.2 = _; rw [hF.2]), ?_, c7.kept (by rw [k1 (by omega) (by omega)]) (k1 (by omega) (by omega)) (k1 (by omega) (by omega)), by show μ2.2.1 0 = _; rw [hF.2]; exact c8, by rw [k1 (by omega) (by omega)]; exact c9⟩
      · intro j hj hjk
        show HdOK (sR S) (if j = k then sH S else sKH S j)
        have hjk' : (if j = k then true else sK S j) = true := hjk
        by_cases ej : j = k
        · rw [if_pos ej]; exact c0.2.2.2.1
        · rw [if_neg ej] at hjk' ⊢; exact c0.2.2.2.2.2.2.1 j hj hjk'
      · intro j hj
        show (mw μ2 131 k (nI 1)).1 131 j = nI (if (if j = k then true else sK S j) = true then 1 else 0) ∧ ((if j = k then true else sK S j) = true → HoldAt (mw μ2 131 k (nI 1)) (132 + 4 * j) (sR S) (if j = k then sH S else sKH S j))
        by_cases ej : j = k
        · subst ej
          have e1 : (if j = j then true else sK S j) = true := if_pos rfl
          have e2 : (if j = j then sH S else sKH S j) = sH S := if_pos rfl
          rw [e1, e2]
          exact ⟨by rw [mw_same]; rfl, fun _ => HoldAt.row (μ' := mw μ2 131 j (nI 1)) hk0 (fun i hi => mw_other _ _ (by omega))⟩
        · rw [if_neg ej, if_neg ej, mw_ne _ _ (Or.inr ej), k0 (by omega)]
          exact ⟨(c6 j hj).1, fun z => ((c6 j hj).2 z).row (fun i hi => k1 (by omega) (by omega))⟩
    · have e : aKeep S (nI k) = (-1, S) := by unfold aKeep; rw [idx_big hk q2]
      refine z_iconst (x := -1) iX10_keep_9 (by decide) ?_
      exact m_iret hE iX10_keep_10 ⟨by rw [e], by rw [e]; exact h, MSame.rf⟩
def aAgain (S : St) (x : Int32) : Int32 × St := match idx x 2 with
  | none => (-1, S)
  | some k => if sK S k then (nI (hDy (sKH S k)), setHA S (sKH S k) 0 (sA S)) else (-3, S)
theorem c_X10_again (G : qG) (l : Launch) {μ : Mem} {S : St} (h : CAt μ S) (x : Int32) : CtrI G l M_X10_again [.ref (qB G + 0), .int x] μ (CP μ (aAgain S x)) := by
  refine m_enterI [some (.ref (qB G + 0)), some (.int x)] (by decide +kernel) rfl (Nat.le_of_ble_eq_true rfl) (fun X hE hR => ?_)
  have hR : qR X = rm_X10_again := hR
  have hE : EI G X _ (some .int) := hE
  show Zm G X cX10_again RX10 _ 0 [some (.ref (qB G + 0)), some (.int x)] []
  obtain ⟨c0, c1, c2, c3, c4, c5, c6, c7, c8, c9⟩ := id h
  refine z_iload_1 iX10_again_0 ?_
  refine z_if_lt iX10_again_1 (fun q => ?_) (fun q => ?_)
  · have e : aAgain S x = (-1, S) := by unfold aAgain; rw [idx_neg q]
    refine z_iconst (x := -1) iX10_again_9 (by decide) ?_
    exact m_iret hE iX10_again_10 ⟨by rw [e], by rw [e]; exact h, MSame.rf⟩
  · obtain ⟨k, hk, rfl⟩ := nI_of q
    refine z_iload_1 iX10_again_4 ?_
    refine z_iconst iX10_again_5 kI_2 ?_
    refine z_icmp_ltN iX10_again_6 (by omega) (by omega) (fun q2 => ?_) (fun q2 => ?_)
    · have ei : idx (nI k) 2 = some k := idx_some (by decide) q2
      refine z_aload_0 iX10_again_11 ?_
      refine m_getR iX10_again_12 g_10_87 rfl ?_
      refine z_iload_1 iX10_again_15 ?_
      refine m_zaldN iX10_again_16 rfl q2 ?_
      refine z_top ((c6 k q2).1) ?_
      cases hK : sK S k with
      | true =>
        have e : aAgain S (nI k) = (nI (hDy (sKH S k)), setHA S (sKH S k) 0 (sA S)) := by unfold aAgain; rw [ei]; simp [hK]
        refine z_if_ne iX10_again_17 (fun q3 => ?_) (fun q3 => ?_)
        · refine z_aload_0 iX10_again_23 ?_
          refine m_getR iX10_again_24 g_10_44 rfl ?_
          refine m_getR iX10_again_27 g_10_103 rfl ?_
          refine z_aload_0 iX10_again_30 ?_
          refine m_getR iX10_again_31 g_10_83 rfl ?_
          refine z_iload_1 iX10_again_34 ?_
          refine m_aaldN iX10_again_35 rfl (by decide) q2 ?_
          refine m_callVv iX10_again_36 l_10_230 f_X5_copyFrom (c_X5_copyFrom G _ isHold_38 (isHold_slot k q2) (by omega)) rfl rfl rfl (Nat.le_of_ble_eq_true rfl) hR ft_X10_again_X5_copyFrom ⟨rfl, rfl⟩ ?_
          rintro μ2 ⟨hF, hc⟩
          have hk0 := hc _ _ ((c6 k q2).2 hK) c0.2.2.1
          have k0 : ∀ {a : Nat}, ¬ (38 ≤ a ∧ a ≤ 41) → μ2.1 a = μ.1 a := fun {a} q => hF.1 a (fun z => by simp at z; omega)
          refine z_aload_0 iX10_again_39 ?_
          refine m_getR iX10_again_40 g_10_54 rfl ?_
          refine m_callVv iX10_again_43 l_10_110 f_X0_forget (c_X0_forget G _) rfl rfl rfl (Nat.le_of_ble_eq_true rfl) hR ft_X10_again_X0_forget ⟨rfl, rfl⟩ ?_
          rintro μ3 rfl
          refine z_aload_0 iX10_again_46 ?_
          refine m_getR iX10_again_47 g_10_44 rfl ?_
          refine m_getR iX10_again_50 g_10_103 rfl ?_
          refine m_getI iX10_again_53 g_10_292 rfl ?_
          refine z_top ((mw_ne _ _ (Or.inl (by decide))).trans hk0.2.2.2) ?_
          have k1 : ∀ {a : Nat}, a ≠ 61 → ¬ (38 ≤ a ∧ a ≤ 41) → (mw μ2 61 1 (nI 0)).1 a = μ.1 a := fun {a} q1 q2 => by rw [mw_other _ _ q1, k0 q2]
          refine m_iret hE iX10_again_56 ⟨by rw [e], ?_, fun a ha => ⟨k1 (by omega) (by omega), by show μ2.2.1 a = _; rw [hF.2]⟩⟩
          rw [e]
          refine ⟨⟨c0.1, c0.2.1, c0.2.2.1, c0.2.2.2.2.2.2.1 k q2 hK, Nat.zero_le _, (fun j hj => absurd hj (Nat.not_lt_zero j)), c0.2.2.2.2.2.2⟩, by rw [k1 (by omega) (by omega)]; exact c1, fun i hi => by rw [k1 (by omega) (by omega)]; exact c2 i hi, c3.kept c0.2.2.1 (fun a h1 h2 => k1 (by omega) (by omega)), hk0.row (fun i hi => mw_other _ _ (by omega)), ⟨Nat.zero_le _, mw_same _ _ _ _, ?_, fun j hj => absurd hj (Nat.not_lt_zero j)⟩, SlotAt.kept c6 (fun a h1 h2 => k1 (by omega) (by omega)), c7.kept (by rw [k1 (by omega) (by omega)]) (k1 (by omega) (by omega)) (k1 (by omega) (by omega)), by show μ2.2.1 0 = _; rw [hF.2]; exact c8, by rw [k1 (by omega) (by omega)]; exact c9⟩
          have hp : (mw μ2 61 1 (nI 0)).2.2 = μ.2.2 := by show μ2.2.2 = _; rw [hF.2]
          exact ⟨fun j hj => by rw [hp]; exact c5.2.2.1.1 j hj, fun j j' hj hj' z => c5.2.2.1.2 j j' hj hj' (by rw [hp] at z; exact z)⟩
        · exact absurd q3 nI10
      | false =>
        have e : aAgain S (nI k) = (-3, S) := by unfold aAgain; rw [ei]; simp [hK]
        refine z_if_ne iX10_again_17 (fun q3 => ?_) (fun q3 => ?_)
        · exact absurd nI00 q3
        · refine z_bipush (x := -3) iX10_again_20 (by decide) ?_
          exact m_iret hE iX10_again_22 ⟨by rw [e], by rw [e]; exact h, MSame.rf⟩
    · have e : aAgain S (nI k) = (-1, S) := by unfold aAgain; rw [idx_big hk q2]
      refine z_iconst (x := -1) iX10_again_9 (by decide) ?_
      exact m_iret hE iX10_again_10 ⟨by rw [e], by rw [e]; exact h, MSame.rf⟩

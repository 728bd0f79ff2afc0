/-! THE WHOLE STATE: text; roll, holdings; row of acts; slots; sightings; seed. What the class's cells hold of it -/
abbrev St : Type := (Nat × (Nat → Nat)) × (Rl × Hd) × (Nat × (Nat → Hd)) × ((Nat → Bool) × (Nat → Hd)) × (Nat × (Nat → Nat) × (Nat → Nat)) × Int64
def sLn (S : St) : Nat := S.1.1
def sTx (S : St) : Nat → Nat := S.1.2
def sR (S : St) : Rl := S.2.1.1
def sH (S : St) : Hd := S.2.1.2
def sN (S : St) : Nat := S.2.2.1.1
def sA (S : St) : Nat → Hd := S.2.2.1.2
def sK (S : St) : Nat → Bool := S.2.2.2.1.1
def sKH (S : St) : Nat → Hd := S.2.2.2.1.2
def sNs (S : St) : Nat := S.2.2.2.2.1.1
def sSf (S : St) : Nat → Nat := S.2.2.2.2.1.2.1
def sSh (S : St) : Nat → Nat := S.2.2.2.2.1.2.2
def sSd (S : St) : Int64 := S.2.2.2.2.2
def SOK (S : St) : Prop := sLn S ≤ 52 ∧ (∀ i, i < sLn S → sTx S i < 256) ∧ RlOK (sR S) ∧ HdOK (sR S) (sH S) ∧ sN S ≤ 14 ∧ (∀ k, k < sN S → HdOK (sR S) (sA S k)) ∧ (∀ k, k < 2 → sK S k = true → HdOK (sR S) (sKH S k)) ∧ sNs S ≤ 6 ∧ ∀ k, k < sNs S → sSf S k < 6 ∧ sSh S k ≤ 9
def CAt (μ : Mem) (S : St) : Prop := SOK S ∧ μ.1 0 1 = nI (sLn S) ∧ (∀ i, i < sLn S → μ.1 1 i = nI (sTx S i)) ∧ RollAt μ (sR S) ∧ HoldAt μ 38 (sR S) (sH S) ∧ ActsAt μ (sR S) (sN S) (sA S) ∧ (∀ k, k < 2 → μ.1 131 k = nI (if sK S k then 1 else 0) ∧ (sK S k = true → HoldAt μ (132 + 4 * k) (sR S) (sKH S k))) ∧ SeenAt μ (sNs S) (sSf S) (sSh S) ∧ μ.2.1 0 = sSd S ∧ μ.1 126 0 = nI 0
/-- the reference's cells stay -/
def MSame (μ μ' : Mem) : Prop := ∀ a, 140 ≤ a → μ'.1 a = μ.1 a ∧ μ'.2.1 a = μ.2.1 a
theorem MSame.rf {μ : Mem} : MSame μ μ := fun _ _ => ⟨rfl, rfl⟩
theorem MSame.trans {μ μ' μ'' : Mem} (h1 : MSame μ μ') (h2 : MSame μ' μ'') : MSame μ μ'' := fun a h => ⟨(h2 a h).1.trans (h1 a h).1, (h2 a h).2.trans (h1 a h).2⟩
theorem Fr.ms {S : List Nat} {μ μ' : Mem} (h : Fr S μ μ') (hs : ∀ a, a ∈ S → a < 140) : MSame μ μ' := fun a ha => ⟨h.1 a (fun q => by have := hs a q; omega), by rw [h.2]⟩
theorem mw_ms {μ : Mem} {a k : Nat} {x : Int32} (h : a < 140) : MSame μ (mw μ a k x) := fun b hb => ⟨mw_other _ _ (by omega), rfl⟩
/-- rows that hold nothing between calls -/
def scr (a : Nat) : Prop := (2 ≤ a ∧ a ≤ 18) ∨ a = 35 ∨ a = 36 ∨ (43 ≤ a ∧ a ≤ 48) ∨ (50 ≤ a ∧ a ≤ 53) ∨ (55 ≤ a ∧ a ≤ 60) ∨ (119 ≤ a ∧ a ≤ 125) ∨ a = 127
theorem CAt.kept {μ μ' : Mem} {S : St} (h : CAt μ S) (he : ∀ a, a < 140 → ¬ scr a → μ'.1 a = μ.1 a) (h4 : μ'.1 125 4 = μ.1 125 4) (hl : μ'.2.1 0 = μ.2.1 0) (hp : μ'.2.2 = μ.2.2) : CAt μ' S := by
  obtain ⟨c0, c1, c2, c3, c4, c5, c6, c7, c8, c9⟩ := h
  have n0 : ∀ {a : Nat}, (a = 0 ∨ a = 1 ∨ (19 ≤ a ∧ a ≤ 34) ∨ (38 ≤ a ∧ a ≤ 41) ∨ (61 ≤ a ∧ a ≤ 118) ∨ a = 126 ∨ (128 ≤ a ∧ a ≤ 139)) → μ'.1 a = μ.1 a := fun {a} q => he a (by omega) (fun z => by unfold scr at z; omega)
  refine ⟨c0, by rw [n0 (by omega)]; exact c1, fun i hi => by rw [n0 (by omega)]; exact c2 i hi, c3.kept c0.2.2.1 (fun a h1 h2 => n0 (by omega)), c4.row (fun i hi => n0 (by omega)), ?_, fun k hk => ⟨by rw [n0 (by omega)]; exact (c6 k hk).1, fun q => ((c6 k hk).2 q).row (fun i hi => n0 (by omega))⟩, ?_, by rw [hl]; exact c8, by rw [n0 (by omega)]; exact c9⟩
  · obtain ⟨a1, a2, a3, a4⟩ := c5
    refine ⟨a1, by rw [n0 (by omega)]; exact a2, ⟨fun k hk => by rw [hp]; exact a3.1 k hk, fun k k' hk hk' q => a3.2 k k' hk hk' (by rw [hp] at q; exact q)⟩, fun k hk => ?_⟩
    rw [hp]
    obtain ⟨j, hj, ej⟩ := a3.1 k (by omega)
    exact (a4 k hk).row (fun i hi => n0 (by omega))
  · obtain ⟨a1, a2, a3⟩ := c7
    exact ⟨a1, h4.trans a2, fun k hk => by rw [n0 (a := 128) (by omega), n0 (a := 129) (by omega)]; exact a3 k hk⟩
theorem CAt.fr {μ μ' : Mem} {S : St} {L : List Nat} (h : CAt μ S) (hF : Fr L μ μ') (hL : ∀ a, a ∈ L → scr a ∧ a ≠ 125) : CAt μ' S :=
  h.kept (fun a _ ha => hF.1 a (fun q => ha (hL a q).1)) (congrFun (hF.1 125 (fun q => (hL 125 q).2 rfl)) 4) (by rw [hF.2]) (by rw [hF.2])
/-- a call that changes nothing that is told -/
def QP (μ : Mem) (S : St) (v : Int32) : Int32 → Mem → Prop := fun r μ' => r = v ∧ CAt μ' S ∧ MSame μ μ'
theorem QP.of {μ μ' : Mem} {S : St} {L : List Nat} {v r : Int32} (h : CAt μ S) (hF : Fr L μ μ') (hL : ∀ a, a ∈ L → scr a ∧ a ≠ 125) (hr : r = v) : QP μ S v r μ' := ⟨hr, h.fr hF hL, hF.ms (fun a q => by have := (hL a q).1; unfold scr at this; omega)⟩
theorem QP.rf {μ : Mem} {S : St} {v r : Int32} (h : CAt μ S) (hr : r = v) : QP μ S v r μ := ⟨hr, h, MSame.rf⟩
/-- a number within -/
def idx (x : Int32) (n : Nat) : Option Nat := if 0 ≤ x ∧ x.toNatClampNeg < n then some x.toNatClampNeg else none
theorem idx_some {n f : Nat} (hn : n < 2 ^ 31) (hf : f < n) : idx (nI f) n = some f := by
  unfold idx
  rw [nI_clamp (by omega), if_pos ⟨nI_pos' (by omega), hf⟩]
theorem idx_none {x : Int32} {n : Nat} (h : ∀ f, f < n → x ≠ nI f) : idx x n = none := by
  unfold idx
  rw [if_neg]
  rintro ⟨h0, h1⟩
  have : ¬ x < 0 := Int32.not_lt.mpr h0
  obtain ⟨k, hk, rfl⟩ := nI_of this
  rw [nI_clamp hk] at h1
  exact h k h1 rfl
theorem idx_neg {x : Int32} {n : Nat} (h : x < 0) : idx x n = none := by
  unfold idx
  rw [if_neg (fun z => absurd z.1 (Int32.not_le.mpr h))]
theorem idx_big {n f : Nat} (hf : f < 2 ^ 31) (h : n ≤ f) : idx (nI f) n = none := by
  unfold idx
  rw [nI_clamp hf, if_neg (fun z => by omega)]
/-! the calls on the text -/
def aWrite (S : St) (x : Int32) : Int32 × St := match idx x 256 with
  | none => (-2, S)
  | some c => if 52 ≤ sLn S then (-4, S) else (nI (sLn S + 1), ((sLn S + 1, updN (sTx S) (sLn S) c), S.2))
def CP (μ : Mem) (q : Int32 × St) : Int32 → Mem → Prop := fun r μ' => r = q.1 ∧ CAt μ' q.2 ∧ MSame μ μ'
theorem c_X10_write (G : qG) (l : Launch) {μ : Mem} {S : St} (h : CAt μ S) (x : Int32) : CtrI G l M_X10_write [.ref (qB G + 0), .int x] μ (CP μ (aWrite S x)) := by
  refine m_enterI [some (.ref (qB G + 0)), some (.int x)] (by decide +kernel) rfl (Nat.le_of_ble_eq_true rfl) (fun X hE hR => ?_)
  have hR : qR X = rm_X10_write := hR
  have hE : EI G X _ (some .int) := hE
  show Zm G X cX10_write RX10 _ 0 [some (.ref (qB G + 0)), some (.int x)] []
  obtain ⟨c0, c1, c2, c3, c4, c5, c6, c7, c8, c9⟩ := id h
  have hl := c0.1
  refine z_iload_1 iX10_write_0 ?_
  refine z_if_lt iX10_write_1 (fun h0 => ?_) (fun h0 => ?_)
  · refine z_bipush (x := -2) iX10_write_11 (by decide) ?_
    exact m_iret hE iX10_write_13 ⟨by unfold aWrite; rw [idx_neg h0], by unfold aWrite; rw [idx_neg h0]; exact h, MSame.rf⟩
  · obtain ⟨k, hk, rfl⟩ := nI_of h0
    refine z_iload_1 iX10_write_4 ?_
    refine z_sipush iX10_write_5 kS_255 ?_
    refine z_icmp_leN iX10_write_8 (by omega) (by omega) (fun h1 => ?_) (fun h1 => ?_)
    · have ei : idx (nI k) 256 = some k := idx_some (by decide) (by omega)
      refine z_aload_0 iX10_write_14 ?_
      refine m_getI iX10_write_15 g_10_92 rfl ?_
      refine z_top (c1) ?_
      refine z_bipush iX10_write_18 kB_52 ?_
      refine z_icmp_ltN iX10_write_20 (by omega) (by omega) (fun h2 => ?_) (fun h2 => ?_)
      · refine z_aload_0 iX10_write_26 ?_
        refine m_getR iX10_write_27 g_10_9 rfl ?_
        refine z_aload_0 iX10_write_30 ?_
        refine m_getI iX10_write_31 g_10_92 rfl ?_
        refine z_top (c1) ?_
        refine z_iload_1 iX10_write_34 ?_
        refine m_iastN iX10_write_35 rfl (by omega) ?_
        refine z_aload_0 iX10_write_36 ?_
        refine z_dup iX10_write_37 rfl ?_
        refine m_getI iX10_write_38 g_10_92 rfl ?_
        refine z_top ((mw_ne _ _ (Or.inl (by decide))).trans c1) ?_
        refine z_iconst iX10_write_41 kI_1 ?_
        refine z_iaddN iX10_write_42 ?_
        refine m_putI iX10_write_43 p_10_92 rfl ?_
        refine z_aload_0 iX10_write_46 ?_
        refine m_getI iX10_write_47 g_10_92 rfl ?_
        refine z_top (mw_same _ _ _ _) ?_
        have e : aWrite S (nI k) = (nI (sLn S + 1), ((sLn S + 1, updN (sTx S) (sLn S) k), S.2)) := by unfold aWrite; rw [ei]; exact if_neg (by omega)
        refine m_iret hE iX10_write_50 ⟨by rw [e], ?_, (mw_ms (by decide)).trans (mw_ms (by decide))⟩
        rw [e]
        have k0 : ∀ a, a ≠ 0 → a ≠ 1 → (mw (mw μ 1 (sLn S) (nI k)) 0 1 (nI (sLn S + 1))).1 a = μ.1 a := fun a h1 h2 => by rw [mw_other _ _ h1, mw_other _ _ h2]
        refine ⟨⟨?_, ?_, c0.2.2⟩, mw_same _ _ _ _, ?_, c3.kept c0.2.2.1 (fun a h1 h2 => k0 a (by omega) (by omega)), c4.row (fun i hi => k0 _ (by omega) (by omega)), ?_, fun j hj => ⟨by rw [k0 _ (by omega) (by omega)]; exact (c6 j hj).1, fun q => ((c6 j hj).2 q).row (fun i hi => k0 _ (by omega) (by omega))⟩, ?_, c8, by rw [k0 _ (by omega) (by omega)]; exact c9⟩
        · show sLn S + 1 ≤ 52; omega
        · intro i hi
          show updN (sTx S) (sLn S) k i < 256
          have hi' : i < sLn S + 1 := hi
          unfold updN
          split
          · omega
          · exact c0.2.1 i (by omega)
        · intro i hi
          show _ = nI (updN (sTx S) (sLn S) k i)
          have hi' : i < sLn S + 1 := hi
          unfold updN
          rw [mw_ne _ _ (Or.inl (by decide))]
          by_cases e2 : i = sLn S
          · rw [e2, mw_same, if_pos rfl]
          · rw [mw_ne _ _ (Or.inr e2), if_neg e2]; exact c2 i (by omega)
        · obtain ⟨a1, a2, a3, a4⟩ := c5
          exact ⟨a1, by rw [k0 _ (by omega) (by omega)]; exact a2, a3, fun j hj => (a4 j hj).row (fun i hi => by
            obtain ⟨jj, hjj, ej⟩ := a3.1 j (by show j < 14; have : sN S ≤ 14 := a1; have : j < sN S := hj; omega)
            have e3 : (mw (mw μ 1 (sLn S) (nI k)) 0 1 (nI (sLn S + 1))).2.2 j = μ.2.2 j := rfl
            rw [ej]
            exact k0 _ (by omega) (by omega))⟩
        · obtain ⟨a1, a2, a3⟩ := c7
          exact ⟨a1, by rw [k0 _ (by omega) (by omega)]; exact a2, fun j hj => by rw [k0 128 (by omega) (by omega), k0 129 (by omega) (by omega)]; exact a3 j hj⟩
      · refine z_bipush (x := -4) iX10_write_23 (by decide) ?_
        exact m_iret hE iX10_write_25 ⟨by unfold aWrite; rw [ei]; simp [show 52 ≤ sLn S by omega], by unfold aWrite; rw [ei]; simp [show 52 ≤ sLn S by omega]; exact h, MSame.rf⟩
    · have ei : idx (nI k) 256 = none := idx_big hk (by omega)
      refine z_bipush (x := -2) iX10_write_11 (by decide) ?_
      exact m_iret hE iX10_write_13 ⟨by unfold aWrite; rw [ei], by unfold aWrite; rw [ei]; exact h, MSame.rf⟩
def aWipe (S : St) : Int32 × St := (nI (sLn S), ((0, sTx S), S.2))
theorem c_X10_wipe (G : qG) (l : Launch) {μ : Mem} {S : St} (h : CAt μ S) : CtrI G l M_X10_wipe [.ref (qB G + 0)] μ (CP μ (aWipe S)) := by
  refine m_enterI [some (.ref (qB G + 0)), none] (by decide +kernel) rfl (Nat.le_of_ble_eq_true rfl) (fun X hE hR => ?_)
  have hR : qR X = rm_X10_wipe := hR
  have hE : EI G X _ (some .int) := hE
  show Zm G X cX10_wipe RX10 _ 0 [some (.ref (qB G + 0)), none] []
  obtain ⟨c0, c1, c2, c3, c4, c5, c6, c7, c8, c9⟩ := id h
  refine z_aload_0 iX10_wipe_0 ?_
  refine m_getI iX10_wipe_1 g_10_92 rfl ?_
  refine z_top (c1) ?_
  refine z_istore_1 iX10_wipe_4 rfl ?_
  refine z_aload_0 iX10_wipe_5 ?_
  refine z_iconst iX10_wipe_6 kI_0 ?_
  refine m_putI iX10_wipe_7 p_10_92 rfl ?_
  refine z_iload_1 iX10_wipe_10 ?_
  refine m_iret hE iX10_wipe_11 ⟨rfl, ?_, mw_ms (by decide)⟩
  have k0 : ∀ a, a ≠ 0 → (mw μ 0 1 (nI 0)).1 a = μ.1 a := fun a h1 => mw_other _ _ h1
  refine ⟨⟨Nat.zero_le _, fun i hi => absurd hi (Nat.not_lt_zero i), c0.2.2⟩, mw_same _ _ _ _, fun i hi => absurd hi (Nat.not_lt_zero i), c3.kept c0.2.2.1 (fun a h1 h2 => k0 a (by omega)), c4.row (fun i hi => k0 _ (by omega)), ?_, fun j hj => ⟨by rw [k0 _ (by omega)]; exact (c6 j hj).1, fun q => ((c6 j hj).2 q).row (fun i hi => k0 _ (by omega))⟩, ?_, c8, by rw [k0 _ (by omega)]; exact c9⟩
  · obtain ⟨a1, a2, a3, a4⟩ := c5
    exact ⟨a1, by rw [k0 _ (by omega)]; exact a2, a3, fun j hj => (a4 j hj).row (fun i hi => by
      obtain ⟨jj, hjj, ej⟩ := a3.1 j (by have : sN S ≤ 14 := a1; have : j < sN S := hj; omega)
      have e3 : (mw μ 0 1 (nI 0)).2.2 j = μ.2.2 j := rfl
      rw [ej]
      exact k0 _ (by omega))⟩
  · obtain ⟨a1, a2, a3⟩ := c7
    exact ⟨a1, by rw [k0 _ (by omega)]; exact a2, fun j hj => by rw [k0 128 (by omega), k0 129 (by omega)]; exact a3 j hj⟩
theorem dS_scr : ∀ a, a ∈ dS → scr a ∧ a ≠ 125 := fun a h => by unfold dS at h; unfold scr; simp at h; omega
def qFault (S : St) : Int32 := faultI (rdRun (sTx S) (sLn S) 0 rd0).1
theorem c_X10_fault (G : qG) (l : Launch) {μ : Mem} {S : St} (h : CAt μ S) : CtrI G l M_X10_fault [.ref (qB G + 0)] μ (QP μ S (qFault S)) := by
  refine m_enterI [some (.ref (qB G + 0))] (by decide +kernel) rfl (Nat.le_of_ble_eq_true rfl) (fun X hE hR => ?_)
  have hR : qR X = rm_X10_fault := hR
  have hE : EI G X _ (some .int) := hE
  show Zm G X cX10_fault RX10 _ 0 [some (.ref (qB G + 0))] []
  obtain ⟨c0, c1, c2, c3, c4, c5, c6, c7, c8, c9⟩ := id h
  refine z_aload_0 iX10_fault_0 ?_
  refine m_getR iX10_fault_1 g_10_25 rfl ?_
  refine z_aload_0 iX10_fault_4 ?_
  refine m_getR iX10_fault_5 g_10_9 rfl ?_
  refine z_aload_0 iX10_fault_8 ?_
  refine m_getI iX10_fault_9 g_10_92 rfl ?_
  refine z_top (c1) ?_
  refine m_callVi iX10_fault_12 l_10_96 f_X6_faultOf (c_X6_faultOf G _ c0.1 (fun i hi => ⟨c2 i hi, c0.2.1 i hi⟩)) rfl rfl rfl (Nat.le_of_ble_eq_true rfl) hR ft_X10_fault_X6_faultOf ⟨rfl, rfl⟩ ?_
  rintro r μ1 ⟨hF, rfl, -⟩
  exact m_iret hE iX10_fault_15 (QP.of h hF dS_scr rfl)

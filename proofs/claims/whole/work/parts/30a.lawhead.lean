/-! THE CLAIM OUT OF ONE WALK OF THE LAW'S BODY. Your part is whole_start (and what it stands on); all else here is the same for every law, but numbers. -/
def R_law : String := "FoilBazaarLaw"
def lw_P (b : Addr) (xs : List Int32) (args : Array Value) (s : State) : Prop := args = #[.ref b] ∧ s.IntsAt b xs ∧ xs.length ≤ 320 ∧ (Jvm.Cond.and given_1 narrow_1).before args s = true
def lw_Q (_ : Array Value) (s : State) (o : Outcome) (t : State) : Prop := o = .returned (some (.int 1)) ∧ Framed s o t [] 600000 7302250
def lw_Z (below : List Frame) (a : Array Value) (s : State) : State → Prop := fun t => ∃ o, t.status = .running ∧ Ended t below o ∧ lw_Q a s o t
/-- the law's own end, with 1 on the stack, nothing written that was there before, its room as the claim has it -/
theorem lw_ret {p : Program} {l : Launch} {e : Env} {s : State} {m : MethodId} {below : List Frame} {meth : Method} {c : Code} {b : Nat} (hx : p.tables.exec = Jvm.exec) (hb : c.code = code) (hr : meth.sig.returnType = ret) (hlocks : meth.locks = false) {pc : Nat} {H : Heap} {ls : Array Slot} (hdg : decode code pc = .ok (.ireturn, 1)) : W p l e room_1 s m #[Value.ref b] below meth c H [] 600000 7302250 (lw_Z below #[Value.ref b] s) (F0 m pc ls [.int 1]) := by
  intro T hT X
  obtain ⟨fs, hret, hrun, hended, hW, hframe⟩ := X.leave (v := some (.int 1)) (hlocks := hlocks) (fun h => by rw [hr] at h; cases h)
  have hmeth' : T.vm.method? m = some meth := X.method'
  refine ⟨T.setFrames fs, ?_, .returned (some (.int 1)), hrun, hended, rfl, ⟨_, rfl⟩, hW, hframe⟩
  jvm_step X.here [X.here.top, hx, hb, hdg, hmeth', hr, ret, narrow_b1]
  (try refine ⟨rfl, ?_⟩); (try refine ⟨rfl, ?_⟩)
  first | (intro acts; rw [hret _ acts rfl rfl rfl]) | rw [hret _ _ rfl rfl rfl]
  exact Steps.refl _
/-- what holds at the law's entry: the machine, the code, the tables' words (any of lw_tbl by 'hts w (by decide +kernel)'), the script of L ints xs at the cell b, what the Statement gives of the start (any of its parts by flat_of_before) -/
def lw_At (p : Program) (s : State) (m : MethodId) (meth : Method) (c : Code) (b L : Nat) (xs : Nat → Int32) : Prop :=
  p.tables.exec = Jvm.exec ∧ c.code = code ∧ meth.sig.returnType = ret ∧ c.maxLocals = 4 ∧ s.vm.findClass R_law = some m.cls ∧ (∀ w ∈ lw_tbl, w.before #[Value.ref b] s = true) ∧ va_X b L xs s s.heap ∧ b < s.heap.size ∧ meth.locks = false ∧ (Jvm.Cond.and given_1 narrow_1).before #[Value.ref b] s = true
/-! THE LAW: its rows -/
/-- what a walk of the law's body knows of its room and its script -/
def LwX (G : qG) (X : qX) (b L : Nat) (xs : Nat → Int32) : Prop := qR X = room_1 ∧ va_X b L xs (qS X) (qS X).heap ∧ b < qB G ∧ qB G ≤ (qS X).heap.size
abbrev Zw (G : qG) (X : qX) (μ : Mem) (pc : Nat) (vs : List (Option Value)) (st : List Value) : Prop := Z G X cL_law RL 157 (mc G μ) 157 1308 pc vs st
section LW
variable {G : qG} {X : qX} {cc : ByteArray} {own : String} {n : Nat} {h : Nat → va_E} {k1 k2 pc pc' : Nat} {vs : List (Option Value)} {st : List Value} {b L a : Nat} {xs : Nat → Int32} {μ : Mem}
theorem w_sld {j : Nat} (hX : LwX G X b L xs) (hd : In cc pc (.iaload) 1 pc') (hj : j < L) (hL : L ≤ 320) (kk : Z G X cc own n h k1 k2 pc' vs (.int (xs j) :: st)) : Z G X cc own n h k1 k2 pc vs (.int (nI j) :: .ref b :: st) := by
  obtain ⟨hd, rfl⟩ := hd
  intro hC H locs ls hH hS hLv
  have k := kk hC H locs ls hH hS hLv
  obtain ⟨p, l, e, R, s, m, args, below, meth, c, Q⟩ := X
  obtain ⟨hx, hbb, -⟩ := hC
  obtain ⟨-, x1, x2, x3⟩ := hX
  refine va_sld hx hbb x1 (Nat.lt_of_lt_of_le x2 x3) (Nat.not_le.mpr x2) hS (vp_in_nI hj (by omega)) hd ?_
  rw [nI_clamp (by omega)]
  exact k
theorem w_slen (hX : LwX G X b L xs) (hd : In cc pc (.arraylength) 1 pc') (kk : Z G X cc own n h k1 k2 pc' vs (.int (nI L) :: st)) : Z G X cc own n h k1 k2 pc vs (.ref b :: st) := by
  obtain ⟨hd, rfl⟩ := hd
  intro hC H locs ls hH hS hLv
  have k := kk hC H locs ls hH hS hLv
  obtain ⟨p, l, e, R, s, m, args, below, meth, c, Q⟩ := X
  obtain ⟨hx, hbb, -⟩ := hC
  obtain ⟨-, x1, x2, x3⟩ := hX
  exact va_slen hx hbb x1 (Nat.lt_of_lt_of_le x2 x3) (Nat.not_le.mpr x2) hS hd k
theorem w_tab {dflt : Int} {offs : Array Int} {len k tgt : Nat} {off : Int} (hd : In cc pc (.tableswitch dflt 0 25 offs) len pc') (hk : k < 26) (ho : offs[k]? = some off) (ht : (pc : Int) + off = (tgt : Int)) (kk : Z G X cc own n h k1 k2 tgt vs st) : Z G X cc own n h k1 k2 pc vs (.int (nI k) :: st) := by
  obtain ⟨hd, rfl⟩ := hd
  have e : (nI k).toInt = (k : Int) := nI_toInt (by omega)
  exact Z.row (fun _ _ _ _ _ _ _ _ _ _ _ _ _ _ h1 h2 _ q => lv_tableIn h1 h2 hd (by rw [e]; omega) (by rw [e]; omega) (by rw [e, Int.sub_zero, Int.toNat_natCast]; exact ho) ht q) kk
theorem w_tabOut {dflt : Int} {offs : Array Int} {len k tgt : Nat} (hd : In cc pc (.tableswitch dflt 0 25 offs) len pc') (hk : 26 ≤ k) (hk2 : k < 32) (ht : (pc : Int) + dflt = (tgt : Int)) (kk : Z G X cc own n h k1 k2 tgt vs st) : Z G X cc own n h k1 k2 pc vs (.int (nI k) :: st) := by
  obtain ⟨hd, rfl⟩ := hd
  have e : (nI k).toInt = (k : Int) := nI_toInt (by omega)
  exact Z.row (fun _ _ _ _ _ _ _ _ _ _ _ _ _ _ h1 h2 _ q => lv_tableOut h1 h2 hd (Or.inr (by rw [e]; omega)) ht q) kk
theorem w_bool {x : Int32} {o1 o2 : Int} {p1 p2 p3 p4 p5 : Nat} (h1 : Jn cc pc (.ifCond .eq o1) o1 p1 p3) (h2 : In cc p1 (.iconst 1) 1 p2) (h3 : Jn cc p2 (.goto o2) o2 p5 p4) (h4 : In cc p3 (.iconst 0) 1 p4) (kk : Z G X cc own n h k1 k2 p4 vs (.int (if x = 0 then 0 else 1) :: st)) : Z G X cc own n h k1 k2 pc vs (.int x :: st) :=
  z_if_eq h1 (fun q => z_iconst (x := 0) h4 (by decide) (by rw [if_pos q] at kk; exact kk)) (fun q => z_iconst (x := 1) h2 (by decide) (z_goto h3 (by rw [if_neg q] at kk; exact kk)))
theorem w_callI {idx ci na : Nat} {M : qMI} {As : List Value} {R0 : Room} {st0 : List Value} {P : Int32 → Mem → Prop} (hd : In cc pc (.invokevirtual idx) 3 pc') (hl : Cond.methodLink own idx M.1 ∈ lw_gd) (hM : qMV M ci na) (hc : CtrI G (qL X) M (.ref (qB G + a) :: As) μ P) (hcl : layC a = some ci) (hn : As.length = na) (hs : As.reverse ++ .ref (qB G + a) :: st = st0) (hw : (st.map fun v => v.category).sum ≤ 8) (hR : qR X = R0) (hf : qFit M R0) (hz : q0 M) (h1 : k1 ≤ R0.cells) (h2 : k2 ≤ R0.slots)
    (kk : ∀ (r : Int32) (μ' : Mem), P r μ' → Z G X cc own 157 (mc G μ') k1 k2 pc' vs (.int r :: st)) : Z G X cc own 157 (mc G μ) k1 k2 pc vs st0 := by
  obtain ⟨fds, e⟩ := layC_obj hcl
  refine z_callV hd hl hM hc (lay_lt e) (mc_obj e) hn hs hw hR hf (by rw [hz.1]; exact h1) (by rw [hz.2]; exact h2) ?_
  rintro v n' h' ⟨rfl, μ', rfl, r, rfl, hp⟩
  rw [hz.1, hz.2]
  exact kk r μ' hp
theorem w_callL {idx ci na : Nat} {M : qMI} {As : List Value} {R0 : Room} {st0 : List Value} {P : Int64 → Mem → Prop} (hd : In cc pc (.invokevirtual idx) 3 pc') (hl : Cond.methodLink own idx M.1 ∈ lw_gd) (hM : qMV M ci na) (hc : CtrL G (qL X) M (.ref (qB G + a) :: As) μ P) (hcl : layC a = some ci) (hn : As.length = na) (hs : As.reverse ++ .ref (qB G + a) :: st = st0) (hw : (st.map fun v => v.category).sum ≤ 8) (hR : qR X = R0) (hf : qFit M R0) (hz : q0 M) (h1 : k1 ≤ R0.cells) (h2 : k2 ≤ R0.slots)
    (kk : ∀ (r : Int64) (μ' : Mem), P r μ' → Z G X cc own 157 (mc G μ') k1 k2 pc' vs (.long r :: st)) : Z G X cc own 157 (mc G μ) k1 k2 pc vs st0 := by
  obtain ⟨fds, e⟩ := layC_obj hcl
  refine z_callV hd hl hM hc (lay_lt e) (mc_obj e) hn hs hw hR hf (by rw [hz.1]; exact h1) (by rw [hz.2]; exact h2) ?_
  rintro v n' h' ⟨rfl, μ', rfl, r, rfl, hp⟩
  rw [hz.1, hz.2]
  exact kk r μ' hp
end LW
theorem lw_cmp0 (x : Int64) : lg_cmp x x = 0 := by
  unfold lg_cmp
  simp
theorem lw_lt {L i : Nat} (hL : L ≤ 320) (hi : i ≤ 400) : (nI L - nI 5 < nI i) ↔ ¬ i + 5 ≤ L := by
  by_cases h : 5 ≤ L
  · have e : nI L - nI 5 = nI (L - 5) := by
      obtain ⟨k, rfl⟩ : ∃ k, L = k + 5 := ⟨L - 5, by omega⟩
      rw [← nI_add, show k + 5 - 5 = k by omega]
      rw [Int32.sub_eq_add_neg, Int32.add_assoc, show nI 5 + -nI 5 = 0 by decide, Int32.add_zero]
    rw [e, nI_ltI (by omega) (by omega)]
    omega
  · have hn : nI L - nI 5 < 0 := by
      rcases (show L = 0 ∨ L = 1 ∨ L = 2 ∨ L = 3 ∨ L = 4 by omega) with rfl | rfl | rfl | rfl | rfl <;> decide
    refine ⟨fun _ => by omega, fun _ => Int32.lt_of_lt_of_le hn (nI_pos' (by omega))⟩
theorem lw_and (x : Int32) : ∃ k, k < 32 ∧ x &&& nI 31 = nI k := by
  refine ⟨(x.toBitVec &&& 31#32).toNat, ?_, ?_⟩
  · rw [BitVec.toNat_and]
    exact Nat.lt_of_le_of_lt Nat.and_le_right (by decide)
  · apply Int32.toBitVec_inj.mp
    show x.toBitVec &&& (nI 31).toBitVec = BitVec.ofNat 32 _
    rw [BitVec.ofNat_toNat, BitVec.setWidth_eq]
    rfl

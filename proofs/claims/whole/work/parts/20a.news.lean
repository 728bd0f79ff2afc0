/-! NEW CELLS: rows over a list of cells -/
def dE : va_E := .inr (0, [])
def hL (L : List va_E) : Nat → va_E := fun i => L.getD i dE
theorem hL_push (L : List va_E) (e : va_E) : va_up (hL L) L.length e = hL (L ++ [e]) := by
  funext i
  unfold va_up hL
  rw [List.getD_eq_getElem?_getD, List.getD_eq_getElem?_getD]
  by_cases h : i = L.length
  · rw [if_pos h, h, List.getElem?_append_right (Nat.le_refl _)]; simp
  · rw [if_neg h]
    by_cases h2 : i < L.length
    · rw [List.getElem?_append_left h2]
    · rw [List.getElem?_eq_none (by omega), List.getElem?_eq_none (by rw [List.length_append]; simp; omega)]
theorem hL_set (L : List va_E) (a : Nat) (e : va_E) (ha : a < L.length) : va_up (hL L) a e = hL (L.set a e) := by
  funext i
  unfold va_up hL
  rw [List.getD_eq_getElem?_getD, List.getD_eq_getElem?_getD, List.getElem?_set]
  by_cases h : i = a
  · rw [if_pos h, if_pos h.symm, if_pos ha]; rfl
  · rw [if_neg h, if_neg (fun z => h z.symm)]
theorem hL_get {L : List va_E} {a : Nat} {e : va_E} (h : L[a]? = some e) : a < L.length ∧ hL L a = e := ⟨(List.getElem?_eq_some_iff.mp h).1, by unfold hL; rw [List.getD_eq_getElem?_getD, h]; rfl⟩
abbrev ZL (G : qG) (X : qX) (cc : ByteArray) (own : String) (L : List va_E) (k1 k2 pc : Nat) (vs : List (Option Value)) (st : List Value) : Prop := Z G X cc own L.length (hL L) k1 k2 pc vs st
section ZN
variable {G : qG} {X : qX} {cc : ByteArray} {own : String} {n : Nat} {h : Nat → va_E} {k1 k2 pc pc' : Nat} {vs : List (Option Value)} {st : List Value} {R0 : Room} {L : List va_E}
/-- a row that makes one cell -/
theorem Z.push {st' : List Value} {e1 : va_E} {d : Nat} (hR : qR X = R0) (hk1 : k1 + 1 ≤ R0.cells) (hk2 : k2 + d ≤ R0.slots) (f : ∀ (p : Program) (l : Launch) (e : Env) (R : Room) (s : State) (m : MethodId) (args : Array Value) (below : List Frame) (meth : Method) (c : Code) (Q : State → Prop) (H : Heap) (locs : List Loc) (ls : Array Slot), k1 + 1 ≤ R.cells → k2 + d ≤ R.slots → qC G (p, l, e, R, s, m, args, below, meth, c, Q) cc own vs.length → HP G n h H → (∀ (H1 : Heap), va_at (qD G) vwCl (qB G + n, e1) H1 → H1.size = H.size + 1 → (∀ q : Nat, q < H.size → H1[q]? = H[q]?) → W p l e R s m args below meth c H1 locs (k1 + 1) (k2 + d) Q (F0 m pc' ls (.ref H.size :: st'))) → W p l e R s m args below meth c H locs k1 k2 Q (F0 m pc ls st))
    (kk : Z G X cc own (n + 1) (va_up h n e1) (k1 + 1) (k2 + d) pc' vs (.ref (qB G + n) :: st')) : Z G X cc own n h k1 k2 pc vs st := by
  intro hC H locs ls hH hS hL
  have k := fun H1 q1 q2 => kk hC H1 locs ls q1 q2 hL
  obtain ⟨p, l, e, R, s, m, args, below, meth, c, Q⟩ := X
  have hR : R = R0 := hR
  subst hR
  refine f p l e R s m args below meth c Q H locs ls hk1 hk2 hC hH (fun H1 g1 g2 g3 => ?_)
  have := k H1 (hH.push g1 g2 g3) ⟨by rw [g2]; exact Nat.le_succ_of_le hS.1, fun q q1 q2 => (g3 q (Nat.lt_of_lt_of_le q1 hS.1)).trans (hS.2.1 q q1 q2), hS.2.2⟩
  rw [hH.1]
  exact this
theorem z_newa (t0 : Nat) {atype : ArrayType} {ty : FieldType} {cA : ClassId} {N : Nat} {a0 : vp_A} (hd : In cc pc (.newarray atype) 2 pc') (hty : newarray.typeOf atype = ty) (ht : (qTy G)[t0]? = some (cA, ty)) (hnr : ∀ C, ty ≠ .object C) (hw : Cond.arrayClass ty ∈ lw_gd) (ha : vp_cell cA a0 = arrV cA N (fun _ => defaultValue ty)) (hN : N < 2 ^ 31) (hb : N * componentBytes ty ≤ 536870912) (hR : qR X = R0) (hk1 : k1 + 1 ≤ R0.cells) (hk2 : k2 + N ≤ R0.slots)
    (kk : Z G X cc own (n + 1) (va_up h n (.inl (cA, a0))) (k1 + 1) (k2 + N) pc' vs (.ref (qB G + n) :: st)) : Z G X cc own n h k1 k2 pc vs (.int (nI N) :: st) := by
  obtain ⟨hd, rfl⟩ := hd
  subst hty
  refine Z.push hR hk1 hk2 (fun p l e R s m args below meth c Q H locs ls z1 z2 hC hH kW => ?_) kk
  obtain ⟨hx, hbb, hml, hown, hts, hal, hG, hsz⟩ := hC
  refine va_newaK hx hbb (hts _ hw) rfl hd rfl (nI_pos hN) (nI_clamp hN) hb z1 z2 rfl fun H1 cA' e1 e2 e3 e4 e5 => ?_
  have hra := ((hG.1.moved hal).2 t0 _ ht).2
  have hcA : s.vm.findClass ("[" ++ (newarray.typeOf atype).toString) = some cA := by cases atype <;> exact hra
  cases hcA.symm.trans e5
  refine kW H1 ?_ e2 e3
  show H1[qB G + n]? = some (vp_cell cA a0)
  rw [← hH.1, ha]
  exact e1
theorem z_newc {idx ci : Nat} {fs : List Value} (hd : In cc pc (.new idx) 3 pc') (hci : ci < 12) (hw : Cond.classLink own idx (cT ci).1 ∈ lw_gd) (hfs : ∀ j, j < (cT ci).2.2 → defaultValue (cTy ci j) = vp_V fs j) (hR : qR X = R0) (hk1 : k1 + 1 ≤ R0.cells) (hk2 : k2 + (cT ci).2.2 ≤ R0.slots)
    (kk : Z G X cc own (n + 1) (va_up h n (.inr (ci, fs))) (k1 + 1) (k2 + (cT ci).2.2) pc' vs (.ref (qB G + n) :: st)) : Z G X cc own n h k1 k2 pc vs st := by
  obtain ⟨hd, rfl⟩ := hd
  obtain ⟨c1, c2, c3, c4, c5, c6⟩ := q_cls ci hci
  refine Z.push hR hk1 hk2 (fun p l e R s m args below meth c Q H locs ls z1 z2 hC hH kW => ?_) kk
  obtain ⟨hx, hbb, hml, hown, hts, hal, hG, hsz⟩ := hC
  have hKn := (hG.1.moved hal).1 ci _ c1
  refine W.newcK hx hbb hown (hts _ hw) (hts _ c5) (hts _ c6) rfl hd z1 z2 hKn.2.1 rfl fun H1 kC hkC e1 e2 e3 => ?_
  refine kW H1 ?_ e2 e3
  refine ⟨_, c1, ?_⟩
  show t_OB (qB G + n) _ _ _ H1 _
  rw [← hH.1]
  exact (u_born (cTy ci) hts c2 hKn hkC e1 c3).to hfs
theorem z_anew (t0 ci : Nat) {idx N : Nat} {cA : ClassId} (hd : In cc pc (.anewarray idx) 3 pc') (hci : ci < 12) (ht : (qTy G)[t0]? = some (cA, .object (cT ci).1)) (hw : Cond.classLink own idx (cT ci).1 ∈ lw_gd) (hov : Cond.arrayOver (.object (cT ci).1) ∈ lw_tbl) (hN : N < 2 ^ 20) (hR : qR X = R0) (hk1 : k1 + 1 ≤ R0.cells) (hk2 : k2 + N ≤ R0.slots)
    (kk : Z G X cc own (n + 1) (va_up h n (.inl (cA, N, .inr (.inr (.inr (.inr (fun _ => none))))))) (k1 + 1) (k2 + N) pc' vs (.ref (qB G + n) :: st)) : Z G X cc own n h k1 k2 pc vs (.int (nI N) :: st) := by
  obtain ⟨hd, rfl⟩ := hd
  have hc : (nI N).toNatClampNeg = N := nI_clamp (by omega)
  refine Z.push hR hk1 hk2 (fun p l e R s m args below meth c Q H locs ls z1 z2 hC hH kW => ?_) kk
  obtain ⟨hx, hbb, hml, hown, hts, hal, hG, hsz⟩ := hC
  have hAO : va_AO (cT ci).1 s := va_AO.moved hal (hG.2.2 _ hov)
  refine W.anew hx hbb hown (hts _ hw) hAO.use rfl hd rfl (nI_pos (by omega)) (by rw [hc]; omega) z1 (by rw [hc]; exact z2) (fun cA' kA comp e1 e2 e3 e4 => ?_)
  obtain ⟨kA2, comp2, w1, w2, w3, w4⟩ := ((hG.1.moved hal).2 t0 _ ht).2
  cases w4.symm.trans e1
  rw [hc]
  refine kW _ ?_ (by simp) (fun q hq => by rw [Array.getElem?_push, if_neg (Nat.ne_of_lt hq)])
  show (H.push _)[qB G + n]? = some (vp_cell cA _)
  rw [← hH.1, arrV_new]
  simp
  rfl
/-- the same cells, otherwise written -/
def qEq (G : qG) (e e' : va_E) : Prop := ∀ a H, va_at (qD G) vwCl (a, e) H → va_at (qD G) vwCl (a, e') H
theorem qEq.rf (G : qG) (e : va_E) : qEq G e e := fun _ _ h => h
theorem qEq.refs {G : qG} {cA : ClassId} {N : Nat} {f g : Nat → Option Nat} (h : ∀ j, j < N → f j = g j) : qEq G (.inl (cA, N, .inr (.inr (.inr (.inr f))))) (.inl (cA, N, .inr (.inr (.inr (.inr g))))) := by
  intro a H e
  have e : H[a]? = some (arrV cA N (fun j => va_rf (f j))) := e
  show H[a]? = some (arrV cA N (fun j => va_rf (g j)))
  rw [e]
  unfold arrV
  congr 2
  congr 1
  funext j
  show va_rf (f j.val) = va_rf (g j.val)
  rw [h j.val j.isLt]
theorem Z.conv {h' : Nat → va_E} (he : ∀ i, i < n → qEq G (h i) (h' i)) (kk : Z G X cc own n h' k1 k2 pc vs st) : Z G X cc own n h k1 k2 pc vs st := by
  intro hC H locs ls hH hS hL
  exact kk hC H locs ls ⟨hH.1, fun i hi => he i hi _ _ (hH.2.1 i hi), hH.2.2⟩ hS hL
theorem l_conv {L' : List va_E} (hl : L'.length = L.length) (he : ∀ i, i < L.length → qEq G (hL L i) (hL L' i)) (kk : ZL G X cc own L' k1 k2 pc vs st) : ZL G X cc own L k1 k2 pc vs st := by
  refine Z.conv he ?_
  rw [← hl]
  exact kk
theorem ZL.push {e : va_E} {y : Nat} {L' : List va_E} (hl : L.length = y) (hL' : L ++ [e] = L') (kk : ZL G X cc own L' k1 k2 pc vs (.ref (qB G + y) :: st)) : Z G X cc own (L.length + 1) (va_up (hL L) L.length e) k1 k2 pc vs (.ref (qB G + L.length) :: st) := by
  subst hl hL'
  rw [hL_push]
  have : (L ++ [e]).length = L.length + 1 := by rw [List.length_append]; rfl
  rw [← this]
  exact kk
theorem l_newI {N y : Nat} {L' : List va_E} (hd : In cc pc (.newarray .int) 2 pc') (hN : N < 1000) (hR : qR X = R0) (hk1 : k1 + 1 ≤ R0.cells) (hk2 : k2 + N ≤ R0.slots) (hl : L.length = y) (hL' : L ++ [.inl (qc G 0, N, .inl (fun _ => 0))] = L') (kk : ZL G X cc own L' (k1 + 1) (k2 + N) pc' vs (.ref (qB G + y) :: st)) : ZL G X cc own L k1 k2 pc vs (.int (nI N) :: st) :=
  z_newa 0 hd rfl rfl (fun C h => by cases h) (by decide +kernel) rfl (by omega) (by show N * 4 ≤ _; omega) hR hk1 hk2 (ZL.push hl hL' kk)
theorem l_newZ {N y : Nat} {L' : List va_E} (hd : In cc pc (.newarray .boolean) 2 pc') (hN : N < 1000) (hR : qR X = R0) (hk1 : k1 + 1 ≤ R0.cells) (hk2 : k2 + N ≤ R0.slots) (hl : L.length = y) (hL' : L ++ [.inl (qc G 1, N, .inl (fun _ => 0))] = L') (kk : ZL G X cc own L' (k1 + 1) (k2 + N) pc' vs (.ref (qB G + y) :: st)) : ZL G X cc own L k1 k2 pc vs (.int (nI N) :: st) :=
  z_newa 1 hd rfl rfl (fun C h => by cases h) (by decide +kernel) rfl (by omega) (by show N * 1 ≤ _; omega) hR hk1 hk2 (ZL.push hl hL' kk)
theorem l_newc {idx ci y nf : Nat} {fs : List Value} {L' : List va_E} (hd : In cc pc (.new idx) 3 pc') (hci : ci < 12) (hw : Cond.classLink own idx (cT ci).1 ∈ lw_gd) (hnf : (cT ci).2.2 = nf) (hfs : ∀ j, j < nf → defaultValue (cTy ci j) = vp_V fs j) (hR : qR X = R0) (hk1 : k1 + 1 ≤ R0.cells) (hk2 : k2 + nf ≤ R0.slots) (hl : L.length = y) (hL' : L ++ [.inr (ci, fs)] = L') (kk : ZL G X cc own L' (k1 + 1) (k2 + nf) pc' vs (.ref (qB G + y) :: st)) : ZL G X cc own L k1 k2 pc vs st := by
  subst hnf
  exact z_newc hd hci hw hfs hR hk1 hk2 (ZL.push hl hL' kk)
theorem l_anew (t0 ci : Nat) {idx N y : Nat} {cA : ClassId} {L' : List va_E} (hd : In cc pc (.anewarray idx) 3 pc') (hci : ci < 12) (ht : (qTy G)[t0]? = some (cA, .object (cT ci).1)) (hw : Cond.classLink own idx (cT ci).1 ∈ lw_gd) (hov : Cond.arrayOver (.object (cT ci).1) ∈ lw_tbl) (hN : N < 1000) (hR : qR X = R0) (hk1 : k1 + 1 ≤ R0.cells) (hk2 : k2 + N ≤ R0.slots) (hl : L.length = y) (hL' : L ++ [.inl (cA, N, .inr (.inr (.inr (.inr (fun _ => none)))))] = L') (kk : ZL G X cc own L' (k1 + 1) (k2 + N) pc' vs (.ref (qB G + y) :: st)) : ZL G X cc own L k1 k2 pc vs (.int (nI N) :: st) :=
  z_anew t0 ci hd hci ht hw hov (by omega) hR hk1 hk2 (ZL.push hl hL' kk)
theorem ZL.set {a : Nat} {e : va_E} {L' : List va_E} (ha : a < L.length) (hL' : L.set a e = L') (kk : ZL G X cc own L' k1 k2 pc vs st) : Z G X cc own L.length (va_up (hL L) a e) k1 k2 pc vs st := by
  subst hL'
  rw [hL_set L a e ha]
  have kk : Z G X cc own (L.set a e).length (hL (L.set a e)) k1 k2 pc vs st := kk
  rw [List.length_set] at kk
  exact kk
theorem l_get {a idx ci k : Nat} {fs : List Value} {v : Value} (hd : In cc pc (.getfield idx) 3 pc') (hk : qLk own idx ci k) (he : L[a]? = some (.inr (ci, fs))) (hv : fs[k]? = some v) (kk : ZL G X cc own L k1 k2 pc' vs (v :: st)) : ZL G X cc own L k1 k2 pc vs (.ref (qB G + a) :: st) :=
  z_getG hd hk (hL_get he).1 (hL_get he).2 hv kk
theorem l_put {a idx ci k : Nat} {fs : List Value} {v : Value} {L' : List va_E} (hd : In cc pc (.putfield idx) 3 pc') (hk : qLk own idx ci k) (hfin : ((cT ci).2.1 k).2.2.2 = false) (he : L[a]? = some (.inr (ci, fs))) (hl : k < fs.length) (hn : narrow (cTy ci k) v = v) (hfit : fits (cTy ci k) v = true) (hL' : L.set a (.inr (ci, fs.set k v)) = L') (kk : ZL G X cc own L' k1 k2 pc' vs st) : ZL G X cc own L k1 k2 pc vs (v :: .ref (qB G + a) :: st) :=
  z_putG hd hk hfin (hL_get he).1 (hL_get he).2 hl hn hfit (ZL.set (hL_get he).1 hL' kk)
theorem l_putF {a idx ci k : Nat} {fs : List Value} {v : Value} {L' : List va_E} (hN : qName X = "<init>") (hd : In cc pc (.putfield idx) 3 pc') (hk : qLk own idx ci k) (hfin : ((cT ci).2.1 k).2.2.2 = true) (ho : (cT ci).1 = own) (he : L[a]? = some (.inr (ci, fs))) (hl : k < fs.length) (hn : narrow (cTy ci k) v = v) (hfit : fits (cTy ci k) v = true) (hL' : L.set a (.inr (ci, fs.set k v)) = L') (kk : ZL G X cc own L' k1 k2 pc' vs st) : ZL G X cc own L k1 k2 pc vs (v :: .ref (qB G + a) :: st) :=
  z_putFG hN hd hk hfin ho (hL_get he).1 (hL_get he).2 hl hn hfit (ZL.set (hL_get he).1 hL' kk)
theorem l_aast (t0 ci : Nat) {a b N i : Nat} {cA : ClassId} {f g : Nat → Option Nat} {fs : List Value} {L' : List va_E} (hd : In cc pc (.aastore) 1 pc') (ht : (qTy G)[t0]? = some (cA, .object (cT ci).1)) (hci : ci < 12) (he : L[a]? = some (.inl (cA, N, .inr (.inr (.inr (.inr f)))))) (hbe : L[b]? = some (.inr (ci, fs))) (hi : i < N) (hN : N < 1000) (hg : va_up f i (some (qB G + b)) = g) (hL' : L.set a (.inl (cA, N, .inr (.inr (.inr (.inr g))))) = L') (kk : ZL G X cc own L' k1 k2 pc' vs st) : ZL G X cc own L k1 k2 pc vs (.ref (qB G + b) :: .int (nI i) :: .ref (qB G + a) :: st) := by
  refine z_aastG t0 ci hd ht hci (hL_get he).1 (hL_get he).2 (hL_get hbe).1 (hL_get hbe).2 (vp_in_nI hi (by omega)) ?_
  rw [nI_clamp (by omega), hg]
  exact ZL.set (hL_get he).1 hL' kk
/-- a constructor's contract: from the cells L to the cells L' -/
def CtrX (G : qG) (l : Launch) (M : qMI) (as : List Value) (L L' : List va_E) : Prop := Ctr G l M as L.length (hL L) (fun v n' h' => v = none ∧ n' = L'.length ∧ h' = hL L')
def EX (G : qG) (X : qX) (L' : List va_E) : Prop := qE G X (fun v n' h' => v = none ∧ n' = L'.length ∧ h' = hL L') none
theorem l_enter {l : Launch} {M : qMI} {as : List Value} {L' : List va_E} (vs0 : List (Option Value)) (hy : plainName M.1.cls = true) (hvs : qLoc as ++ List.replicate (M.2.2.1 - (qLoc as).length) none = vs0) (hle : (qLoc as).length ≤ M.2.2.1) (hr : M.2.2.2.1 = none) (body : ∀ X : qX, EX G X L' → qR X = M.2.2.2.2 → qName X = M.1.name → ZL G X M.2.1 M.1.cls L 0 0 0 vs0 []) : CtrX G l M as L L' := q_enter vs0 hy hvs hle (fun X h1 h2 h3 => body X (by rw [hr] at h1; exact h1) h2 h3)
theorem l_ret {L' : List va_E} (hE : EX G X L') (hd : In cc pc (.return_) 1 pc') (hR : qR X = R0) (hk1 : k1 ≤ R0.cells) (hk2 : k2 ≤ R0.slots) (hL' : L = L') : ZL G X cc own L k1 k2 pc vs [] := by
  subst hL'
  exact z_vret hE hd (by rw [hR]; exact hk1) (by rw [hR]; exact hk2) ⟨rfl, rfl, rfl⟩
theorem l_call {idx na a c1 c2 : Nat} {M : qMI} {As : List Value} {st0 : List Value} {L' : List va_E} (hd : In cc pc (.invokespecial idx) 3 pc') (hl : Cond.methodLink own idx M.1 ∈ lw_gd) (hM : qMc M na) (hc : CtrX G (qL X) M (.ref (qB G + a) :: As) L L') (hn : As.length = na) (hs : As.reverse ++ .ref (qB G + a) :: st = st0) (hw : (st.map fun v => v.category).sum ≤ 8) (hR : qR X = R0) (hf : qFit M R0) (e1 : M.2.2.2.2.cells = c1) (e2 : M.2.2.2.2.slots = c2) (hk1 : k1 + c1 ≤ R0.cells) (hk2 : k2 + c2 ≤ R0.slots)
    (kk : ZL G X cc own L' (k1 + c1) (k2 + c2) pc' vs st) : ZL G X cc own L k1 k2 pc vs st0 := by
  subst e1 e2
  refine z_callI hd hl hM hc hn hs hw hR hf hk1 hk2 ?_
  rintro v n' h' ⟨rfl, rfl, rfl⟩
  exact kk
theorem l_callN {idx na a c1 c2 : Nat} {host : String} {M : qMI} {As : List Value} {st0 : List Value} {L' : List va_E} (hd : In cc pc (.invokespecial idx) 3 pc') (hl : Cond.methodLinkNest own idx M.1 host ∈ lw_tbl) (hM : qMc M na) (hc : CtrX G (qL X) M (.ref (qB G + a) :: As) L L') (hn : As.length = na) (hs : As.reverse ++ .ref (qB G + a) :: st = st0) (hw : (st.map fun v => v.category).sum ≤ 8) (hR : qR X = R0) (hf : qFit M R0) (e1 : M.2.2.2.2.cells = c1) (e2 : M.2.2.2.2.slots = c2) (hk1 : k1 + c1 ≤ R0.cells) (hk2 : k2 + c2 ≤ R0.slots)
    (kk : ZL G X cc own L' (k1 + c1) (k2 + c2) pc' vs st) : ZL G X cc own L k1 k2 pc vs st0 := by
  subst e1 e2
  refine z_callIN hd hl hM hc hn hs hw hR hf hk1 hk2 ?_
  rintro v n' h' ⟨rfl, rfl, rfl⟩
  exact kk
end ZN

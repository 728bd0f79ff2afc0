/-! NEW CELLS: a row of rows -/
/-- the state when the outer row and i of its rows are made -/
def mgF (T : State) (cA cI : ClassId) : Nat → State
  | 0 => T.pushCell (arrV cA 6 (fun _ => .null))
  | i + 1 => ((mgF T cA cI i).pushCell (arrV cI 6 (fun _ => .int 0))).setCell T.heap.size ((arrV cA 6 (fun j => if j < i then .ref (T.heap.size + 1 + j) else .null)).setSlot i (.ref (mgF T cA cI i).heap.size))
def mgS (T : State) (cA cI : ClassId) (i : Nat) (U : State) : Prop := U.heap.size = T.heap.size + 1 + i ∧ U.vm = T.vm ∧ U.heap[T.heap.size]? = some (arrV cA 6 (fun j => if j < i then .ref (T.heap.size + 1 + j) else .null)) ∧ (∀ j, j < i → U.heap[T.heap.size + 1 + j]? = some (arrV cI 6 (fun _ => .int 0))) ∧ ∀ q : Nat, q < T.heap.size → U.heap[q]? = T.heap[q]?
theorem mg_lt {a b c : Nat} (h : b = c) (h2 : a < c) : a < b := by omega
theorem mgS.two {T U : State} {cA cI : ClassId} {i : Nat} (h : mgS T cA cI i U) : (U.pushCell (arrV cI 6 (fun _ => .int 0))).heap[T.heap.size]? = some (arrV cA 6 (fun j => if j < i then .ref (T.heap.size + 1 + j) else .null)) := by
  rw [State.heap_pushCell_of_lt (h := mg_lt h.1 (by omega))]
  exact h.2.2.1
theorem mgF_ok (T : State) (cA cI : ClassId) : ∀ i, mgS T cA cI i (mgF T cA cI i)
  | 0 => by
    refine ⟨by simp [mgF], rfl, ?_, fun j hj => absurd hj (Nat.not_lt_zero _), fun q hq => State.heap_pushCell_of_lt (h := hq) ..⟩
    show (T.pushCell (arrV cA 6 (fun _ => .null))).heap[T.heap.size]? = _
    rw [State.heap_pushCell_size]
    congr 2
  | i + 1 => by
    have ih := mgF_ok T cA cI i
    obtain ⟨a1, a2, a3, a4, a5⟩ := id ih
    have hz : ((mgF T cA cI i).pushCell (arrV cI 6 (fun _ => .int 0))).heap.size = T.heap.size + 1 + i + 1 := by simp [a1]
    refine ⟨?_, a2, ?_, fun j hj => ?_, fun q hq => ?_⟩
    · show (((mgF T cA cI i).pushCell (arrV cI 6 (fun _ => .int 0))).setCell _ _).heap.size = _
      rw [size_setCell, hz]
      omega
    · show (((mgF T cA cI i).pushCell (arrV cI 6 (fun _ => .int 0))).setCell _ _).heap[_]? = _
      rw [heapAt_setCell_self _ (mg_lt hz (by omega)), arrV_store]
      congr 2
      funext j
      unfold updV
      by_cases h1 : j = i
      · rw [if_pos h1, if_pos (by omega), a1, h1]
      · rw [if_neg h1]
        show (if j < i then Value.ref (T.heap.size + 1 + j) else Value.null) = _
        by_cases h2 : j < i
        · rw [if_pos h2, if_pos (by omega)]
        · rw [if_neg h2, if_neg (by omega)]
    · show (((mgF T cA cI i).pushCell (arrV cI 6 (fun _ => .int 0))).setCell _ _).heap[_]? = _
      rw [heapAt_setCell_ne _ (show T.heap.size ≠ T.heap.size + 1 + j by omega)]
      by_cases h1 : j = i
      · rw [h1, ← a1]
        exact State.heap_pushCell_size ..
      · rw [State.heap_pushCell_of_lt (h := mg_lt a1 (by omega))]
        exact a4 j (by omega)
    · show (((mgF T cA cI i).pushCell (arrV cI 6 (fun _ => .int 0))).setCell _ _).heap[_]? = _
      rw [heapAt_setCell_ne _ (show T.heap.size ≠ q by omega), State.heap_pushCell_of_lt (h := mg_lt a1 (by omega))]
      exact a5 q hq
theorem mgF_top (T : State) (f : JFrame) (cA cI : ClassId) : ∀ i, mgF (T.setTop f) cA cI i = (mgF T cA cI i).setTop f
  | 0 => rfl
  | i + 1 => by
    show ((mgF (T.setTop f) cA cI i).pushCell _).setCell _ _ = _
    rw [mgF_top T f cA cI i]
    rfl
theorem mgF_std {p : Program} {l : Launch} {e : Env} {R : Room} {s : State} {m : MethodId} {args : Array Value} {below : List Frame} {meth : Method} {c : Code} {T : State} {locs : List Loc} {cells slots : Nat} (X : Stand p l e R s m args below meth c T locs cells slots) (hz : s.heap.size ≤ T.heap.size) (cA cI : ClassId) : ∀ i, Stand p l e R s m args below meth c (mgF T cA cI i) locs (cells + 1 + i) (slots + 6 + 6 * i)
  | 0 => by
    have h := X.pushed (arrV cA 6 (fun _ => .null))
    rw [arrV_size] at h
    exact h
  | i + 1 => by
    have h := ((mgF_std X hz cA cI i).pushed (arrV cI 6 (fun _ => .int 0))).stored (mgF_ok T cA cI i).two i (.ref (mgF T cA cI i).heap.size)
    rw [arrV_size] at h
    have h2 := Stand.forget (locs := locs) (extra := [⟨T.heap.size, i⟩]) h (fun y hy => by
      rw [List.mem_singleton.mp hy]
      exact hz)
    have e1 : slots + 6 + 6 * (i + 1) = slots + 6 + 6 * i + 6 := by omega
    rw [e1]
    exact h2
section MG
variable {E : CtlPost} {e : Env} {d : Bool} {acts : List Action} {s : State}
theorem mg_fit {t : FieldType} (h : t.isReference = true) (a : Addr) : fits t (.ref a) = true ∧ fits t .null = true := by
  cases t <;> first | exact ⟨rfl, rfl⟩ | cases h
theorem mg_one {cI c0 : ClassId} {kI : Class} (hk : s.vm.classes[cI]? = some kI) (hkind : kI.kind = .array c0 .int) (hl : ¬ 6 > e.platform.arrayLengthLimit) (hh : ¬ 6 * 4 > e.platform.maxHeapBytes) (hc : s.heap.size < e.platform.maxCells) (hs : s.slotsUsed + 6 ≤ e.platform.maxSlots) {Q : Addr → Pre} (hq : ∀ acts', Q s.heap.size d acts' (s.pushCell (arrV cI 6 (fun _ => .int 0)))) : wp (multianewarray.make cI [nI 6]) Q E e d acts s := by
  have e6 : (nI 6).toNatClampNeg = 6 := nI_clamp (by decide)
  have n6 : ¬ nI 6 < 0 := nI_pos (by decide)
  rw [multianewarray.make]
  simp only [wp_bind', W.ite, n6, if_false, wp_pure', W.theClass, hk, hkind, Option.some.injEq, exists_eq_left']
  rw [e6]
  refine W.newArray_of hk hkind hl hh hc hs rfl (fun acts' => ?_)
  rw [← arrV_new] at hq
  exact hq acts'
theorem mg_two {cA cI c0 : ClassId} {kA kI : Class} (hkA : s.vm.classes[cA]? = some kA) (hkindA : kA.kind = .array cI (.array .int)) (hk : s.vm.classes[cI]? = some kI) (hkind : kI.kind = .array c0 .int) (hl : ¬ 6 > e.platform.arrayLengthLimit) (hh : ¬ 6 * 4 > e.platform.maxHeapBytes) (hc : s.heap.size + 7 ≤ e.platform.maxCells) (hs : s.slotsUsed + 42 ≤ e.platform.maxSlots) (hu : ∀ i, (mgF s cA cI i).slotsUsed = s.slotsUsed + 6 + 6 * i) {Q : Addr → Pre} (hq : ∀ d' acts', Q s.heap.size d' acts' (mgF s cA cI 6)) : wp (multianewarray.make cA [nI 6, nI 6]) Q E e d acts s := by
  have e6 : (nI 6).toNatClampNeg = 6 := nI_clamp (by decide)
  have n6 : ¬ nI 6 < 0 := nI_pos (by decide)
  have hfind : ([nI 6].find? (· < 0)) = none := by decide
  rw [multianewarray.make]
  simp only [wp_bind', W.ite, n6, if_false, wp_pure', W.theClass, hkA, hkindA, Option.some.injEq, exists_eq_left']
  rw [e6]
  refine W.newArray_of hkA hkindA hl hh (by omega) (by omega) rfl (fun acts1 => ?_)
  simp only [hfind]
  rw [ite_self, wp_bind', Std.Legacy.Range.forIn_eq_forIn_range']
  show wp (forIn (List.range' 0 6 1) PUnit.unit _) _ E e _ _ _
  refine wp_forIn_inv (fun rest s' => ∃ i, i ≤ 6 ∧ rest = List.range' i (6 - i) ∧ s' = mgF s cA cI i) _ _ ⟨0, by omega, rfl, ?_⟩ ?_ ?_
  · show _ = s.pushCell (arrV cA 6 (fun _ => .null))
    rw [← arrV_new]
  · rintro x rest s' d' acts' Q' ⟨i, hi, hl0, rfl⟩ hnext
    have hlt : i < 6 := by
      apply Classical.byContradiction
      intro hn
      rw [show 6 - i = 0 by omega] at hl0
      cases hl0
    rw [show 6 - i = (6 - (i + 1)) + 1 by omega, List.range'_succ] at hl0
    obtain ⟨rfl, rfl⟩ := List.cons.inj hl0
    have ok := mgF_ok s cA cI x
    simp only [wp_bind']
    refine mg_one (by rw [ok.2.1]; exact hk) hkind hl hh (by rw [ok.1]; omega) (by rw [hu]; omega) (fun acts2 => ?_)
    simp only [wp_bind', W.writeLoc, wp_pure']
    refine ⟨_, ok.two, by simp [arrV], by rw [arrV_size]; exact hlt, ?_, hnext _ _ _ ⟨x + 1, hlt, rfl, rfl⟩⟩
    have hv : ((mgF s cA cI x).pushCell (arrV cI 6 (fun _ => .int 0))).vm.classes[cA]? = some kA := by
      show (mgF s cA cI x).vm.classes[cA]? = some kA
      rw [ok.2.1]
      exact hkA
    show State.fitsSlot _ cA .none _ _ = true
    simp [State.fitsSlot, State.slotType?, ok.2.1, hkA, hkindA, (mg_fit (t := .array .int) rfl (mgF s cA cI x).heap.size).1]
  · rintro s' d' acts' ⟨i, hi, hl0, rfl⟩
    have h6 : i = 6 := by
      apply Classical.byContradiction
      intro hn
      rw [show 6 - i = (6 - (i + 1)) + 1 by omega, List.range'_succ] at hl0
      cases hl0
    subst h6
    simp only [wp_pure']
    exact hq _ _
end MG
theorem mgF_used (T : State) (cA cI : ClassId) : ∀ i, (mgF T cA cI i).slotsUsed = T.slotsUsed + 6 + 6 * i
  | 0 => by
    show T.slotsUsed + (arrV cA 6 (fun _ => .null)).slots.size = _
    rw [arrV_size]
  | i + 1 => by
    show (mgF T cA cI i).slotsUsed + (arrV cI 6 (fun _ => .int 0)).slots.size = _
    rw [arrV_size, mgF_used T cA cI i]
    omega
theorem z_multiW {p : Program} {l : Launch} {e : Env} {R : Room} {s : State} {m : MethodId} {args : Array Value} {below : List Frame} {meth : Method} {c : Code} {H : Heap} {locs : List Loc} {cells slots : Nat} {Q : State → Prop} {cc : ByteArray} (hexec : p.tables.exec = Jvm.exec) (hb : c.code = cc) {own : String} {index : Nat} (hown : s.vm.findClass own = some m.cls) (hclink : (Cond.classLink own index "[[I").before args s = true) (hover : (Cond.arrayOver (.array .int)).before args s = true) (harr : (Cond.arrayClass .int).before args s = true) {pc : Nat} {ls : Array Slot} {rest : List Value} (hdg : decode cc pc = .ok (.multianewarray index 2, 4)) (hcells : cells + 7 ≤ R.cells) (hslots : slots + 42 ≤ R.slots) (hH : s.heap.size ≤ H.size)
    (kk : ∀ (cA cI : ClassId) (H1 : Heap), s.vm.findClass "[[I" = some cA → s.vm.findClass "[I" = some cI → H1.size = H.size + 7 → H1[H.size]? = some (arrV cA 6 (fun j => .ref (H.size + 1 + j))) → (∀ j : Nat, j < 6 → H1[H.size + 1 + j]? = some (arrV cI 6 (fun _ => .int 0))) → (∀ q : Nat, q < H.size → H1[q]? = H[q]?) → W p l e R s m args below meth c H1 locs (cells + 7) (slots + 42) Q (F0 m (pc + 4) ls (.ref H.size :: rest))) : W p l e R s m args below meth c H locs cells slots Q (F0 m pc ls (.int (nI 6) :: .int (nI 6) :: rest)) := by
  intro T hT X
  subst hT
  subst hb
  have hpl : e.platform.magicAccessors = ({} : Platform).magicAccessors := by rw [X.admits.platform]
  obtain ⟨cI, cA, kA, hcI, -, hkA, hkindA, hnameA⟩ := arrayOverA_spec hover
  obtain ⟨cI', kI, c0, hcI', hkI, hkindI⟩ := Cond.arrayClass_spec harr
  have eI : cI' = cI := Option.some.inj (hcI'.symm.trans hcI)
  subst eI
  obtain ⟨cB, hfB, hcl⟩ := Cond.classLink_spec hown hclink e.platform hpl
  have eA : cB = cA := Option.some.inj (hfB.symm.trans hnameA)
  subst eA
  obtain ⟨hg1, hw1, hr1⟩ := State.classEntry (e := e) X.warmed hcl
  generalize T.vm.noted m.cls index (.cls cB) = vm1 at hg1 hw1 hr1
  have hal : s.vm.Alike vm1 := hw1.alike
  obtain ⟨kA1, hkA1, heA⟩ := hal.2.2 _ _ hkA
  obtain ⟨kI1, hkI1, heI⟩ := hal.2.2 _ _ hkI
  have hkindA1 : kA1.kind = .array cI' (.array .int) := by rw [heA]; exact hkindA
  have hkindI1 : kI1.kind = .array c0 .int := by rw [heI]; exact hkindI
  obtain ⟨hrc, hrs⟩ := X.roomAbove hcells hslots
  have ok := mgF_ok (T.setVm vm1) cB cI' 6
  have XF := mgF_std (X.noted hw1) hH cB cI' 6
  have hfun : (fun j => if j < 6 then Value.ref ((T.setVm vm1).heap.size + 1 + j) else .null) = fun j => if j < 6 then Value.ref (T.heap.size + 1 + j) else .null := rfl
  have hout : (mgF (T.setVm vm1) cB cI' 6).heap[T.heap.size]? = some (arrV cB 6 (fun j => .ref (T.heap.size + 1 + j))) := by
    refine ok.2.2.1.trans ?_
    congr 1
  obtain ⟨t, a1, b1⟩ := kk cB cI' (mgF (T.setVm vm1) cB cI' 6).heap hnameA hcI (ok.1.trans (by show T.heap.size + 1 + 6 = T.heap.size + 7; omega)) hout (fun j hj => ok.2.2.2.1 j hj) (fun q hq => ok.2.2.2.2 q hq) (mgF (T.setVm vm1) cB cI' 6) rfl XF
  refine ⟨t, ?_, b1⟩
  have hl : ¬ 6 > e.platform.arrayLengthLimit := by rw [Launch.admits_arrayLengthLimit X.admits]; decide
  have hh : ¬ 6 * 4 > e.platform.maxHeapBytes := by rw [Launch.admits_maxHeapBytes X.admits]; decide
  jvm_step X.here [hexec, hdg]
  simp only [multianewarray.sem, wp_bind', W.resolveClassAt_links (State.method?_setTop (F0 m pc ls (.int (nI 6) :: .int (nI 6) :: rest)) X.here.top) hg1]
  rw [W.popN, if_neg (by decide)]
  refine ⟨F0 m pc ls (.int (nI 6) :: .int (nI 6) :: rest), State.topJava?_setTop' (s := T.setVm vm1) _ X.here.top, [.int (nI 6), .int (nI 6)], rest, rfl, rfl, ?_⟩
  simp only [List.mapM_cons, List.mapM_nil, wp_bind', wp_pure']
  refine mg_two (s := ((T.setTop (F0 m pc ls (.int (nI 6) :: .int (nI 6) :: rest))).setVm vm1).setTop (F0 m pc ls rest)) (kA := kA1) (kI := kI1) (c0 := c0) hkA1 hkindA1 hkI1 hkindI1 hl hh hrc hrs (mgF_used _ _ _) (fun d' acts' => ?_)
  have eS : ((T.setTop (F0 m pc ls (.int (nI 6) :: .int (nI 6) :: rest))).setVm vm1).setTop (F0 m pc ls rest) = (T.setVm vm1).setTop (F0 m pc ls rest) := by
    show ((T.setVm vm1).setTop _).setTop _ = _
    rw [State.setTop_setTop]
  have eM : mgF (((T.setTop (F0 m pc ls (.int (nI 6) :: .int (nI 6) :: rest))).setVm vm1).setTop (F0 m pc ls rest)) cB cI' 6 = (mgF (T.setVm vm1) cB cI' 6).setTop (F0 m pc ls rest) := by rw [eS, mgF_top]
  show wp _ _ _ _ _ _ (mgF (((T.setTop (F0 m pc ls (.int (nI 6) :: .int (nI 6) :: rest))).setVm vm1).setTop (F0 m pc ls rest)) cB cI' 6)
  rw [eM]
  simp only [wp_bind', W.mark, W.pushRef, State.topJava?_setTop' _ XF.here.top, Option.some.injEq, exists_eq_left', State.setTop_setTop, State.heap_setTop]
  intro acts
  simp [jvm, XF.here.top]
  exact a1
theorem z_multi {G : qG} {X : qX} {cc : ByteArray} {own : String} {k1 k2 pc : Nat} {vs : List (Option Value)} {st : List Value} {R0 : Room} {L : List va_E} {idx y : Nat} {L' : List va_E} (hd : In cc pc (.multianewarray idx 2) 4 (pc + 4)) (hw : Cond.classLink own idx "[[I" ∈ lw_gd) (hov : Cond.arrayOver (.array .int) ∈ lw_tbl) (hw2 : Cond.arrayClass .int ∈ lw_gd) (hR : qR X = R0) (hk1 : k1 + 7 ≤ R0.cells) (hk2 : k2 + 42 ≤ R0.slots) (hl : L.length = y)
    (hL' : L ++ (.inl (qc G 4, 6, .inr (.inr (.inr (.inr (fun j => some (qB G + (y + 1 + 1 * j))))))) :: List.replicate 6 (.inl (qc G 0, 6, .inl (fun _ => 0)))) = L')
    (kk : ZL G X cc own L' (k1 + 7) (k2 + 42) (pc + 4) vs (.ref (qB G + y) :: st)) : ZL G X cc own L k1 k2 pc vs (.int (nI 6) :: .int (nI 6) :: st) := by
  subst hl hL'
  intro hC H locs ls hH hS hL0
  have k := fun H1 q1 q2 => kk hC H1 locs ls q1 q2 hL0
  obtain ⟨p, l, e, R, s, m, args, below, meth, c, Q⟩ := X
  have hR : R = R0 := hR
  subst hR
  obtain ⟨hx, hbb, hml, hown, hts, hal, hG, hsz⟩ := hC
  have hK := hG.1.moved hal
  refine z_multiW hx hbb hown (hts _ hw) (over_moved hal (hG.2.2 _ hov)) (hts _ hw2) hd.1 hk1 hk2 hS.1 (fun cA cI H1 n1 n2 e0 e1 e2 e3 => ?_)
  have eA : cA = qc G 4 := Option.some.inj (n1.symm.trans (hK.2 4 _ rfl).2)
  have eC : cI = qc G 0 := Option.some.inj (n2.symm.trans (hK.2 0 _ rfl).2)
  subst eA eC
  have hz : H.size = qB G + L.length := hH.1
  rw [hz] at e0 e1 e2 e3
  have := k H1 ⟨?_, fun i hi => ?_, fun q hq => ?_⟩ ⟨by have h9 : s.heap.size ≤ H.size := hS.1; show s.heap.size ≤ H1.size; rw [e0, ← hz]; omega, fun q q1 q2 => (e3 q (by rw [← hz]; exact Nat.lt_of_lt_of_le q1 hS.1)).trans (hS.2.1 q q1 q2), hS.2.2⟩
  · rw [hz]
    exact this
  · rw [e0, List.length_append]
    show qB G + L.length + 7 = qB G + (L.length + 7)
    omega
  · unfold hL
    rw [List.getD_eq_getElem?_getD]
    by_cases h1 : i < L.length
    · rw [List.getElem?_append_left h1]
      have := (hH.2.1 i h1).kept (e3 (qB G + i) (by omega))
      unfold hL at this
      rw [List.getD_eq_getElem?_getD] at this
      exact this
    · have hi2 : i < L.length + 7 := by rw [List.length_append] at hi; exact hi
      rw [List.getElem?_append_right (Nat.le_of_not_lt h1)]
      by_cases h2 : i = L.length
      · rw [h2, Nat.sub_self]
        show H1[qB G + L.length]? = some (arrV (qc G 4) 6 (fun j => va_rf (some (qB G + (L.length + 1 + 1 * j)))))
        rw [e1]
        congr 2
        funext j
        show Value.ref (qB G + L.length + 1 + j) = Value.ref (qB G + (L.length + 1 + 1 * j))
        exact congrArg Value.ref (by rw [Nat.one_mul, Nat.add_assoc, Nat.add_assoc, Nat.add_assoc])
      · obtain ⟨j, rfl⟩ : ∃ j, i = L.length + 1 + j := ⟨i - L.length - 1, by omega⟩
        rw [show L.length + 1 + j - L.length = j + 1 by omega]
        have hj : j < 6 := by clear hi; omega
        rw [List.getElem?_cons_succ, List.getElem?_replicate, if_pos hj]
        show H1[qB G + (L.length + 1 + j)]? = some (arrV (qc G 0) 6 (fun _ => .int 0))
        have := e2 j hj
        rw [show qB G + L.length + 1 + j = qB G + (L.length + 1 + j) by omega] at this
        exact this
  · rw [e3 q (by omega)]
    exact hH.2.2 q hq
theorem p_multi {G : qG} {X : qX} {cc : ByteArray} {own : String} {k1 k2 pc pc' : Nat} {vs : List (Option Value)} {st : List Value} {R0 : Room} {pre Y Y' : List va_E} {idx y : Nat} (hd : In cc pc (.multianewarray idx 2) 4 pc') (hw : Cond.classLink own idx "[[I" ∈ lw_gd) (hov : Cond.arrayOver (.array .int) ∈ lw_tbl) (hw2 : Cond.arrayClass .int ∈ lw_gd) (hR : qR X = R0) (hk1 : k1 + 7 ≤ R0.cells) (hk2 : k2 + 42 ≤ R0.slots) (hl : Y.length = y)
    (hY : Y ++ (.inl (qc G 4, 6, .inr (.inr (.inr (.inr (fun j => some (qB G + (pre.length + y + 1 + 1 * j))))))) :: List.replicate 6 (.inl (qc G 0, 6, .inl (fun _ => 0)))) = Y')
    (kk : ZL G X cc own (pre ++ Y') (k1 + 7) (k2 + 42) pc' vs (.ref (qB G + (pre.length + y)) :: st)) : ZL G X cc own (pre ++ Y) k1 k2 pc vs (.int (nI 6) :: .int (nI 6) :: st) := by
  obtain ⟨hd, rfl⟩ := hd
  exact z_multi (y := pre.length + y) ⟨hd, rfl⟩ hw hov hw2 hR hk1 hk2 (by rw [List.length_append, hl]) (by rw [List.append_assoc, hY]) kk

/-! THE FRAME: one judgement Z for every method, over a functional heap -/
/-- the tables' words that stay good on every road -/
def lw_gd : List Cond := lw_tbl.filter goodWord
theorem lw_good : lw_gd.all goodWord = true := List.all_eq_true.mpr (fun _ h => (List.mem_filter.mp h).2)
/-- the ground: the law's start, the classes' numbers and slots, the array classes (0 int, 1 boolean, 2 Fencer, 3 Holdings, 4 int[]) -/
abbrev qG : Type := State × (Nat → ClassId) × (Nat → Nat → Nat) × (Nat → ClassId)
def qB (G : qG) : Nat := G.1.heap.size
def qD (G : qG) : va_G := (G.2.1, G.2.2.1)
def qc (G : qG) : Nat → ClassId := G.2.2.2
def qTy (G : qG) : List (ClassId × FieldType) := [(qc G 0, .int), (qc G 1, .boolean), (qc G 2, .object RX4), (qc G 3, .object RX5), (qc G 4, .array .int)]
def qA (G : qG) : Nat → Prop := fun q => qB G ≤ q
def qUnits : Nat → Int64 := fun j => match j with
  | 0 => 1
  | 1 => 1000
  | 2 => 1000000
  | 3 => 1000000000
  | _ => 1000000000000
/-- what is known of the start -/
def qOK (G : qG) : Prop := va_K (qD G) vwCl (qTy G) G.1 ∧ (∃ t : Nat, va_Z RX10 "DOING_UNITS" "[J" (.ref t) (qA G) G.1 G.1.heap ∧ va_T .long t 5 (fun j => .long (qUnits j)) (qA G) G.1 G.1.heap) ∧ ∀ ty : FieldType, Cond.arrayOver ty ∈ lw_tbl → (Cond.arrayOver ty).before #[] G.1 = true
/-- the links to nest mates' constructors -/
def qNw (U : State) : Prop := ∀ (a : String) (i : Nat) (y : MethodName) (hs : String), Cond.methodLinkNest a i y hs ∈ lw_tbl → va_Nw (.methodLinkNest a i y hs) U
/-- the heap: as at the start, then n cells that hold h -/
def HP (G : qG) (n : Nat) (h : Nat → va_E) (H : Heap) : Prop := H.size = qB G + n ∧ (∀ i, i < n → va_at (qD G) vwCl (qB G + i, h i) H) ∧ ∀ q, q < qB G → H[q]? = G.1.heap[q]?
/-- the state of a call's start and end -/
def qSt (G : qG) (n : Nat) (h : Nat → va_E) (U : State) : Prop := qOK G ∧ HP G n h U.heap ∧ G.1.vm.Alike U.vm ∧ qNw U
/-- a context: what is fixed in a method's walk -/
abbrev qX : Type := Program × Launch × Env × Room × State × MethodId × Array Value × List Frame × Method × Code × (State → Prop)
def qW (X : qX) (H : Heap) (locs : List Loc) (k1 k2 pc : Nat) (ls : Array Slot) (st : List Value) : Prop := match X with
  | (p, l, e, R, s, m, args, below, meth, c, Q) => W p l e R s m args below meth c H locs k1 k2 Q (F0 m pc ls st)
def qS (X : qX) : State := X.2.2.2.2.1
def qR (X : qX) : Room := X.2.2.2.1
def qL (X : qX) : Launch := X.2.1
def qC (G : qG) (X : qX) (cc : ByteArray) (own : String) (nL : Nat) : Prop := match X with
  | (p, _, _, _, s, m, args, _, _, c, _) => p.tables.exec = Jvm.exec ∧ c.code = cc ∧ c.maxLocals = nL ∧ s.vm.findClass own = some m.cls ∧ (∀ w ∈ lw_gd, w.before args s = true) ∧ G.1.vm.Alike s.vm ∧ qOK G ∧ qB G ≤ s.heap.size ∧ qNw s
/-- the locals hold vs -/
def LV (ls : Array Slot) (vs : List (Option Value)) : Prop := ls.size = vs.length ∧ lv_wf ls ∧ ∀ (i : Nat) (v : Value), vs[i]? = some (some v) → ls[i]? = some (.val v)
/-- THE JUDGEMENT: at pc with locals vs, stack st, n cells h, (k1, k2) made so far, the walk comes to its end -/
def Z (G : qG) (X : qX) (cc : ByteArray) (own : String) (n : Nat) (h : Nat → va_E) (k1 k2 pc : Nat) (vs : List (Option Value)) (st : List Value) : Prop :=
  qC G X cc own vs.length → ∀ (H : Heap) (locs : List Loc) (ls : Array Slot), HP G n h H → va_S (qA G) (qS X).heap H locs → LV ls vs → qW X H locs k1 k2 pc ls st
def qP (vs : List (Option Value)) : List (Nat × Value) := (List.range vs.length).filterMap fun i => match vs[i]? with
  | some (some v) => some (i, v)
  | _ => none
theorem qP_mem {vs : List (Option Value)} {i : Nat} {v : Value} : (i, v) ∈ qP vs ↔ vs[i]? = some (some v) := by
  unfold qP
  rw [List.mem_filterMap]
  constructor
  · rintro ⟨j, -, hj⟩
    split at hj
    · next w hw => cases hj; exact hw
    · cases hj
  · intro h
    refine ⟨i, List.mem_range.mpr ?_, ?_⟩
    · exact (List.getElem?_eq_some_iff.mp h).1
    · rw [h]
theorem LV.has {ls : Array Slot} {vs : List (Option Value)} (h : LV ls vs) : lv_has ls vs.length (qP vs) := ⟨h.1, h.2.1, fun q hq => h.2.2 q.1 q.2 (qP_mem.mp (by cases q; exact hq))⟩
theorem LV.of {ls : Array Slot} {vs : List (Option Value)} {l : List (Nat × Value)} (h : lv_has ls vs.length l) (hm : ∀ (i : Nat) (v : Value), vs[i]? = some (some v) → (i, v) ∈ l) : LV ls vs := ⟨h.1, h.2.1, fun i v hv => h.2.2 (i, v) (hm i v hv)⟩
/-- nothing of two words lies ahead of place i -/
def ok1 (vs : List (Option Value)) (i : Nat) : Bool := match i with
  | 0 => true
  | i + 1 => match vs[i]? with
    | some (some v) => v.category == 1
    | _ => true
theorem LV.set1 {ls : Array Slot} {vs : List (Option Value)} {i : Nat} {v : Value} (hi : i < vs.length) (ho : ok1 vs i = true) (h : lv_has ls vs.length ((i, v) :: (qP vs).filter (fun q => !(q.1 == i) && !(q.1 + 1 == i && q.2.category == 2)))) : LV ls (vs.set i (some v)) := by
  refine LV.of (l := (i, v) :: (qP vs).filter (fun q => !(q.1 == i) && !(q.1 + 1 == i && q.2.category == 2))) (by rw [List.length_set]; exact h) ?_
  intro j w hw
  rw [List.getElem?_set] at hw
  by_cases hj : i = j
  · subst hj
    rw [if_pos rfl, if_pos hi] at hw
    cases hw
    exact List.mem_cons_self
  · rw [if_neg hj] at hw
    refine List.mem_cons_of_mem _ (List.mem_filter.mpr ⟨qP_mem.mpr hw, ?_⟩)
    have h1 : (j == i) = false := by simp; exact fun q => hj q.symm
    have h2 : (j + 1 == i && w.category == 2) = false := by
      cases i with
      | zero => simp
      | succ i' =>
        by_cases h3 : j = i'
        · subst h3
          simp only [ok1, hw] at ho
          have : w.category = 1 := by simpa using ho
          simp [this]
        · simp [h3]
    simp [h1, h2]
theorem LV.set2 {ls : Array Slot} {vs : List (Option Value)} {i : Nat} {v : Value} (hi : i + 1 < vs.length) (ho : ok1 vs i = true) (h : lv_has ls vs.length ((i, v) :: (qP vs).filter (fun q => !(q.1 == i) && (!(q.1 == i + 1) && !(q.1 + 1 == i && q.2.category == 2))))) : LV ls ((vs.set i (some v)).set (i + 1) none) := by
  refine LV.of (l := (i, v) :: (qP vs).filter (fun q => !(q.1 == i) && (!(q.1 == i + 1) && !(q.1 + 1 == i && q.2.category == 2)))) (by rw [List.length_set, List.length_set]; exact h) ?_
  intro j w hw
  rw [List.getElem?_set, List.length_set] at hw
  by_cases hj2 : i + 1 = j
  · subst hj2
    rw [if_pos rfl, if_pos hi] at hw
    cases hw
  · rw [if_neg hj2, List.getElem?_set] at hw
    by_cases hj : i = j
    · subst hj
      rw [if_pos rfl, if_pos (by omega)] at hw
      cases hw
      exact List.mem_cons_self
    · rw [if_neg hj] at hw
      refine List.mem_cons_of_mem _ (List.mem_filter.mpr ⟨qP_mem.mpr hw, ?_⟩)
      have h1 : (j == i) = false := by simp; exact fun q => hj q.symm
      have h0 : (j == i + 1) = false := by simp; exact fun q => hj2 q.symm
      have h2 : (j + 1 == i && w.category == 2) = false := by
        cases i with
        | zero => simp
        | succ i' =>
          by_cases h3 : j = i'
          · subst h3
            simp only [ok1, hw] at ho
            have : w.category = 1 := by simpa using ho
            simp [this]
          · simp [h3]
      simp [h1, h2, h0]
section ZR
variable {G : qG} {X : qX} {cc : ByteArray} {own : String} {n : Nat} {h : Nat → va_E} {k1 k2 pc pc' : Nat} {vs : List (Option Value)} {st : List Value}
/-- a row that only moves pc, stack: out of the kit's -/
theorem Z.row {st' : List Value} (f : ∀ (p : Program) (l : Launch) (e : Env) (R : Room) (s : State) (m : MethodId) (args : Array Value) (below : List Frame) (meth : Method) (c : Code) (Q : State → Prop) (H : Heap) (locs : List Loc) (ls : Array Slot), p.tables.exec = Jvm.exec → c.code = cc → LV ls vs → W p l e R s m args below meth c H locs k1 k2 Q (F0 m pc' ls st') → W p l e R s m args below meth c H locs k1 k2 Q (F0 m pc ls st)) (kk : Z G X cc own n h k1 k2 pc' vs st') : Z G X cc own n h k1 k2 pc vs st := by
  intro hC H locs ls hH hS hL
  have k := kk hC H locs ls hH hS hL
  obtain ⟨p, l, e, R, s, m, args, below, meth, c, Q⟩ := X
  exact f p l e R s m args below meth c Q H locs ls hC.1 hC.2.1 hL k
/-- a row that needs the tables too -/
theorem Z.rowT {st' : List Value} (f : ∀ (p : Program) (l : Launch) (e : Env) (R : Room) (s : State) (m : MethodId) (args : Array Value) (below : List Frame) (meth : Method) (c : Code) (Q : State → Prop) (H : Heap) (locs : List Loc) (ls : Array Slot), p.tables.exec = Jvm.exec → c.code = cc → s.vm.findClass own = some m.cls → (∀ w ∈ lw_gd, w.before args s = true) → W p l e R s m args below meth c H locs k1 k2 Q (F0 m pc' ls st') → W p l e R s m args below meth c H locs k1 k2 Q (F0 m pc ls st)) (kk : Z G X cc own n h k1 k2 pc' vs st') : Z G X cc own n h k1 k2 pc vs st := by
  intro hC H locs ls hH hS hL
  have k := kk hC H locs ls hH hS hL
  obtain ⟨p, l, e, R, s, m, args, below, meth, c, Q⟩ := X
  exact f p l e R s m args below meth c Q H locs ls hC.1 hC.2.1 hC.2.2.2.1 hC.2.2.2.2.1 k
theorem z_iconst {v : Int} {x : Int32} (hd : In cc pc (.iconst v) 1 pc') (hx : Int32.ofInt v = x) (kk : Z G X cc own n h k1 k2 pc' vs (.int x :: st)) : Z G X cc own n h k1 k2 pc vs st := by
  obtain ⟨hd, rfl⟩ := hd
  exact Z.row (fun _ _ _ _ _ _ _ _ _ _ _ _ _ _ h1 h2 _ k => lv_iconst h1 h2 hd hx k) kk
theorem z_bipush {v : Int} {x : Int32} (hd : In cc pc (.bipush v) 2 pc') (hx : (Int8.ofInt v).toInt32 = x) (kk : Z G X cc own n h k1 k2 pc' vs (.int x :: st)) : Z G X cc own n h k1 k2 pc vs st := by
  obtain ⟨hd, rfl⟩ := hd
  exact Z.row (fun _ _ _ _ _ _ _ _ _ _ _ _ _ _ h1 h2 _ k => lv_bipush h1 h2 hd hx k) kk
theorem z_sipush {v : Int} {x : Int32} (hd : In cc pc (.sipush v) 3 pc') (hx : (Int16.ofInt v).toInt32 = x) (kk : Z G X cc own n h k1 k2 pc' vs (.int x :: st)) : Z G X cc own n h k1 k2 pc vs st := by
  obtain ⟨hd, rfl⟩ := hd
  exact Z.row (fun _ _ _ _ _ _ _ _ _ _ _ _ _ _ h1 h2 _ k => lv_sipush h1 h2 hd hx k) kk
theorem z_lconst {v : Fin 2} {x : Int64} (hd : In cc pc (.lconst v) 1 pc') (hx : Int64.ofNat (v : Nat) = x) (kk : Z G X cc own n h k1 k2 pc' vs (.long x :: st)) : Z G X cc own n h k1 k2 pc vs st := by
  obtain ⟨hd, rfl⟩ := hd
  exact Z.row (fun _ _ _ _ _ _ _ _ _ _ _ _ _ _ h1 h2 _ k => lv_lconst h1 h2 hd hx k) kk
theorem z_ldc {i : Nat} {x : Int32} (hd : In cc pc (.ldc i) 2 pc') (hw : Cond.constant own i x ∈ lw_gd) (kk : Z G X cc own n h k1 k2 pc' vs (.int x :: st)) : Z G X cc own n h k1 k2 pc vs st := by
  obtain ⟨hd, rfl⟩ := hd
  exact Z.rowT (fun _ _ _ _ _ _ _ _ _ _ _ _ _ _ h1 h2 h3 h4 k => lv_ldc h1 h2 h3 (h4 _ hw) hd k) kk
theorem z_ldcw {i : Nat} {x : Int32} (hd : In cc pc (.ldc_w i) 3 pc') (hw : Cond.constant own i x ∈ lw_gd) (kk : Z G X cc own n h k1 k2 pc' vs (.int x :: st)) : Z G X cc own n h k1 k2 pc vs st := by
  obtain ⟨hd, rfl⟩ := hd
  exact Z.rowT (fun _ _ _ _ _ _ _ _ _ _ _ _ _ _ h1 h2 h3 h4 k => lv_ldcw h1 h2 h3 (h4 _ hw) hd k) kk
theorem z_ldc2 {i : Nat} {x : Int64} (hd : In cc pc (.ldc2_w i) 3 pc') (hw : Cond.constantLong own i x ∈ lw_gd) (kk : Z G X cc own n h k1 k2 pc' vs (.long x :: st)) : Z G X cc own n h k1 k2 pc vs st := by
  obtain ⟨hd, rfl⟩ := hd
  exact Z.rowT (fun _ _ _ _ _ _ _ _ _ _ _ _ _ _ h1 h2 h3 h4 k => lv_ldc2 h1 h2 h3 (h4 _ hw) hd k) kk
theorem z_iloadG (k : Fin 4) {x : Int32} (hd : In cc pc (.iload_n k) 1 pc') (hv : vs[(k : Nat)]? = some (some (.int x))) (kk : Z G X cc own n h k1 k2 pc' vs (.int x :: st)) : Z G X cc own n h k1 k2 pc vs st := by
  obtain ⟨hd, rfl⟩ := hd
  exact Z.row (fun _ _ _ _ _ _ _ _ _ _ _ _ _ _ h1 h2 hL k => lv_iload_n h1 h2 hd rfl (hL.2.2 _ _ hv) k) kk
theorem z_iloadH (i : Nat) {x : Int32} (hd : In cc pc (.iload i) 2 pc') (hv : vs[i]? = some (some (.int x))) (kk : Z G X cc own n h k1 k2 pc' vs (.int x :: st)) : Z G X cc own n h k1 k2 pc vs st := by
  obtain ⟨hd, rfl⟩ := hd
  exact Z.row (fun _ _ _ _ _ _ _ _ _ _ _ _ _ _ h1 h2 hL k => lv_iload h1 h2 hd (hL.2.2 _ _ hv) k) kk
theorem z_lloadG (k : Fin 4) {x : Int64} (hd : In cc pc (.lload_n k) 1 pc') (hv : vs[(k : Nat)]? = some (some (.long x))) (kk : Z G X cc own n h k1 k2 pc' vs (.long x :: st)) : Z G X cc own n h k1 k2 pc vs st := by
  obtain ⟨hd, rfl⟩ := hd
  exact Z.row (fun _ _ _ _ _ _ _ _ _ _ _ _ _ _ h1 h2 hL k => lv_lload_n h1 h2 hd rfl (hL.2.2 _ _ hv) k) kk
theorem z_lloadH (i : Nat) {x : Int64} (hd : In cc pc (.lload i) 2 pc') (hv : vs[i]? = some (some (.long x))) (kk : Z G X cc own n h k1 k2 pc' vs (.long x :: st)) : Z G X cc own n h k1 k2 pc vs st := by
  obtain ⟨hd, rfl⟩ := hd
  exact Z.row (fun _ _ _ _ _ _ _ _ _ _ _ _ _ _ h1 h2 hL k => lv_lload h1 h2 hd (hL.2.2 _ _ hv) k) kk
theorem z_aloadG (k : Fin 4) {x : Nat} (hd : In cc pc (.aload_n k) 1 pc') (hv : vs[(k : Nat)]? = some (some (.ref x))) (kk : Z G X cc own n h k1 k2 pc' vs (.ref x :: st)) : Z G X cc own n h k1 k2 pc vs st := by
  obtain ⟨hd, rfl⟩ := hd
  exact Z.row (fun _ _ _ _ _ _ _ _ _ _ _ _ _ _ h1 h2 hL k => lv_aload_n h1 h2 hd rfl (hL.2.2 _ _ hv) k) kk
/-- a store into the locals -/
theorem Z.store {vs' : List (Option Value)} {st' : List Value} (hlen : vs'.length = vs.length) (f : ∀ (p : Program) (l : Launch) (e : Env) (R : Room) (s : State) (m : MethodId) (args : Array Value) (below : List Frame) (meth : Method) (c : Code) (Q : State → Prop) (H : Heap) (locs : List Loc) (ls : Array Slot), p.tables.exec = Jvm.exec → c.code = cc → LV ls vs → (∀ ls', LV ls' vs' → W p l e R s m args below meth c H locs k1 k2 Q (F0 m pc' ls' st')) → W p l e R s m args below meth c H locs k1 k2 Q (F0 m pc ls st)) (kk : Z G X cc own n h k1 k2 pc' vs' st') : Z G X cc own n h k1 k2 pc vs st := by
  intro hC H locs ls hH hS hL
  have k := fun ls' h' => kk (by rw [hlen]; exact hC) H locs ls' hH hS h'
  obtain ⟨p, l, e, R, s, m, args, below, meth, c, Q⟩ := X
  exact f p l e R s m args below meth c Q H locs ls hC.1 hC.2.1 hL k
theorem z_istoreG (k : Fin 4) {x : Int32} {vs' : List (Option Value)} (hd : In cc pc (.istore_n k) 1 pc') (hs : vs.set (k : Nat) (some (.int x)) = vs') (hi : (k : Nat) < vs.length) (ho : ok1 vs k = true) (kk : Z G X cc own n h k1 k2 pc' vs' st) : Z G X cc own n h k1 k2 pc vs (.int x :: st) := by
  obtain ⟨hd, rfl⟩ := hd
  subst hs
  exact Z.store (List.length_set ..) (fun _ _ _ _ _ _ _ _ _ _ _ _ _ _ h1 h2 hL k => lv_istore_n h1 h2 hd rfl hL.has hi rfl (fun ls' h' => k ls' (LV.set1 hi ho h'))) kk
theorem z_istoreH (i : Nat) {x : Int32} {vs' : List (Option Value)} (hd : In cc pc (.istore i) 2 pc') (hs : vs.set i (some (.int x)) = vs') (hi : i < vs.length) (ho : ok1 vs i = true) (kk : Z G X cc own n h k1 k2 pc' vs' st) : Z G X cc own n h k1 k2 pc vs (.int x :: st) := by
  obtain ⟨hd, rfl⟩ := hd
  subst hs
  exact Z.store (List.length_set ..) (fun _ _ _ _ _ _ _ _ _ _ _ _ _ _ h1 h2 hL k => lv_istore h1 h2 hd hL.has hi rfl (fun ls' h' => k ls' (LV.set1 hi ho h'))) kk
theorem z_astoreG (k : Fin 4) {x : Nat} {vs' : List (Option Value)} (hd : In cc pc (.astore_n k) 1 pc') (hs : vs.set (k : Nat) (some (.ref x)) = vs') (hi : (k : Nat) < vs.length) (ho : ok1 vs k = true) (kk : Z G X cc own n h k1 k2 pc' vs' st) : Z G X cc own n h k1 k2 pc vs (.ref x :: st) := by
  obtain ⟨hd, rfl⟩ := hd
  subst hs
  exact Z.store (List.length_set ..) (fun _ _ _ _ _ _ _ _ _ _ _ _ _ _ h1 h2 hL k => lv_astore_n h1 h2 hd rfl hL.has hi rfl (fun ls' h' => k ls' (LV.set1 hi ho h'))) kk
theorem z_lstoreG (k : Fin 4) {x : Int64} {vs' : List (Option Value)} (hd : In cc pc (.lstore_n k) 1 pc') (hs : (vs.set (k : Nat) (some (.long x))).set ((k : Nat) + 1) none = vs') (hi : (k : Nat) + 1 < vs.length) (ho : ok1 vs k = true) (kk : Z G X cc own n h k1 k2 pc' vs' st) : Z G X cc own n h k1 k2 pc vs (.long x :: st) := by
  obtain ⟨hd, rfl⟩ := hd
  subst hs
  exact Z.store (by rw [List.length_set, List.length_set]) (fun _ _ _ _ _ _ _ _ _ _ _ _ _ _ h1 h2 hL k => lv_lstore_n h1 h2 hd rfl hL.has hi rfl (fun ls' h' => k ls' (LV.set2 hi ho h'))) kk
theorem z_iincG (i : Nat) {d : Int} {x y : Int32} {vs' : List (Option Value)} (hd : In cc pc (.iinc i d) 3 pc') (hv : vs[i]? = some (some (.int x))) (hy : x + Int32.ofInt d = y) (hs : vs.set i (some (.int y)) = vs') (ho : ok1 vs i = true) (kk : Z G X cc own n h k1 k2 pc' vs' st) : Z G X cc own n h k1 k2 pc vs st := by
  obtain ⟨hd, rfl⟩ := hd
  subst hs
  have hi : i < vs.length := (List.getElem?_eq_some_iff.mp hv).1
  obtain ⟨k9, hk9⟩ := List.getElem?_of_mem (qP_mem.mpr hv)
  exact Z.store (List.length_set ..) (fun _ _ _ _ _ _ _ _ _ _ _ _ _ _ h1 h2 hL k => lv_iinc h1 h2 hd hL.has hk9 hy hi rfl (fun ls' h' => k ls' (LV.set1 hi ho h'))) kk
theorem z_iadd {x y : Int32} (hd : In cc pc (.iadd) 1 pc') (kk : Z G X cc own n h k1 k2 pc' vs (.int (x + y) :: st)) : Z G X cc own n h k1 k2 pc vs (.int y :: .int x :: st) := by
  obtain ⟨hd, rfl⟩ := hd
  exact Z.row (fun _ _ _ _ _ _ _ _ _ _ _ _ _ _ h1 h2 _ k => lv_iadd h1 h2 hd k) kk
theorem z_isub {x y : Int32} (hd : In cc pc (.isub) 1 pc') (kk : Z G X cc own n h k1 k2 pc' vs (.int (x - y) :: st)) : Z G X cc own n h k1 k2 pc vs (.int y :: .int x :: st) := by
  obtain ⟨hd, rfl⟩ := hd
  exact Z.row (fun _ _ _ _ _ _ _ _ _ _ _ _ _ _ h1 h2 _ k => lv_isub h1 h2 hd k) kk
theorem z_imul {x y : Int32} (hd : In cc pc (.imul) 1 pc') (kk : Z G X cc own n h k1 k2 pc' vs (.int (x * y) :: st)) : Z G X cc own n h k1 k2 pc vs (.int y :: .int x :: st) := by
  obtain ⟨hd, rfl⟩ := hd
  exact Z.row (fun _ _ _ _ _ _ _ _ _ _ _ _ _ _ h1 h2 _ k => lv_imul h1 h2 hd k) kk
theorem z_iand {x y : Int32} (hd : In cc pc (.iand) 1 pc') (kk : Z G X cc own n h k1 k2 pc' vs (.int (x &&& y) :: st)) : Z G X cc own n h k1 k2 pc vs (.int y :: .int x :: st) := by
  obtain ⟨hd, rfl⟩ := hd
  exact Z.row (fun _ _ _ _ _ _ _ _ _ _ _ _ _ _ h1 h2 _ k => lv_iand h1 h2 hd k) kk
theorem z_ior {x y : Int32} (hd : In cc pc (.ior) 1 pc') (kk : Z G X cc own n h k1 k2 pc' vs (.int (x ||| y) :: st)) : Z G X cc own n h k1 k2 pc vs (.int y :: .int x :: st) := by
  obtain ⟨hd, rfl⟩ := hd
  exact Z.row (fun _ _ _ _ _ _ _ _ _ _ _ _ _ _ h1 h2 _ k => lv_ior h1 h2 hd k) kk
theorem z_ixor {x y : Int32} (hd : In cc pc (.ixor) 1 pc') (kk : Z G X cc own n h k1 k2 pc' vs (.int (x ^^^ y) :: st)) : Z G X cc own n h k1 k2 pc vs (.int y :: .int x :: st) := by
  obtain ⟨hd, rfl⟩ := hd
  exact Z.row (fun _ _ _ _ _ _ _ _ _ _ _ _ _ _ h1 h2 _ k => lv_ixor h1 h2 hd k) kk
theorem z_ladd {x y : Int64} (hd : In cc pc (.ladd) 1 pc') (kk : Z G X cc own n h k1 k2 pc' vs (.long (x + y) :: st)) : Z G X cc own n h k1 k2 pc vs (.long y :: .long x :: st) := by
  obtain ⟨hd, rfl⟩ := hd
  exact Z.row (fun _ _ _ _ _ _ _ _ _ _ _ _ _ _ h1 h2 _ k => lv_ladd h1 h2 hd k) kk
theorem z_lsub {x y : Int64} (hd : In cc pc (.lsub) 1 pc') (kk : Z G X cc own n h k1 k2 pc' vs (.long (x - y) :: st)) : Z G X cc own n h k1 k2 pc vs (.long y :: .long x :: st) := by
  obtain ⟨hd, rfl⟩ := hd
  exact Z.row (fun _ _ _ _ _ _ _ _ _ _ _ _ _ _ h1 h2 _ k => lv_lsub h1 h2 hd k) kk
theorem z_lmul {x y : Int64} (hd : In cc pc (.lmul) 1 pc') (kk : Z G X cc own n h k1 k2 pc' vs (.long (x * y) :: st)) : Z G X cc own n h k1 k2 pc vs (.long y :: .long x :: st) := by
  obtain ⟨hd, rfl⟩ := hd
  exact Z.row (fun _ _ _ _ _ _ _ _ _ _ _ _ _ _ h1 h2 _ k => lv_lmul h1 h2 hd k) kk
theorem z_land {x y : Int64} (hd : In cc pc (.land) 1 pc') (kk : Z G X cc own n h k1 k2 pc' vs (.long (x &&& y) :: st)) : Z G X cc own n h k1 k2 pc vs (.long y :: .long x :: st) := by
  obtain ⟨hd, rfl⟩ := hd
  exact Z.row (fun _ _ _ _ _ _ _ _ _ _ _ _ _ _ h1 h2 _ k => lv_land h1 h2 hd k) kk
theorem z_lor {x y : Int64} (hd : In cc pc (.lor) 1 pc') (kk : Z G X cc own n h k1 k2 pc' vs (.long (x ||| y) :: st)) : Z G X cc own n h k1 k2 pc vs (.long y :: .long x :: st) := by
  obtain ⟨hd, rfl⟩ := hd
  exact Z.row (fun _ _ _ _ _ _ _ _ _ _ _ _ _ _ h1 h2 _ k => lv_lor h1 h2 hd k) kk

theorem z_idiv {x y : Int32} (hd : In cc pc (.idiv) 1 pc') (hne : ¬ y = 0) (kk : Z G X cc own n h k1 k2 pc' vs (.int (x / y) :: st)) : Z G X cc own n h k1 k2 pc vs (.int y :: .int x :: st) := by
  obtain ⟨hd, rfl⟩ := hd
  exact Z.row (fun _ _ _ _ _ _ _ _ _ _ _ _ _ _ h1 h2 _ k => lv_idiv h1 h2 hd hne k) kk
theorem z_irem {x y : Int32} (hd : In cc pc (.irem) 1 pc') (hne : ¬ y = 0) (kk : Z G X cc own n h k1 k2 pc' vs (.int (x - x / y * y) :: st)) : Z G X cc own n h k1 k2 pc vs (.int y :: .int x :: st) := by
  obtain ⟨hd, rfl⟩ := hd
  exact Z.row (fun _ _ _ _ _ _ _ _ _ _ _ _ _ _ h1 h2 _ k => lv_irem h1 h2 hd hne k) kk
theorem z_ldiv {x y : Int64} (hd : In cc pc (.ldiv) 1 pc') (hne : ¬ y = 0) (kk : Z G X cc own n h k1 k2 pc' vs (.long (x / y) :: st)) : Z G X cc own n h k1 k2 pc vs (.long y :: .long x :: st) := by
  obtain ⟨hd, rfl⟩ := hd
  exact Z.row (fun _ _ _ _ _ _ _ _ _ _ _ _ _ _ h1 h2 _ k => lv_ldiv h1 h2 hd hne k) kk
theorem z_lrem {x y : Int64} (hd : In cc pc (.lrem) 1 pc') (hne : ¬ y = 0) (kk : Z G X cc own n h k1 k2 pc' vs (.long (x - x / y * y) :: st)) : Z G X cc own n h k1 k2 pc vs (.long y :: .long x :: st) := by
  obtain ⟨hd, rfl⟩ := hd
  exact Z.row (fun _ _ _ _ _ _ _ _ _ _ _ _ _ _ h1 h2 _ k => lv_lrem h1 h2 hd hne k) kk
theorem z_ineg {x : Int32} (hd : In cc pc (.ineg) 1 pc') (kk : Z G X cc own n h k1 k2 pc' vs (.int (-x) :: st)) : Z G X cc own n h k1 k2 pc vs (.int x :: st) := by
  obtain ⟨hd, rfl⟩ := hd
  exact Z.row (fun _ _ _ _ _ _ _ _ _ _ _ _ _ _ h1 h2 _ k => lv_ineg h1 h2 hd k) kk
theorem z_ishl {x y : Int32} (hd : In cc pc (.ishl) 1 pc') (kk : Z G X cc own n h k1 k2 pc' vs (.int (x <<< (y &&& 31)) :: st)) : Z G X cc own n h k1 k2 pc vs (.int y :: .int x :: st) := by
  obtain ⟨hd, rfl⟩ := hd
  exact Z.row (fun _ _ _ _ _ _ _ _ _ _ _ _ _ _ h1 h2 _ k => lv_ishl h1 h2 hd k) kk
theorem z_ishr {x y : Int32} (hd : In cc pc (.ishr) 1 pc') (kk : Z G X cc own n h k1 k2 pc' vs (.int (x >>> (y &&& 31)) :: st)) : Z G X cc own n h k1 k2 pc vs (.int y :: .int x :: st) := by
  obtain ⟨hd, rfl⟩ := hd
  exact Z.row (fun _ _ _ _ _ _ _ _ _ _ _ _ _ _ h1 h2 _ k => lv_ishr h1 h2 hd k) kk
theorem z_iushr {x y : Int32} (hd : In cc pc (.iushr) 1 pc') (kk : Z G X cc own n h k1 k2 pc' vs (.int ((x.toUInt32 >>> (y.toUInt32 &&& Int32.toUInt32 31)).toInt32) :: st)) : Z G X cc own n h k1 k2 pc vs (.int y :: .int x :: st) := by
  obtain ⟨hd, rfl⟩ := hd
  exact Z.row (fun _ _ _ _ _ _ _ _ _ _ _ _ _ _ h1 h2 _ k => lv_iushr h1 h2 hd rfl k) kk
theorem z_lushr {x : Int64} {y : Int32} (hd : In cc pc (.lushr) 1 pc') (kk : Z G X cc own n h k1 k2 pc' vs (.long ((x.toUInt64 >>> (y.toInt64.toUInt64 &&& Int64.toUInt64 63)).toInt64) :: st)) : Z G X cc own n h k1 k2 pc vs (.int y :: .long x :: st) := by
  obtain ⟨hd, rfl⟩ := hd
  exact Z.row (fun _ _ _ _ _ _ _ _ _ _ _ _ _ _ h1 h2 _ k => lv_lushr h1 h2 hd rfl k) kk
theorem z_lshl {x : Int64} {y : Int32} (hd : In cc pc (.lshl) 1 pc') (kk : Z G X cc own n h k1 k2 pc' vs (.long (x <<< (y.toInt64 &&& 63)) :: st)) : Z G X cc own n h k1 k2 pc vs (.int y :: .long x :: st) := by
  obtain ⟨hd, rfl⟩ := hd
  exact Z.row (fun _ _ _ _ _ _ _ _ _ _ _ _ _ _ h1 h2 _ k => lv_lshl h1 h2 hd rfl k) kk
theorem z_i2l {x : Int32} (hd : In cc pc (.i2l) 1 pc') (kk : Z G X cc own n h k1 k2 pc' vs (.long x.toInt64 :: st)) : Z G X cc own n h k1 k2 pc vs (.int x :: st) := by
  obtain ⟨hd, rfl⟩ := hd
  exact Z.row (fun _ _ _ _ _ _ _ _ _ _ _ _ _ _ h1 h2 _ k => lv_i2l h1 h2 hd rfl k) kk
theorem z_l2i {x : Int64} (hd : In cc pc (.l2i) 1 pc') (kk : Z G X cc own n h k1 k2 pc' vs (.int x.toInt32 :: st)) : Z G X cc own n h k1 k2 pc vs (.long x :: st) := by
  obtain ⟨hd, rfl⟩ := hd
  exact Z.row (fun _ _ _ _ _ _ _ _ _ _ _ _ _ _ h1 h2 _ k => lv_l2i h1 h2 hd rfl k) kk
theorem z_dup {v : Value} (hd : In cc pc (.dup) 1 pc') (hv : v.category = 1) (kk : Z G X cc own n h k1 k2 pc' vs (v :: v :: st)) : Z G X cc own n h k1 k2 pc vs (v :: st) := by
  obtain ⟨hd, rfl⟩ := hd
  exact Z.row (fun _ _ _ _ _ _ _ _ _ _ _ _ _ _ h1 h2 _ k => lv_dup h1 h2 hd hv k) kk
theorem z_pop {v : Value} (hd : In cc pc (.pop) 1 pc') (hv : v.category = 1) (kk : Z G X cc own n h k1 k2 pc' vs (st)) : Z G X cc own n h k1 k2 pc vs (v :: st) := by
  obtain ⟨hd, rfl⟩ := hd
  exact Z.row (fun _ _ _ _ _ _ _ _ _ _ _ _ _ _ h1 h2 _ k => lv_pop h1 h2 hd hv k) kk
theorem z_dup2 {v w : Value} (hd : In cc pc (.dup2) 1 pc') (hv : v.category = 1) (hw : w.category = 1) (kk : Z G X cc own n h k1 k2 pc' vs (v :: w :: v :: w :: st)) : Z G X cc own n h k1 k2 pc vs (v :: w :: st) := by
  obtain ⟨hd, rfl⟩ := hd
  exact Z.row (fun _ _ _ _ _ _ _ _ _ _ _ _ _ _ h1 h2 _ k => lv_dup2_11 h1 h2 hd hv hw k) kk
theorem z_lcmp {x y : Int64} (hd : In cc pc (.lcmp) 1 pc') (kk : Z G X cc own n h k1 k2 pc' vs (.int (lg_cmp x y) :: st)) : Z G X cc own n h k1 k2 pc vs (.long y :: .long x :: st) := by
  obtain ⟨hd, rfl⟩ := hd
  exact Z.row (fun _ _ _ _ _ _ _ _ _ _ _ _ _ _ h1 h2 _ k => W.lcmp h1 h2 hd k) kk
/-- a row with two ways on -/
theorem Z.row2 {tgt : Nat} {st' : List Value} {A B : Prop} (f : ∀ (p : Program) (l : Launch) (e : Env) (R : Room) (s : State) (m : MethodId) (args : Array Value) (below : List Frame) (meth : Method) (c : Code) (Q : State → Prop) (H : Heap) (locs : List Loc) (ls : Array Slot), p.tables.exec = Jvm.exec → c.code = cc → (A → W p l e R s m args below meth c H locs k1 k2 Q (F0 m tgt ls st')) → (B → W p l e R s m args below meth c H locs k1 k2 Q (F0 m pc' ls st')) → W p l e R s m args below meth c H locs k1 k2 Q (F0 m pc ls st)) (kt : A → Z G X cc own n h k1 k2 tgt vs st') (kf : B → Z G X cc own n h k1 k2 pc' vs st') : Z G X cc own n h k1 k2 pc vs st := by
  intro hC H locs ls hH hS hL
  have k := fun a => kt a hC H locs ls hH hS hL
  have k' := fun a => kf a hC H locs ls hH hS hL
  obtain ⟨p, l, e, R, s, m, args, below, meth, c, Q⟩ := X
  exact f p l e R s m args below meth c Q H locs ls hC.1 hC.2.1 k k'
theorem z_goto {off : Int} {tgt : Nat} (hd : Jn cc pc (.goto off) off pc' tgt) (kk : Z G X cc own n h k1 k2 tgt vs st) : Z G X cc own n h k1 k2 pc vs st := by
  obtain ⟨hd, rfl, ht⟩ := hd
  exact Z.row (pc' := tgt) (fun _ _ _ _ _ _ _ _ _ _ _ _ _ _ h1 h2 _ k => lv_goto h1 h2 hd ht k) kk
theorem z_if_eq {off : Int} {tgt : Nat} {x : Int32} (hd : Jn cc pc (.ifCond .eq off) off pc' tgt) (kt : x = 0 → Z G X cc own n h k1 k2 tgt vs (st)) (kf : ¬ x = 0 → Z G X cc own n h k1 k2 pc' vs (st)) : Z G X cc own n h k1 k2 pc vs (.int x :: st) := by
  obtain ⟨hd, rfl, ht⟩ := hd
  exact Z.row2 (fun _ _ _ _ _ _ _ _ _ _ _ _ _ _ h1 h2 k k' => lv_if_eq h1 h2 hd ht k k') kt kf
theorem z_icmp_eq {off : Int} {tgt : Nat} {x y : Int32} (hd : Jn cc pc (.if_icmp .eq off) off pc' tgt) (kt : x = y → Z G X cc own n h k1 k2 tgt vs (st)) (kf : ¬ x = y → Z G X cc own n h k1 k2 pc' vs (st)) : Z G X cc own n h k1 k2 pc vs (.int y :: .int x :: st) := by
  obtain ⟨hd, rfl, ht⟩ := hd
  exact Z.row2 (fun _ _ _ _ _ _ _ _ _ _ _ _ _ _ h1 h2 k k' => lv_icmp_eq h1 h2 hd ht k k') kt kf
theorem z_if_ne {off : Int} {tgt : Nat} {x : Int32} (hd : Jn cc pc (.ifCond .ne off) off pc' tgt) (kt : ¬ x = 0 → Z G X cc own n h k1 k2 tgt vs (st)) (kf : x = 0 → Z G X cc own n h k1 k2 pc' vs (st)) : Z G X cc own n h k1 k2 pc vs (.int x :: st) := by
  obtain ⟨hd, rfl, ht⟩ := hd
  exact Z.row2 (fun _ _ _ _ _ _ _ _ _ _ _ _ _ _ h1 h2 k k' => lv_if_ne h1 h2 hd ht k k') kt kf
theorem z_icmp_ne {off : Int} {tgt : Nat} {x y : Int32} (hd : Jn cc pc (.if_icmp .ne off) off pc' tgt) (kt : ¬ x = y → Z G X cc own n h k1 k2 tgt vs (st)) (kf : x = y → Z G X cc own n h k1 k2 pc' vs (st)) : Z G X cc own n h k1 k2 pc vs (.int y :: .int x :: st) := by
  obtain ⟨hd, rfl, ht⟩ := hd
  exact Z.row2 (fun _ _ _ _ _ _ _ _ _ _ _ _ _ _ h1 h2 k k' => lv_icmp_ne h1 h2 hd ht k k') kt kf
theorem z_if_lt {off : Int} {tgt : Nat} {x : Int32} (hd : Jn cc pc (.ifCond .lt off) off pc' tgt) (kt : x < 0 → Z G X cc own n h k1 k2 tgt vs (st)) (kf : ¬ x < 0 → Z G X cc own n h k1 k2 pc' vs (st)) : Z G X cc own n h k1 k2 pc vs (.int x :: st) := by
  obtain ⟨hd, rfl, ht⟩ := hd
  exact Z.row2 (fun _ _ _ _ _ _ _ _ _ _ _ _ _ _ h1 h2 k k' => lv_if_lt h1 h2 hd ht k k') kt kf
theorem z_icmp_lt {off : Int} {tgt : Nat} {x y : Int32} (hd : Jn cc pc (.if_icmp .lt off) off pc' tgt) (kt : x < y → Z G X cc own n h k1 k2 tgt vs (st)) (kf : ¬ x < y → Z G X cc own n h k1 k2 pc' vs (st)) : Z G X cc own n h k1 k2 pc vs (.int y :: .int x :: st) := by
  obtain ⟨hd, rfl, ht⟩ := hd
  exact Z.row2 (fun _ _ _ _ _ _ _ _ _ _ _ _ _ _ h1 h2 k k' => lv_icmp_lt h1 h2 hd ht k k') kt kf
theorem z_if_ge {off : Int} {tgt : Nat} {x : Int32} (hd : Jn cc pc (.ifCond .ge off) off pc' tgt) (kt : 0 ≤ x → Z G X cc own n h k1 k2 tgt vs (st)) (kf : ¬ 0 ≤ x → Z G X cc own n h k1 k2 pc' vs (st)) : Z G X cc own n h k1 k2 pc vs (.int x :: st) := by
  obtain ⟨hd, rfl, ht⟩ := hd
  exact Z.row2 (fun _ _ _ _ _ _ _ _ _ _ _ _ _ _ h1 h2 k k' => lv_if_ge h1 h2 hd ht k k') kt kf
theorem z_icmp_ge {off : Int} {tgt : Nat} {x y : Int32} (hd : Jn cc pc (.if_icmp .ge off) off pc' tgt) (kt : y ≤ x → Z G X cc own n h k1 k2 tgt vs (st)) (kf : ¬ y ≤ x → Z G X cc own n h k1 k2 pc' vs (st)) : Z G X cc own n h k1 k2 pc vs (.int y :: .int x :: st) := by
  obtain ⟨hd, rfl, ht⟩ := hd
  exact Z.row2 (fun _ _ _ _ _ _ _ _ _ _ _ _ _ _ h1 h2 k k' => lv_icmp_ge h1 h2 hd ht k k') kt kf
theorem z_if_gt {off : Int} {tgt : Nat} {x : Int32} (hd : Jn cc pc (.ifCond .gt off) off pc' tgt) (kt : 0 < x → Z G X cc own n h k1 k2 tgt vs (st)) (kf : ¬ 0 < x → Z G X cc own n h k1 k2 pc' vs (st)) : Z G X cc own n h k1 k2 pc vs (.int x :: st) := by
  obtain ⟨hd, rfl, ht⟩ := hd
  exact Z.row2 (fun _ _ _ _ _ _ _ _ _ _ _ _ _ _ h1 h2 k k' => lv_if_gt h1 h2 hd ht k k') kt kf
theorem z_icmp_gt {off : Int} {tgt : Nat} {x y : Int32} (hd : Jn cc pc (.if_icmp .gt off) off pc' tgt) (kt : y < x → Z G X cc own n h k1 k2 tgt vs (st)) (kf : ¬ y < x → Z G X cc own n h k1 k2 pc' vs (st)) : Z G X cc own n h k1 k2 pc vs (.int y :: .int x :: st) := by
  obtain ⟨hd, rfl, ht⟩ := hd
  exact Z.row2 (fun _ _ _ _ _ _ _ _ _ _ _ _ _ _ h1 h2 k k' => lv_icmp_gt h1 h2 hd ht k k') kt kf
theorem z_if_le {off : Int} {tgt : Nat} {x : Int32} (hd : Jn cc pc (.ifCond .le off) off pc' tgt) (kt : x ≤ 0 → Z G X cc own n h k1 k2 tgt vs (st)) (kf : ¬ x ≤ 0 → Z G X cc own n h k1 k2 pc' vs (st)) : Z G X cc own n h k1 k2 pc vs (.int x :: st) := by
  obtain ⟨hd, rfl, ht⟩ := hd
  exact Z.row2 (fun _ _ _ _ _ _ _ _ _ _ _ _ _ _ h1 h2 k k' => lv_if_le h1 h2 hd ht k k') kt kf
theorem z_icmp_le {off : Int} {tgt : Nat} {x y : Int32} (hd : Jn cc pc (.if_icmp .le off) off pc' tgt) (kt : x ≤ y → Z G X cc own n h k1 k2 tgt vs (st)) (kf : ¬ x ≤ y → Z G X cc own n h k1 k2 pc' vs (st)) : Z G X cc own n h k1 k2 pc vs (.int y :: .int x :: st) := by
  obtain ⟨hd, rfl, ht⟩ := hd
  exact Z.row2 (fun _ _ _ _ _ _ _ _ _ _ _ _ _ _ h1 h2 k k' => lv_icmp_le h1 h2 hd ht k k') kt kf
theorem z_icmp_eqN {off : Int} {tgt a b : Nat} (hd : Jn cc pc (.if_icmp .eq off) off pc' tgt) (ha : a < 2 ^ 31) (hb : b < 2 ^ 31) (kt : a = b → Z G X cc own n h k1 k2 tgt vs (st)) (kf : a ≠ b → Z G X cc own n h k1 k2 pc' vs (st)) : Z G X cc own n h k1 k2 pc vs (.int (nI b) :: .int (nI a) :: st) := z_icmp_eq hd (fun q => kt ((nI_eq ha hb).mp q)) (fun q => kf (fun z => q ((nI_eq ha hb).mpr z)))
theorem z_icmp_neN {off : Int} {tgt a b : Nat} (hd : Jn cc pc (.if_icmp .ne off) off pc' tgt) (ha : a < 2 ^ 31) (hb : b < 2 ^ 31) (kt : a ≠ b → Z G X cc own n h k1 k2 tgt vs (st)) (kf : a = b → Z G X cc own n h k1 k2 pc' vs (st)) : Z G X cc own n h k1 k2 pc vs (.int (nI b) :: .int (nI a) :: st) := z_icmp_ne hd (fun q => kt (fun z => q ((nI_eq ha hb).mpr z))) (fun q => kf ((nI_eq ha hb).mp q))
theorem z_icmp_ltN {off : Int} {tgt a b : Nat} (hd : Jn cc pc (.if_icmp .lt off) off pc' tgt) (ha : a < 2 ^ 31) (hb : b < 2 ^ 31) (kt : a < b → Z G X cc own n h k1 k2 tgt vs (st)) (kf : b ≤ a → Z G X cc own n h k1 k2 pc' vs (st)) : Z G X cc own n h k1 k2 pc vs (.int (nI b) :: .int (nI a) :: st) := z_icmp_lt hd (fun q => kt ((nI_ltI ha hb).mp q)) (fun q => kf (Nat.not_lt.mp (fun z => q ((nI_ltI ha hb).mpr z))))
theorem z_icmp_geN {off : Int} {tgt a b : Nat} (hd : Jn cc pc (.if_icmp .ge off) off pc' tgt) (ha : a < 2 ^ 31) (hb : b < 2 ^ 31) (kt : b ≤ a → Z G X cc own n h k1 k2 tgt vs (st)) (kf : a < b → Z G X cc own n h k1 k2 pc' vs (st)) : Z G X cc own n h k1 k2 pc vs (.int (nI b) :: .int (nI a) :: st) := z_icmp_ge hd (fun q => kt ((nI_leI hb ha).mp q)) (fun q => kf (Nat.not_le.mp (fun z => q ((nI_leI hb ha).mpr z))))
theorem z_icmp_gtN {off : Int} {tgt a b : Nat} (hd : Jn cc pc (.if_icmp .gt off) off pc' tgt) (ha : a < 2 ^ 31) (hb : b < 2 ^ 31) (kt : b < a → Z G X cc own n h k1 k2 tgt vs (st)) (kf : a ≤ b → Z G X cc own n h k1 k2 pc' vs (st)) : Z G X cc own n h k1 k2 pc vs (.int (nI b) :: .int (nI a) :: st) := z_icmp_gt hd (fun q => kt ((nI_ltI hb ha).mp q)) (fun q => kf (Nat.not_lt.mp (fun z => q ((nI_ltI hb ha).mpr z))))
theorem z_icmp_leN {off : Int} {tgt a b : Nat} (hd : Jn cc pc (.if_icmp .le off) off pc' tgt) (ha : a < 2 ^ 31) (hb : b < 2 ^ 31) (kt : a ≤ b → Z G X cc own n h k1 k2 tgt vs (st)) (kf : b < a → Z G X cc own n h k1 k2 pc' vs (st)) : Z G X cc own n h k1 k2 pc vs (.int (nI b) :: .int (nI a) :: st) := z_icmp_le hd (fun q => kt ((nI_leI ha hb).mp q)) (fun q => kf (Nat.not_le.mp (fun z => q ((nI_leI ha hb).mpr z))))
theorem z_if_eqN {off : Int} {tgt a : Nat} (hd : Jn cc pc (.ifCond .eq off) off pc' tgt) (ha : a < 2 ^ 31) (kt : a = 0 → Z G X cc own n h k1 k2 tgt vs (st)) (kf : a ≠ 0 → Z G X cc own n h k1 k2 pc' vs (st)) : Z G X cc own n h k1 k2 pc vs (.int (nI a) :: st) := z_if_eq hd (fun q => kt ((nI_eq ha (by decide)).mp (q.trans nI_0.symm))) (fun q => kf (fun z => q (by rw [z]; exact nI_0)))
theorem z_if_neN {off : Int} {tgt a : Nat} (hd : Jn cc pc (.ifCond .ne off) off pc' tgt) (ha : a < 2 ^ 31) (kt : a ≠ 0 → Z G X cc own n h k1 k2 tgt vs (st)) (kf : a = 0 → Z G X cc own n h k1 k2 pc' vs (st)) : Z G X cc own n h k1 k2 pc vs (.int (nI a) :: st) := z_if_ne hd (fun q => kt (fun z => q (by rw [z]; exact nI_0))) (fun q => kf ((nI_eq ha (by decide)).mp (q.trans nI_0.symm)))
theorem z_if_leN {off : Int} {tgt a : Nat} (hd : Jn cc pc (.ifCond .le off) off pc' tgt) (ha : a < 2 ^ 31) (kt : a = 0 → Z G X cc own n h k1 k2 tgt vs (st)) (kf : 0 < a → Z G X cc own n h k1 k2 pc' vs (st)) : Z G X cc own n h k1 k2 pc vs (.int (nI a) :: st) := z_if_le hd (fun q => kt ((Nat.eq_zero_or_pos a).elim id (fun z => absurd q (nI_nle z ha)))) (fun q => kf ((Nat.eq_zero_or_pos a).elim (fun z => absurd (by rw [z]; decide) q) id))
theorem z_if_ltN {off : Int} {tgt a : Nat} (hd : Jn cc pc (.ifCond .lt off) off pc' tgt) (ha : a < 2 ^ 31) (kf : Z G X cc own n h k1 k2 pc' vs (st)) : Z G X cc own n h k1 k2 pc vs (.int (nI a) :: st) := z_if_lt hd (fun q => absurd q (nI_pos ha)) (fun _ => kf)
theorem z_iaddN {a b : Nat} (hd : In cc pc (.iadd) 1 pc') (kk : Z G X cc own n h k1 k2 pc' vs (.int (nI (a + b)) :: st)) : Z G X cc own n h k1 k2 pc vs (.int (nI b) :: .int (nI a) :: st) := z_iadd hd (by rw [nI_add]; exact kk)
theorem z_imulN {a b : Nat} (hd : In cc pc (.imul) 1 pc') (kk : Z G X cc own n h k1 k2 pc' vs (.int (nI (a * b)) :: st)) : Z G X cc own n h k1 k2 pc vs (.int (nI b) :: .int (nI a) :: st) := z_imul hd (by rw [pk_mul]; exact kk)
theorem z_isubN {a b : Nat} (hd : In cc pc (.isub) 1 pc') (hb : b ≤ a) (kk : Z G X cc own n h k1 k2 pc' vs (.int (nI (a - b)) :: st)) : Z G X cc own n h k1 k2 pc vs (.int (nI b) :: .int (nI a) :: st) := z_isub hd (by rw [pk_sub hb]; exact kk)
theorem z_idivN {a b : Nat} (hd : In cc pc (.idiv) 1 pc') (ha : a < 2 ^ 31) (h0 : 0 < b) (hb : b < 2 ^ 31) (kk : Z G X cc own n h k1 k2 pc' vs (.int (nI (a / b)) :: st)) : Z G X cc own n h k1 k2 pc vs (.int (nI b) :: .int (nI a) :: st) := z_idiv hd (nI_ne0 h0 hb) (by rw [pk_div ha h0 hb]; exact kk)
theorem z_iremN {a b : Nat} (hd : In cc pc (.irem) 1 pc') (ha : a < 2 ^ 31) (h0 : 0 < b) (hb : b < 2 ^ 31) (kk : Z G X cc own n h k1 k2 pc' vs (.int (nI (a % b)) :: st)) : Z G X cc own n h k1 k2 pc vs (.int (nI b) :: .int (nI a) :: st) := z_irem hd (nI_ne0 h0 hb) (by rw [pk_rem ha h0 hb]; exact kk)
theorem z_top {x y : Int32} (e : x = y) (kk : Z G X cc own n h k1 k2 pc vs (.int y :: st)) : Z G X cc own n h k1 k2 pc vs (.int x :: st) := by rw [e]; exact kk
theorem z_topl {x y : Int64} (e : x = y) (kk : Z G X cc own n h k1 k2 pc vs (.long y :: st)) : Z G X cc own n h k1 k2 pc vs (.long x :: st) := by rw [e]; exact kk
theorem z_tableIn {dflt lo hi : Int} {offs : Array Int} {len tgt : Nat} {x : Int32} {off : Int} (hd : In cc pc (.tableswitch dflt lo hi offs) len pc') (h1 : ¬ x.toInt < lo) (h2 : ¬ hi < x.toInt) (ho : offs[(x.toInt - lo).toNat]? = some off) (ht : (pc : Int) + off = (tgt : Int)) (kk : Z G X cc own n h k1 k2 tgt vs (st)) : Z G X cc own n h k1 k2 pc vs (.int x :: st) := by
  obtain ⟨hd, -⟩ := hd
  exact Z.row (pc' := tgt) (fun _ _ _ _ _ _ _ _ _ _ _ _ _ _ e1 e2 _ k => lv_tableIn e1 e2 hd h1 h2 ho ht k) kk
theorem z_tableOut {dflt lo hi : Int} {offs : Array Int} {len tgt : Nat} {x : Int32} (hd : In cc pc (.tableswitch dflt lo hi offs) len pc') (h1 : x.toInt < lo ∨ hi < x.toInt) (ht : (pc : Int) + dflt = (tgt : Int)) (kk : Z G X cc own n h k1 k2 tgt vs (st)) : Z G X cc own n h k1 k2 pc vs (.int x :: st) := by
  obtain ⟨hd, -⟩ := hd
  exact Z.row (pc' := tgt) (fun _ _ _ _ _ _ _ _ _ _ _ _ _ _ e1 e2 _ k => lv_tableOut e1 e2 hd h1 ht k) kk
theorem z_lookup {dflt : Int} {ps : Array (Int × Int)} {len tgt : Nat} {x : Int32} {off : Int} (hd : In cc pc (.lookupswitch dflt ps) len pc') (hp : (ps.toList.zip (ps.toList.drop 1)).all (fun (a, next) => a.1 < next.1) = true) (ho : Op.lookupswitch.offset ps.toList dflt x.toInt = off) (ht : (pc : Int) + off = (tgt : Int)) (kk : Z G X cc own n h k1 k2 tgt vs (st)) : Z G X cc own n h k1 k2 pc vs (.int x :: st) := by
  obtain ⟨hd, -⟩ := hd
  exact Z.row (pc' := tgt) (fun _ _ _ _ _ _ _ _ _ _ _ _ _ _ e1 e2 _ k => lv_lookup e1 e2 hd hp ho ht k) kk
theorem z_iload_0 {r : List (Option Value)} {x : Int32} (hd : In cc pc (.iload_n 0) 1 pc') (kk : Z G X cc own n h k1 k2 pc' (some (.int x) :: r) (.int x :: st)) : Z G X cc own n h k1 k2 pc (some (.int x) :: r) (st) := z_iloadG 0 hd rfl kk
theorem z_aload_0 {r : List (Option Value)} {x : Nat} (hd : In cc pc (.aload_n 0) 1 pc') (kk : Z G X cc own n h k1 k2 pc' (some (.ref x) :: r) (.ref x :: st)) : Z G X cc own n h k1 k2 pc (some (.ref x) :: r) (st) := z_aloadG 0 hd rfl kk
theorem z_lload_0 {r : List (Option Value)} {x : Int64} (hd : In cc pc (.lload_n 0) 1 pc') (kk : Z G X cc own n h k1 k2 pc' (some (.long x) :: r) (.long x :: st)) : Z G X cc own n h k1 k2 pc (some (.long x) :: r) (st) := z_lloadG 0 hd rfl kk
theorem z_istore_0 {w : Option Value} {r : List (Option Value)} {x : Int32} (hd : In cc pc (.istore_n 0) 1 pc') (kk : Z G X cc own n h k1 k2 pc' (some (.int x) :: r) (st)) : Z G X cc own n h k1 k2 pc (w :: r) (.int x :: st) := z_istoreG 0 hd rfl (by simp only [List.length_cons]; omega) rfl kk
theorem z_astore_0 {w : Option Value} {r : List (Option Value)} {x : Nat} (hd : In cc pc (.astore_n 0) 1 pc') (kk : Z G X cc own n h k1 k2 pc' (some (.ref x) :: r) (st)) : Z G X cc own n h k1 k2 pc (w :: r) (.ref x :: st) := z_astoreG 0 hd rfl (by simp only [List.length_cons]; omega) rfl kk
theorem z_lstore_0 {w w2 : Option Value} {r : List (Option Value)} {x : Int64} (hd : In cc pc (.lstore_n 0) 1 pc') (kk : Z G X cc own n h k1 k2 pc' (some (.long x) :: none :: r) (st)) : Z G X cc own n h k1 k2 pc (w :: w2 :: r) (.long x :: st) := z_lstoreG 0 hd rfl (by simp only [List.length_cons]; omega) rfl kk
theorem z_iinc_0 {r : List (Option Value)} {x : Int32} {d : Int} (hd : In cc pc (.iinc 0 d) 3 pc') (kk : Z G X cc own n h k1 k2 pc' (some (.int (x + Int32.ofInt d)) :: r) (st)) : Z G X cc own n h k1 k2 pc (some (.int x) :: r) (st) := z_iincG 0 hd rfl rfl rfl rfl kk
theorem z_iinc_0N {r : List (Option Value)} {a : Nat} (hd : In cc pc (.iinc 0 1) 3 pc') (kk : Z G X cc own n h k1 k2 pc' (some (.int (nI (a + 1))) :: r) (st)) : Z G X cc own n h k1 k2 pc (some (.int (nI a)) :: r) (st) := z_iincG 0 hd rfl (nI_1 a) rfl rfl kk
theorem z_iload_1 {v0 : Option Value} {r : List (Option Value)} {x : Int32} (hd : In cc pc (.iload_n 1) 1 pc') (kk : Z G X cc own n h k1 k2 pc' (v0 :: some (.int x) :: r) (.int x :: st)) : Z G X cc own n h k1 k2 pc (v0 :: some (.int x) :: r) (st) := z_iloadG 1 hd rfl kk
theorem z_aload_1 {v0 : Option Value} {r : List (Option Value)} {x : Nat} (hd : In cc pc (.aload_n 1) 1 pc') (kk : Z G X cc own n h k1 k2 pc' (v0 :: some (.ref x) :: r) (.ref x :: st)) : Z G X cc own n h k1 k2 pc (v0 :: some (.ref x) :: r) (st) := z_aloadG 1 hd rfl kk
theorem z_lload_1 {v0 : Option Value} {r : List (Option Value)} {x : Int64} (hd : In cc pc (.lload_n 1) 1 pc') (kk : Z G X cc own n h k1 k2 pc' (v0 :: some (.long x) :: r) (.long x :: st)) : Z G X cc own n h k1 k2 pc (v0 :: some (.long x) :: r) (st) := z_lloadG 1 hd rfl kk
theorem z_istore_1 {v0 : Option Value} {w : Option Value} {r : List (Option Value)} {x : Int32} (hd : In cc pc (.istore_n 1) 1 pc') (ho : ok1 [v0] 1 = true) (kk : Z G X cc own n h k1 k2 pc' (v0 :: some (.int x) :: r) (st)) : Z G X cc own n h k1 k2 pc (v0 :: w :: r) (.int x :: st) := z_istoreG 1 hd rfl (by simp only [List.length_cons]; omega) ho kk
theorem z_astore_1 {v0 : Option Value} {w : Option Value} {r : List (Option Value)} {x : Nat} (hd : In cc pc (.astore_n 1) 1 pc') (ho : ok1 [v0] 1 = true) (kk : Z G X cc own n h k1 k2 pc' (v0 :: some (.ref x) :: r) (st)) : Z G X cc own n h k1 k2 pc (v0 :: w :: r) (.ref x :: st) := z_astoreG 1 hd rfl (by simp only [List.length_cons]; omega) ho kk
theorem z_lstore_1 {v0 : Option Value} {w w2 : Option Value} {r : List (Option Value)} {x : Int64} (hd : In cc pc (.lstore_n 1) 1 pc') (ho : ok1 [v0] 1 = true) (kk : Z G X cc own n h k1 k2 pc' (v0 :: some (.long x) :: none :: r) (st)) : Z G X cc own n h k1 k2 pc (v0 :: w :: w2 :: r) (.long x :: st) := z_lstoreG 1 hd rfl (by simp only [List.length_cons]; omega) ho kk
theorem z_iinc_1 {v0 : Option Value} {r : List (Option Value)} {x : Int32} {d : Int} (hd : In cc pc (.iinc 1 d) 3 pc') (ho : ok1 [v0] 1 = true) (kk : Z G X cc own n h k1 k2 pc' (v0 :: some (.int (x + Int32.ofInt d)) :: r) (st)) : Z G X cc own n h k1 k2 pc (v0 :: some (.int x) :: r) (st) := z_iincG 1 hd rfl rfl rfl ho kk
theorem z_iinc_1N {v0 : Option Value} {r : List (Option Value)} {a : Nat} (hd : In cc pc (.iinc 1 1) 3 pc') (ho : ok1 [v0] 1 = true) (kk : Z G X cc own n h k1 k2 pc' (v0 :: some (.int (nI (a + 1))) :: r) (st)) : Z G X cc own n h k1 k2 pc (v0 :: some (.int (nI a)) :: r) (st) := z_iincG 1 hd rfl (nI_1 a) rfl ho kk
theorem z_iload_2 {v0 v1 : Option Value} {r : List (Option Value)} {x : Int32} (hd : In cc pc (.iload_n 2) 1 pc') (kk : Z G X cc own n h k1 k2 pc' (v0 :: v1 :: some (.int x) :: r) (.int x :: st)) : Z G X cc own n h k1 k2 pc (v0 :: v1 :: some (.int x) :: r) (st) := z_iloadG 2 hd rfl kk
theorem z_aload_2 {v0 v1 : Option Value} {r : List (Option Value)} {x : Nat} (hd : In cc pc (.aload_n 2) 1 pc') (kk : Z G X cc own n h k1 k2 pc' (v0 :: v1 :: some (.ref x) :: r) (.ref x :: st)) : Z G X cc own n h k1 k2 pc (v0 :: v1 :: some (.ref x) :: r) (st) := z_aloadG 2 hd rfl kk
theorem z_lload_2 {v0 v1 : Option Value} {r : List (Option Value)} {x : Int64} (hd : In cc pc (.lload_n 2) 1 pc') (kk : Z G X cc own n h k1 k2 pc' (v0 :: v1 :: some (.long x) :: r) (.long x :: st)) : Z G X cc own n h k1 k2 pc (v0 :: v1 :: some (.long x) :: r) (st) := z_lloadG 2 hd rfl kk
theorem z_istore_2 {v0 v1 : Option Value} {w : Option Value} {r : List (Option Value)} {x : Int32} (hd : In cc pc (.istore_n 2) 1 pc') (ho : ok1 [v1] 1 = true) (kk : Z G X cc own n h k1 k2 pc' (v0 :: v1 :: some (.int x) :: r) (st)) : Z G X cc own n h k1 k2 pc (v0 :: v1 :: w :: r) (.int x :: st) := z_istoreG 2 hd rfl (by simp only [List.length_cons]; omega) ho kk
theorem z_astore_2 {v0 v1 : Option Value} {w : Option Value} {r : List (Option Value)} {x : Nat} (hd : In cc pc (.astore_n 2) 1 pc') (ho : ok1 [v1] 1 = true) (kk : Z G X cc own n h k1 k2 pc' (v0 :: v1 :: some (.ref x) :: r) (st)) : Z G X cc own n h k1 k2 pc (v0 :: v1 :: w :: r) (.ref x :: st) := z_astoreG 2 hd rfl (by simp only [List.length_cons]; omega) ho kk
theorem z_lstore_2 {v0 v1 : Option Value} {w w2 : Option Value} {r : List (Option Value)} {x : Int64} (hd : In cc pc (.lstore_n 2) 1 pc') (ho : ok1 [v1] 1 = true) (kk : Z G X cc own n h k1 k2 pc' (v0 :: v1 :: some (.long x) :: none :: r) (st)) : Z G X cc own n h k1 k2 pc (v0 :: v1 :: w :: w2 :: r) (.long x :: st) := z_lstoreG 2 hd rfl (by simp only [List.length_cons]; omega) ho kk
theorem z_iinc_2 {v0 v1 : Option Value} {r : List (Option Value)} {x : Int32} {d : Int} (hd : In cc pc (.iinc 2 d) 3 pc') (ho : ok1 [v1] 1 = true) (kk : Z G X cc own n h k1 k2 pc' (v0 :: v1 :: some (.int (x + Int32.ofInt d)) :: r) (st)) : Z G X cc own n h k1 k2 pc (v0 :: v1 :: some (.int x) :: r) (st) := z_iincG 2 hd rfl rfl rfl ho kk
theorem z_iinc_2N {v0 v1 : Option Value} {r : List (Option Value)} {a : Nat} (hd : In cc pc (.iinc 2 1) 3 pc') (ho : ok1 [v1] 1 = true) (kk : Z G X cc own n h k1 k2 pc' (v0 :: v1 :: some (.int (nI (a + 1))) :: r) (st)) : Z G X cc own n h k1 k2 pc (v0 :: v1 :: some (.int (nI a)) :: r) (st) := z_iincG 2 hd rfl (nI_1 a) rfl ho kk
theorem z_iload_3 {v0 v1 v2 : Option Value} {r : List (Option Value)} {x : Int32} (hd : In cc pc (.iload_n 3) 1 pc') (kk : Z G X cc own n h k1 k2 pc' (v0 :: v1 :: v2 :: some (.int x) :: r) (.int x :: st)) : Z G X cc own n h k1 k2 pc (v0 :: v1 :: v2 :: some (.int x) :: r) (st) := z_iloadG 3 hd rfl kk
theorem z_aload_3 {v0 v1 v2 : Option Value} {r : List (Option Value)} {x : Nat} (hd : In cc pc (.aload_n 3) 1 pc') (kk : Z G X cc own n h k1 k2 pc' (v0 :: v1 :: v2 :: some (.ref x) :: r) (.ref x :: st)) : Z G X cc own n h k1 k2 pc (v0 :: v1 :: v2 :: some (.ref x) :: r) (st) := z_aloadG 3 hd rfl kk
theorem z_lload_3 {v0 v1 v2 : Option Value} {r : List (Option Value)} {x : Int64} (hd : In cc pc (.lload_n 3) 1 pc') (kk : Z G X cc own n h k1 k2 pc' (v0 :: v1 :: v2 :: some (.long x) :: r) (.long x :: st)) : Z G X cc own n h k1 k2 pc (v0 :: v1 :: v2 :: some (.long x) :: r) (st) := z_lloadG 3 hd rfl kk
theorem z_istore_3 {v0 v1 v2 : Option Value} {w : Option Value} {r : List (Option Value)} {x : Int32} (hd : In cc pc (.istore_n 3) 1 pc') (ho : ok1 [v2] 1 = true) (kk : Z G X cc own n h k1 k2 pc' (v0 :: v1 :: v2 :: some (.int x) :: r) (st)) : Z G X cc own n h k1 k2 pc (v0 :: v1 :: v2 :: w :: r) (.int x :: st) := z_istoreG 3 hd rfl (by simp only [List.length_cons]; omega) ho kk
theorem z_astore_3 {v0 v1 v2 : Option Value} {w : Option Value} {r : List (Option Value)} {x : Nat} (hd : In cc pc (.astore_n 3) 1 pc') (ho : ok1 [v2] 1 = true) (kk : Z G X cc own n h k1 k2 pc' (v0 :: v1 :: v2 :: some (.ref x) :: r) (st)) : Z G X cc own n h k1 k2 pc (v0 :: v1 :: v2 :: w :: r) (.ref x :: st) := z_astoreG 3 hd rfl (by simp only [List.length_cons]; omega) ho kk
theorem z_lstore_3 {v0 v1 v2 : Option Value} {w w2 : Option Value} {r : List (Option Value)} {x : Int64} (hd : In cc pc (.lstore_n 3) 1 pc') (ho : ok1 [v2] 1 = true) (kk : Z G X cc own n h k1 k2 pc' (v0 :: v1 :: v2 :: some (.long x) :: none :: r) (st)) : Z G X cc own n h k1 k2 pc (v0 :: v1 :: v2 :: w :: w2 :: r) (.long x :: st) := z_lstoreG 3 hd rfl (by simp only [List.length_cons]; omega) ho kk
theorem z_iinc_3 {v0 v1 v2 : Option Value} {r : List (Option Value)} {x : Int32} {d : Int} (hd : In cc pc (.iinc 3 d) 3 pc') (ho : ok1 [v2] 1 = true) (kk : Z G X cc own n h k1 k2 pc' (v0 :: v1 :: v2 :: some (.int (x + Int32.ofInt d)) :: r) (st)) : Z G X cc own n h k1 k2 pc (v0 :: v1 :: v2 :: some (.int x) :: r) (st) := z_iincG 3 hd rfl rfl rfl ho kk
theorem z_iinc_3N {v0 v1 v2 : Option Value} {r : List (Option Value)} {a : Nat} (hd : In cc pc (.iinc 3 1) 3 pc') (ho : ok1 [v2] 1 = true) (kk : Z G X cc own n h k1 k2 pc' (v0 :: v1 :: v2 :: some (.int (nI (a + 1))) :: r) (st)) : Z G X cc own n h k1 k2 pc (v0 :: v1 :: v2 :: some (.int (nI a)) :: r) (st) := z_iincG 3 hd rfl (nI_1 a) rfl ho kk
theorem z_iload_4 {v0 v1 v2 v3 : Option Value} {r : List (Option Value)} {x : Int32} (hd : In cc pc (.iload 4) 2 pc') (kk : Z G X cc own n h k1 k2 pc' (v0 :: v1 :: v2 :: v3 :: some (.int x) :: r) (.int x :: st)) : Z G X cc own n h k1 k2 pc (v0 :: v1 :: v2 :: v3 :: some (.int x) :: r) (st) := z_iloadH 4 hd rfl kk
theorem z_lload_4 {v0 v1 v2 v3 : Option Value} {r : List (Option Value)} {x : Int64} (hd : In cc pc (.lload 4) 2 pc') (kk : Z G X cc own n h k1 k2 pc' (v0 :: v1 :: v2 :: v3 :: some (.long x) :: r) (.long x :: st)) : Z G X cc own n h k1 k2 pc (v0 :: v1 :: v2 :: v3 :: some (.long x) :: r) (st) := z_lloadH 4 hd rfl kk
theorem z_istore_4 {v0 v1 v2 v3 : Option Value} {w : Option Value} {r : List (Option Value)} {x : Int32} (hd : In cc pc (.istore 4) 2 pc') (ho : ok1 [v3] 1 = true) (kk : Z G X cc own n h k1 k2 pc' (v0 :: v1 :: v2 :: v3 :: some (.int x) :: r) (st)) : Z G X cc own n h k1 k2 pc (v0 :: v1 :: v2 :: v3 :: w :: r) (.int x :: st) := z_istoreH 4 hd rfl (by simp only [List.length_cons]; omega) ho kk
theorem z_iinc_4 {v0 v1 v2 v3 : Option Value} {r : List (Option Value)} {x : Int32} {d : Int} (hd : In cc pc (.iinc 4 d) 3 pc') (ho : ok1 [v3] 1 = true) (kk : Z G X cc own n h k1 k2 pc' (v0 :: v1 :: v2 :: v3 :: some (.int (x + Int32.ofInt d)) :: r) (st)) : Z G X cc own n h k1 k2 pc (v0 :: v1 :: v2 :: v3 :: some (.int x) :: r) (st) := z_iincG 4 hd rfl rfl rfl ho kk
theorem z_iinc_4N {v0 v1 v2 v3 : Option Value} {r : List (Option Value)} {a : Nat} (hd : In cc pc (.iinc 4 1) 3 pc') (ho : ok1 [v3] 1 = true) (kk : Z G X cc own n h k1 k2 pc' (v0 :: v1 :: v2 :: v3 :: some (.int (nI (a + 1))) :: r) (st)) : Z G X cc own n h k1 k2 pc (v0 :: v1 :: v2 :: v3 :: some (.int (nI a)) :: r) (st) := z_iincG 4 hd rfl (nI_1 a) rfl ho kk
theorem z_iload_5 {v0 v1 v2 v3 v4 : Option Value} {r : List (Option Value)} {x : Int32} (hd : In cc pc (.iload 5) 2 pc') (kk : Z G X cc own n h k1 k2 pc' (v0 :: v1 :: v2 :: v3 :: v4 :: some (.int x) :: r) (.int x :: st)) : Z G X cc own n h k1 k2 pc (v0 :: v1 :: v2 :: v3 :: v4 :: some (.int x) :: r) (st) := z_iloadH 5 hd rfl kk
theorem z_lload_5 {v0 v1 v2 v3 v4 : Option Value} {r : List (Option Value)} {x : Int64} (hd : In cc pc (.lload 5) 2 pc') (kk : Z G X cc own n h k1 k2 pc' (v0 :: v1 :: v2 :: v3 :: v4 :: some (.long x) :: r) (.long x :: st)) : Z G X cc own n h k1 k2 pc (v0 :: v1 :: v2 :: v3 :: v4 :: some (.long x) :: r) (st) := z_lloadH 5 hd rfl kk
theorem z_istore_5 {v0 v1 v2 v3 v4 : Option Value} {w : Option Value} {r : List (Option Value)} {x : Int32} (hd : In cc pc (.istore 5) 2 pc') (ho : ok1 [v4] 1 = true) (kk : Z G X cc own n h k1 k2 pc' (v0 :: v1 :: v2 :: v3 :: v4 :: some (.int x) :: r) (st)) : Z G X cc own n h k1 k2 pc (v0 :: v1 :: v2 :: v3 :: v4 :: w :: r) (.int x :: st) := z_istoreH 5 hd rfl (by simp only [List.length_cons]; omega) ho kk
theorem z_iinc_5 {v0 v1 v2 v3 v4 : Option Value} {r : List (Option Value)} {x : Int32} {d : Int} (hd : In cc pc (.iinc 5 d) 3 pc') (ho : ok1 [v4] 1 = true) (kk : Z G X cc own n h k1 k2 pc' (v0 :: v1 :: v2 :: v3 :: v4 :: some (.int (x + Int32.ofInt d)) :: r) (st)) : Z G X cc own n h k1 k2 pc (v0 :: v1 :: v2 :: v3 :: v4 :: some (.int x) :: r) (st) := z_iincG 5 hd rfl rfl rfl ho kk
theorem z_iinc_5N {v0 v1 v2 v3 v4 : Option Value} {r : List (Option Value)} {a : Nat} (hd : In cc pc (.iinc 5 1) 3 pc') (ho : ok1 [v4] 1 = true) (kk : Z G X cc own n h k1 k2 pc' (v0 :: v1 :: v2 :: v3 :: v4 :: some (.int (nI (a + 1))) :: r) (st)) : Z G X cc own n h k1 k2 pc (v0 :: v1 :: v2 :: v3 :: v4 :: some (.int (nI a)) :: r) (st) := z_iincG 5 hd rfl (nI_1 a) rfl ho kk
theorem z_iload_6 {v0 v1 v2 v3 v4 v5 : Option Value} {r : List (Option Value)} {x : Int32} (hd : In cc pc (.iload 6) 2 pc') (kk : Z G X cc own n h k1 k2 pc' (v0 :: v1 :: v2 :: v3 :: v4 :: v5 :: some (.int x) :: r) (.int x :: st)) : Z G X cc own n h k1 k2 pc (v0 :: v1 :: v2 :: v3 :: v4 :: v5 :: some (.int x) :: r) (st) := z_iloadH 6 hd rfl kk
theorem z_lload_6 {v0 v1 v2 v3 v4 v5 : Option Value} {r : List (Option Value)} {x : Int64} (hd : In cc pc (.lload 6) 2 pc') (kk : Z G X cc own n h k1 k2 pc' (v0 :: v1 :: v2 :: v3 :: v4 :: v5 :: some (.long x) :: r) (.long x :: st)) : Z G X cc own n h k1 k2 pc (v0 :: v1 :: v2 :: v3 :: v4 :: v5 :: some (.long x) :: r) (st) := z_lloadH 6 hd rfl kk
theorem z_istore_6 {v0 v1 v2 v3 v4 v5 : Option Value} {w : Option Value} {r : List (Option Value)} {x : Int32} (hd : In cc pc (.istore 6) 2 pc') (ho : ok1 [v5] 1 = true) (kk : Z G X cc own n h k1 k2 pc' (v0 :: v1 :: v2 :: v3 :: v4 :: v5 :: some (.int x) :: r) (st)) : Z G X cc own n h k1 k2 pc (v0 :: v1 :: v2 :: v3 :: v4 :: v5 :: w :: r) (.int x :: st) := z_istoreH 6 hd rfl (by simp only [List.length_cons]; omega) ho kk
theorem z_iinc_6 {v0 v1 v2 v3 v4 v5 : Option Value} {r : List (Option Value)} {x : Int32} {d : Int} (hd : In cc pc (.iinc 6 d) 3 pc') (ho : ok1 [v5] 1 = true) (kk : Z G X cc own n h k1 k2 pc' (v0 :: v1 :: v2 :: v3 :: v4 :: v5 :: some (.int (x + Int32.ofInt d)) :: r) (st)) : Z G X cc own n h k1 k2 pc (v0 :: v1 :: v2 :: v3 :: v4 :: v5 :: some (.int x) :: r) (st) := z_iincG 6 hd rfl rfl rfl ho kk
theorem z_iinc_6N {v0 v1 v2 v3 v4 v5 : Option Value} {r : List (Option Value)} {a : Nat} (hd : In cc pc (.iinc 6 1) 3 pc') (ho : ok1 [v5] 1 = true) (kk : Z G X cc own n h k1 k2 pc' (v0 :: v1 :: v2 :: v3 :: v4 :: v5 :: some (.int (nI (a + 1))) :: r) (st)) : Z G X cc own n h k1 k2 pc (v0 :: v1 :: v2 :: v3 :: v4 :: v5 :: some (.int (nI a)) :: r) (st) := z_iincG 6 hd rfl (nI_1 a) rfl ho kk
theorem z_iload_7 {v0 v1 v2 v3 v4 v5 v6 : Option Value} {r : List (Option Value)} {x : Int32} (hd : In cc pc (.iload 7) 2 pc') (kk : Z G X cc own n h k1 k2 pc' (v0 :: v1 :: v2 :: v3 :: v4 :: v5 :: v6 :: some (.int x) :: r) (.int x :: st)) : Z G X cc own n h k1 k2 pc (v0 :: v1 :: v2 :: v3 :: v4 :: v5 :: v6 :: some (.int x) :: r) (st) := z_iloadH 7 hd rfl kk
theorem z_lload_7 {v0 v1 v2 v3 v4 v5 v6 : Option Value} {r : List (Option Value)} {x : Int64} (hd : In cc pc (.lload 7) 2 pc') (kk : Z G X cc own n h k1 k2 pc' (v0 :: v1 :: v2 :: v3 :: v4 :: v5 :: v6 :: some (.long x) :: r) (.long x :: st)) : Z G X cc own n h k1 k2 pc (v0 :: v1 :: v2 :: v3 :: v4 :: v5 :: v6 :: some (.long x) :: r) (st) := z_lloadH 7 hd rfl kk
theorem z_istore_7 {v0 v1 v2 v3 v4 v5 v6 : Option Value} {w : Option Value} {r : List (Option Value)} {x : Int32} (hd : In cc pc (.istore 7) 2 pc') (ho : ok1 [v6] 1 = true) (kk : Z G X cc own n h k1 k2 pc' (v0 :: v1 :: v2 :: v3 :: v4 :: v5 :: v6 :: some (.int x) :: r) (st)) : Z G X cc own n h k1 k2 pc (v0 :: v1 :: v2 :: v3 :: v4 :: v5 :: v6 :: w :: r) (.int x :: st) := z_istoreH 7 hd rfl (by simp only [List.length_cons]; omega) ho kk
theorem z_iinc_7 {v0 v1 v2 v3 v4 v5 v6 : Option Value} {r : List (Option Value)} {x : Int32} {d : Int} (hd : In cc pc (.iinc 7 d) 3 pc') (ho : ok1 [v6] 1 = true) (kk : Z G X cc own n h k1 k2 pc' (v0 :: v1 :: v2 :: v3 :: v4 :: v5 :: v6 :: some (.int (x + Int32.ofInt d)) :: r) (st)) : Z G X cc own n h k1 k2 pc (v0 :: v1 :: v2 :: v3 :: v4 :: v5 :: v6 :: some (.int x) :: r) (st) := z_iincG 7 hd rfl rfl rfl ho kk
theorem z_iinc_7N {v0 v1 v2 v3 v4 v5 v6 : Option Value} {r : List (Option Value)} {a : Nat} (hd : In cc pc (.iinc 7 1) 3 pc') (ho : ok1 [v6] 1 = true) (kk : Z G X cc own n h k1 k2 pc' (v0 :: v1 :: v2 :: v3 :: v4 :: v5 :: v6 :: some (.int (nI (a + 1))) :: r) (st)) : Z G X cc own n h k1 k2 pc (v0 :: v1 :: v2 :: v3 :: v4 :: v5 :: v6 :: some (.int (nI a)) :: r) (st) := z_iincG 7 hd rfl (nI_1 a) rfl ho kk
theorem z_iload_8 {v0 v1 v2 v3 v4 v5 v6 v7 : Option Value} {r : List (Option Value)} {x : Int32} (hd : In cc pc (.iload 8) 2 pc') (kk : Z G X cc own n h k1 k2 pc' (v0 :: v1 :: v2 :: v3 :: v4 :: v5 :: v6 :: v7 :: some (.int x) :: r) (.int x :: st)) : Z G X cc own n h k1 k2 pc (v0 :: v1 :: v2 :: v3 :: v4 :: v5 :: v6 :: v7 :: some (.int x) :: r) (st) := z_iloadH 8 hd rfl kk
theorem z_lload_8 {v0 v1 v2 v3 v4 v5 v6 v7 : Option Value} {r : List (Option Value)} {x : Int64} (hd : In cc pc (.lload 8) 2 pc') (kk : Z G X cc own n h k1 k2 pc' (v0 :: v1 :: v2 :: v3 :: v4 :: v5 :: v6 :: v7 :: some (.long x) :: r) (.long x :: st)) : Z G X cc own n h k1 k2 pc (v0 :: v1 :: v2 :: v3 :: v4 :: v5 :: v6 :: v7 :: some (.long x) :: r) (st) := z_lloadH 8 hd rfl kk
theorem z_istore_8 {v0 v1 v2 v3 v4 v5 v6 v7 : Option Value} {w : Option Value} {r : List (Option Value)} {x : Int32} (hd : In cc pc (.istore 8) 2 pc') (ho : ok1 [v7] 1 = true) (kk : Z G X cc own n h k1 k2 pc' (v0 :: v1 :: v2 :: v3 :: v4 :: v5 :: v6 :: v7 :: some (.int x) :: r) (st)) : Z G X cc own n h k1 k2 pc (v0 :: v1 :: v2 :: v3 :: v4 :: v5 :: v6 :: v7 :: w :: r) (.int x :: st) := z_istoreH 8 hd rfl (by simp only [List.length_cons]; omega) ho kk
theorem z_iinc_8 {v0 v1 v2 v3 v4 v5 v6 v7 : Option Value} {r : List (Option Value)} {x : Int32} {d : Int} (hd : In cc pc (.iinc 8 d) 3 pc') (ho : ok1 [v7] 1 = true) (kk : Z G X cc own n h k1 k2 pc' (v0 :: v1 :: v2 :: v3 :: v4 :: v5 :: v6 :: v7 :: some (.int (x + Int32.ofInt d)) :: r) (st)) : Z G X cc own n h k1 k2 pc (v0 :: v1 :: v2 :: v3 :: v4 :: v5 :: v6 :: v7 :: some (.int x) :: r) (st) := z_iincG 8 hd rfl rfl rfl ho kk
theorem z_iinc_8N {v0 v1 v2 v3 v4 v5 v6 v7 : Option Value} {r : List (Option Value)} {a : Nat} (hd : In cc pc (.iinc 8 1) 3 pc') (ho : ok1 [v7] 1 = true) (kk : Z G X cc own n h k1 k2 pc' (v0 :: v1 :: v2 :: v3 :: v4 :: v5 :: v6 :: v7 :: some (.int (nI (a + 1))) :: r) (st)) : Z G X cc own n h k1 k2 pc (v0 :: v1 :: v2 :: v3 :: v4 :: v5 :: v6 :: v7 :: some (.int (nI a)) :: r) (st) := z_iincG 8 hd rfl (nI_1 a) rfl ho kk
theorem z_iload_9 {v0 v1 v2 v3 v4 v5 v6 v7 v8 : Option Value} {r : List (Option Value)} {x : Int32} (hd : In cc pc (.iload 9) 2 pc') (kk : Z G X cc own n h k1 k2 pc' (v0 :: v1 :: v2 :: v3 :: v4 :: v5 :: v6 :: v7 :: v8 :: some (.int x) :: r) (.int x :: st)) : Z G X cc own n h k1 k2 pc (v0 :: v1 :: v2 :: v3 :: v4 :: v5 :: v6 :: v7 :: v8 :: some (.int x) :: r) (st) := z_iloadH 9 hd rfl kk
theorem z_lload_9 {v0 v1 v2 v3 v4 v5 v6 v7 v8 : Option Value} {r : List (Option Value)} {x : Int64} (hd : In cc pc (.lload 9) 2 pc') (kk : Z G X cc own n h k1 k2 pc' (v0 :: v1 :: v2 :: v3 :: v4 :: v5 :: v6 :: v7 :: v8 :: some (.long x) :: r) (.long x :: st)) : Z G X cc own n h k1 k2 pc (v0 :: v1 :: v2 :: v3 :: v4 :: v5 :: v6 :: v7 :: v8 :: some (.long x) :: r) (st) := z_lloadH 9 hd rfl kk
theorem z_istore_9 {v0 v1 v2 v3 v4 v5 v6 v7 v8 : Option Value} {w : Option Value} {r : List (Option Value)} {x : Int32} (hd : In cc pc (.istore 9) 2 pc') (ho : ok1 [v8] 1 = true) (kk : Z G X cc own n h k1 k2 pc' (v0 :: v1 :: v2 :: v3 :: v4 :: v5 :: v6 :: v7 :: v8 :: some (.int x) :: r) (st)) : Z G X cc own n h k1 k2 pc (v0 :: v1 :: v2 :: v3 :: v4 :: v5 :: v6 :: v7 :: v8 :: w :: r) (.int x :: st) := z_istoreH 9 hd rfl (by simp only [List.length_cons]; omega) ho kk
theorem z_iinc_9 {v0 v1 v2 v3 v4 v5 v6 v7 v8 : Option Value} {r : List (Option Value)} {x : Int32} {d : Int} (hd : In cc pc (.iinc 9 d) 3 pc') (ho : ok1 [v8] 1 = true) (kk : Z G X cc own n h k1 k2 pc' (v0 :: v1 :: v2 :: v3 :: v4 :: v5 :: v6 :: v7 :: v8 :: some (.int (x + Int32.ofInt d)) :: r) (st)) : Z G X cc own n h k1 k2 pc (v0 :: v1 :: v2 :: v3 :: v4 :: v5 :: v6 :: v7 :: v8 :: some (.int x) :: r) (st) := z_iincG 9 hd rfl rfl rfl ho kk
theorem z_iinc_9N {v0 v1 v2 v3 v4 v5 v6 v7 v8 : Option Value} {r : List (Option Value)} {a : Nat} (hd : In cc pc (.iinc 9 1) 3 pc') (ho : ok1 [v8] 1 = true) (kk : Z G X cc own n h k1 k2 pc' (v0 :: v1 :: v2 :: v3 :: v4 :: v5 :: v6 :: v7 :: v8 :: some (.int (nI (a + 1))) :: r) (st)) : Z G X cc own n h k1 k2 pc (v0 :: v1 :: v2 :: v3 :: v4 :: v5 :: v6 :: v7 :: v8 :: some (.int (nI a)) :: r) (st) := z_iincG 9 hd rfl (nI_1 a) rfl ho kk
theorem z_iload_10 {v0 v1 v2 v3 v4 v5 v6 v7 v8 v9 : Option Value} {r : List (Option Value)} {x : Int32} (hd : In cc pc (.iload 10) 2 pc') (kk : Z G X cc own n h k1 k2 pc' (v0 :: v1 :: v2 :: v3 :: v4 :: v5 :: v6 :: v7 :: v8 :: v9 :: some (.int x) :: r) (.int x :: st)) : Z G X cc own n h k1 k2 pc (v0 :: v1 :: v2 :: v3 :: v4 :: v5 :: v6 :: v7 :: v8 :: v9 :: some (.int x) :: r) (st) := z_iloadH 10 hd rfl kk
theorem z_lload_10 {v0 v1 v2 v3 v4 v5 v6 v7 v8 v9 : Option Value} {r : List (Option Value)} {x : Int64} (hd : In cc pc (.lload 10) 2 pc') (kk : Z G X cc own n h k1 k2 pc' (v0 :: v1 :: v2 :: v3 :: v4 :: v5 :: v6 :: v7 :: v8 :: v9 :: some (.long x) :: r) (.long x :: st)) : Z G X cc own n h k1 k2 pc (v0 :: v1 :: v2 :: v3 :: v4 :: v5 :: v6 :: v7 :: v8 :: v9 :: some (.long x) :: r) (st) := z_lloadH 10 hd rfl kk
theorem z_istore_10 {v0 v1 v2 v3 v4 v5 v6 v7 v8 v9 : Option Value} {w : Option Value} {r : List (Option Value)} {x : Int32} (hd : In cc pc (.istore 10) 2 pc') (ho : ok1 [v9] 1 = true) (kk : Z G X cc own n h k1 k2 pc' (v0 :: v1 :: v2 :: v3 :: v4 :: v5 :: v6 :: v7 :: v8 :: v9 :: some (.int x) :: r) (st)) : Z G X cc own n h k1 k2 pc (v0 :: v1 :: v2 :: v3 :: v4 :: v5 :: v6 :: v7 :: v8 :: v9 :: w :: r) (.int x :: st) := z_istoreH 10 hd rfl (by simp only [List.length_cons]; omega) ho kk
theorem z_iinc_10 {v0 v1 v2 v3 v4 v5 v6 v7 v8 v9 : Option Value} {r : List (Option Value)} {x : Int32} {d : Int} (hd : In cc pc (.iinc 10 d) 3 pc') (ho : ok1 [v9] 1 = true) (kk : Z G X cc own n h k1 k2 pc' (v0 :: v1 :: v2 :: v3 :: v4 :: v5 :: v6 :: v7 :: v8 :: v9 :: some (.int (x + Int32.ofInt d)) :: r) (st)) : Z G X cc own n h k1 k2 pc (v0 :: v1 :: v2 :: v3 :: v4 :: v5 :: v6 :: v7 :: v8 :: v9 :: some (.int x) :: r) (st) := z_iincG 10 hd rfl rfl rfl ho kk
theorem z_iinc_10N {v0 v1 v2 v3 v4 v5 v6 v7 v8 v9 : Option Value} {r : List (Option Value)} {a : Nat} (hd : In cc pc (.iinc 10 1) 3 pc') (ho : ok1 [v9] 1 = true) (kk : Z G X cc own n h k1 k2 pc' (v0 :: v1 :: v2 :: v3 :: v4 :: v5 :: v6 :: v7 :: v8 :: v9 :: some (.int (nI (a + 1))) :: r) (st)) : Z G X cc own n h k1 k2 pc (v0 :: v1 :: v2 :: v3 :: v4 :: v5 :: v6 :: v7 :: v8 :: v9 :: some (.int (nI a)) :: r) (st) := z_iincG 10 hd rfl (nI_1 a) rfl ho kk
theorem z_iload_11 {v0 v1 v2 v3 v4 v5 v6 v7 v8 v9 v10 : Option Value} {r : List (Option Value)} {x : Int32} (hd : In cc pc (.iload 11) 2 pc') (kk : Z G X cc own n h k1 k2 pc' (v0 :: v1 :: v2 :: v3 :: v4 :: v5 :: v6 :: v7 :: v8 :: v9 :: v10 :: some (.int x) :: r) (.int x :: st)) : Z G X cc own n h k1 k2 pc (v0 :: v1 :: v2 :: v3 :: v4 :: v5 :: v6 :: v7 :: v8 :: v9 :: v10 :: some (.int x) :: r) (st) := z_iloadH 11 hd rfl kk
theorem z_lload_11 {v0 v1 v2 v3 v4 v5 v6 v7 v8 v9 v10 : Option Value} {r : List (Option Value)} {x : Int64} (hd : In cc pc (.lload 11) 2 pc') (kk : Z G X cc own n h k1 k2 pc' (v0 :: v1 :: v2 :: v3 :: v4 :: v5 :: v6 :: v7 :: v8 :: v9 :: v10 :: some (.long x) :: r) (.long x :: st)) : Z G X cc own n h k1 k2 pc (v0 :: v1 :: v2 :: v3 :: v4 :: v5 :: v6 :: v7 :: v8 :: v9 :: v10 :: some (.long x) :: r) (st) := z_lloadH 11 hd rfl kk
theorem z_istore_11 {v0 v1 v2 v3 v4 v5 v6 v7 v8 v9 v10 : Option Value} {w : Option Value} {r : List (Option Value)} {x : Int32} (hd : In cc pc (.istore 11) 2 pc') (ho : ok1 [v10] 1 = true) (kk : Z G X cc own n h k1 k2 pc' (v0 :: v1 :: v2 :: v3 :: v4 :: v5 :: v6 :: v7 :: v8 :: v9 :: v10 :: some (.int x) :: r) (st)) : Z G X cc own n h k1 k2 pc (v0 :: v1 :: v2 :: v3 :: v4 :: v5 :: v6 :: v7 :: v8 :: v9 :: v10 :: w :: r) (.int x :: st) := z_istoreH 11 hd rfl (by simp only [List.length_cons]; omega) ho kk
theorem z_iinc_11 {v0 v1 v2 v3 v4 v5 v6 v7 v8 v9 v10 : Option Value} {r : List (Option Value)} {x : Int32} {d : Int} (hd : In cc pc (.iinc 11 d) 3 pc') (ho : ok1 [v10] 1 = true) (kk : Z G X cc own n h k1 k2 pc' (v0 :: v1 :: v2 :: v3 :: v4 :: v5 :: v6 :: v7 :: v8 :: v9 :: v10 :: some (.int (x + Int32.ofInt d)) :: r) (st)) : Z G X cc own n h k1 k2 pc (v0 :: v1 :: v2 :: v3 :: v4 :: v5 :: v6 :: v7 :: v8 :: v9 :: v10 :: some (.int x) :: r) (st) := z_iincG 11 hd rfl rfl rfl ho kk
theorem z_iinc_11N {v0 v1 v2 v3 v4 v5 v6 v7 v8 v9 v10 : Option Value} {r : List (Option Value)} {a : Nat} (hd : In cc pc (.iinc 11 1) 3 pc') (ho : ok1 [v10] 1 = true) (kk : Z G X cc own n h k1 k2 pc' (v0 :: v1 :: v2 :: v3 :: v4 :: v5 :: v6 :: v7 :: v8 :: v9 :: v10 :: some (.int (nI (a + 1))) :: r) (st)) : Z G X cc own n h k1 k2 pc (v0 :: v1 :: v2 :: v3 :: v4 :: v5 :: v6 :: v7 :: v8 :: v9 :: v10 :: some (.int (nI a)) :: r) (st) := z_iincG 11 hd rfl (nI_1 a) rfl ho kk
theorem z_iload_12 {v0 v1 v2 v3 v4 v5 v6 v7 v8 v9 v10 v11 : Option Value} {r : List (Option Value)} {x : Int32} (hd : In cc pc (.iload 12) 2 pc') (kk : Z G X cc own n h k1 k2 pc' (v0 :: v1 :: v2 :: v3 :: v4 :: v5 :: v6 :: v7 :: v8 :: v9 :: v10 :: v11 :: some (.int x) :: r) (.int x :: st)) : Z G X cc own n h k1 k2 pc (v0 :: v1 :: v2 :: v3 :: v4 :: v5 :: v6 :: v7 :: v8 :: v9 :: v10 :: v11 :: some (.int x) :: r) (st) := z_iloadH 12 hd rfl kk
theorem z_lload_12 {v0 v1 v2 v3 v4 v5 v6 v7 v8 v9 v10 v11 : Option Value} {r : List (Option Value)} {x : Int64} (hd : In cc pc (.lload 12) 2 pc') (kk : Z G X cc own n h k1 k2 pc' (v0 :: v1 :: v2 :: v3 :: v4 :: v5 :: v6 :: v7 :: v8 :: v9 :: v10 :: v11 :: some (.long x) :: r) (.long x :: st)) : Z G X cc own n h k1 k2 pc (v0 :: v1 :: v2 :: v3 :: v4 :: v5 :: v6 :: v7 :: v8 :: v9 :: v10 :: v11 :: some (.long x) :: r) (st) := z_lloadH 12 hd rfl kk
theorem z_istore_12 {v0 v1 v2 v3 v4 v5 v6 v7 v8 v9 v10 v11 : Option Value} {w : Option Value} {r : List (Option Value)} {x : Int32} (hd : In cc pc (.istore 12) 2 pc') (ho : ok1 [v11] 1 = true) (kk : Z G X cc own n h k1 k2 pc' (v0 :: v1 :: v2 :: v3 :: v4 :: v5 :: v6 :: v7 :: v8 :: v9 :: v10 :: v11 :: some (.int x) :: r) (st)) : Z G X cc own n h k1 k2 pc (v0 :: v1 :: v2 :: v3 :: v4 :: v5 :: v6 :: v7 :: v8 :: v9 :: v10 :: v11 :: w :: r) (.int x :: st) := z_istoreH 12 hd rfl (by simp only [List.length_cons]; omega) ho kk
theorem z_iinc_12 {v0 v1 v2 v3 v4 v5 v6 v7 v8 v9 v10 v11 : Option Value} {r : List (Option Value)} {x : Int32} {d : Int} (hd : In cc pc (.iinc 12 d) 3 pc') (ho : ok1 [v11] 1 = true) (kk : Z G X cc own n h k1 k2 pc' (v0 :: v1 :: v2 :: v3 :: v4 :: v5 :: v6 :: v7 :: v8 :: v9 :: v10 :: v11 :: some (.int (x + Int32.ofInt d)) :: r) (st)) : Z G X cc own n h k1 k2 pc (v0 :: v1 :: v2 :: v3 :: v4 :: v5 :: v6 :: v7 :: v8 :: v9 :: v10 :: v11 :: some (.int x) :: r) (st) := z_iincG 12 hd rfl rfl rfl ho kk
theorem z_iinc_12N {v0 v1 v2 v3 v4 v5 v6 v7 v8 v9 v10 v11 : Option Value} {r : List (Option Value)} {a : Nat} (hd : In cc pc (.iinc 12 1) 3 pc') (ho : ok1 [v11] 1 = true) (kk : Z G X cc own n h k1 k2 pc' (v0 :: v1 :: v2 :: v3 :: v4 :: v5 :: v6 :: v7 :: v8 :: v9 :: v10 :: v11 :: some (.int (nI (a + 1))) :: r) (st)) : Z G X cc own n h k1 k2 pc (v0 :: v1 :: v2 :: v3 :: v4 :: v5 :: v6 :: v7 :: v8 :: v9 :: v10 :: v11 :: some (.int (nI a)) :: r) (st) := z_iincG 12 hd rfl (nI_1 a) rfl ho kk
end ZR

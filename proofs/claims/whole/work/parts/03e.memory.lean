/-! THE MEMORY: what the cells of the layout hold: ints by address and place, longs, the row of acts -/
abbrev Mem : Type := (Nat → Nat → Int32) × (Nat → Int64) × (Nat → Nat)
def fv (G : qG) (μ : Mem) (a k : Nat) (d : Option (Option Nat)) : Value := match d with
  | none => .int (μ.1 a k)
  | some none => .long (μ.2.1 a)
  | some (some b) => .ref (qB G + b)
def qF (G : qG) (μ : Mem) (a : Nat) : Nat → List (Option (Option Nat)) → List Value
  | _, [] => []
  | k, d :: r => fv G μ a k d :: qF G μ a (k + 1) r
/-- the cell at a -/
def mc (G : qG) (μ : Mem) (a : Nat) : va_E := match lay a with
  | some (.inl (ci, fds)) => .inr (ci, qF G μ a 0 fds)
  | some (.inr (0, N, _, _)) => .inl (qc G 0, N, .inl (μ.1 a))
  | some (.inr (1, N, _, _)) => .inl (qc G 1, N, .inl (μ.1 a))
  | some (.inr (5, N, _, _)) => .inl (qc G 3, N, .inr (.inr (.inr (.inr (fun j => some (qB G + μ.2.2 j))))))
  | some (.inr (k, N, b, d)) => .inl (qc G k, N, .inr (.inr (.inr (.inr (fun j => some (qB G + (b + d * j)))))))
  | none => .inr (0, [])
def layF (a k : Nat) : Option (Nat × Option (Option Nat)) := match lay a with
  | some (.inl (ci, fds)) => fds[k]?.map (fun d => (ci, d))
  | _ => none
def layA (a : Nat) : Option (Nat × Nat × Nat × Nat) := match lay a with
  | some (.inr q) => some q
  | _ => none
def layC (a : Nat) : Option Nat := match lay a with
  | some (.inl (ci, _)) => some ci
  | _ => none
theorem qF_len {G : qG} {μ : Mem} {a : Nat} : ∀ (fds : List (Option (Option Nat))) (k : Nat), (qF G μ a k fds).length = fds.length
  | [], _ => rfl
  | _ :: r, k => by simp [qF, qF_len r (k + 1)]
theorem qF_get {G : qG} {μ : Mem} {a : Nat} : ∀ (fds : List (Option (Option Nat))) (k j : Nat) (d : Option (Option Nat)), fds[j]? = some d → (qF G μ a k fds)[j]? = some (fv G μ a (k + j) d)
  | [], k, j, d, h => by simp at h
  | e :: r, k, 0, d, h => by simp at h; subst h; simp [qF]
  | e :: r, k, j + 1, d, h => by
    simp only [List.getElem?_cons_succ] at h
    have := qF_get (G := G) (μ := μ) (a := a) r (k + 1) j d h
    simp only [qF, List.getElem?_cons_succ]
    rw [this, show k + 1 + j = k + (j + 1) by omega]
theorem layL_len : layL.length = 157 := by decide +kernel
theorem lay_lt {a : Nat} {q : qShape} (h : lay a = some q) : a < 157 := by
  have := (List.getElem?_eq_some_iff.mp h).1
  rw [layL_len] at this
  exact this
/-- a word of the memory is written -/
def mw (μ : Mem) (a k : Nat) (x : Int32) : Mem := (fun b j => if b = a ∧ j = k then x else μ.1 b j, μ.2.1, μ.2.2)
def mwL (μ : Mem) (a : Nat) (x : Int64) : Mem := (μ.1, fun b => if b = a then x else μ.2.1 b, μ.2.2)
def mwP (μ : Mem) (j b : Nat) : Mem := (μ.1, μ.2.1, fun i => if i = j then b else μ.2.2 i)
/-- a whole row is written -/
def mwR (μ : Mem) (a : Nat) (f : Nat → Int32) : Mem := (fun b j => if b = a then f j else μ.1 b j, μ.2.1, μ.2.2)
theorem mw_same (μ : Mem) (a k : Nat) (x : Int32) : (mw μ a k x).1 a k = x := if_pos ⟨rfl, rfl⟩
theorem mw_ne (μ : Mem) {a k b j : Nat} (x : Int32) (h : b ≠ a ∨ j ≠ k) : (mw μ a k x).1 b j = μ.1 b j := if_neg (fun q => h.elim (fun z => z q.1) (fun z => z q.2))
theorem mw_other (μ : Mem) {a k b : Nat} (x : Int32) (h : b ≠ a) : (mw μ a k x).1 b = μ.1 b := funext fun j => mw_ne μ x (Or.inl h)
theorem mw_row (μ : Mem) (a k : Nat) (x : Int32) : (mw μ a k x).1 a = upd (μ.1 a) k x := by
  funext j
  by_cases h : j = k
  · subst h; simp [mw, upd]
  · simp [mw, upd, h]
theorem mwR_other (μ : Mem) {a b : Nat} (f : Nat → Int32) (h : b ≠ a) : (mwR μ a f).1 b = μ.1 b := funext fun j => if_neg h
theorem mwR_row (μ : Mem) (a : Nat) (f : Nat → Int32) : (mwR μ a f).1 a = f := funext fun j => if_pos rfl
theorem fv_congr {G : qG} {μ μ' : Mem} {a k : Nat} {d : Option (Option Nat)} (h1 : μ'.1 a k = μ.1 a k) (h2 : μ'.2.1 a = μ.2.1 a) : fv G μ' a k d = fv G μ a k d := by
  match d with
  | none => simp [fv, h1]
  | some none => simp [fv, h2]
  | some (some b) => rfl
theorem qF_congr {G : qG} {μ μ' : Mem} {a : Nat} (h1 : ∀ k, μ'.1 a k = μ.1 a k) (h2 : μ'.2.1 a = μ.2.1 a) : ∀ (fds : List (Option (Option Nat))) (k : Nat), qF G μ' a k fds = qF G μ a k fds
  | [], _ => rfl
  | d :: r, k => by simp [qF, qF_congr h1 h2 r (k + 1), fv_congr (h1 k) h2]
theorem mc_congr {G : qG} {μ μ' : Mem} {a : Nat} (h1 : μ'.1 a = μ.1 a) (h2 : μ'.2.1 a = μ.2.1 a) (h3 : μ'.2.2 = μ.2.2) : mc G μ' a = mc G μ a := by
  have hq := fun fds => qF_congr (G := G) (μ := μ) (μ' := μ') (a := a) (fun k => congrFun h1 k) h2 fds 0
  unfold mc
  split
  · rw [hq]
  · rw [h1]
  · rw [h1]
  · rw [h3]
  · rfl
  · rfl
theorem mc_obj {G : qG} {μ : Mem} {a ci : Nat} {fds : List (Option (Option Nat))} (h : lay a = some (.inl (ci, fds))) : mc G μ a = .inr (ci, qF G μ a 0 fds) := by simp only [mc, h]
theorem mc_int {G : qG} {μ : Mem} {a N b d : Nat} (h : lay a = some (.inr (0, N, b, d))) : mc G μ a = .inl (qc G 0, N, .inl (μ.1 a)) := by simp only [mc, h]
theorem mc_boo {G : qG} {μ : Mem} {a N b d : Nat} (h : lay a = some (.inr (1, N, b, d))) : mc G μ a = .inl (qc G 1, N, .inl (μ.1 a)) := by simp only [mc, h]
theorem mc_dyn {G : qG} {μ : Mem} {a N b d : Nat} (h : lay a = some (.inr (5, N, b, d))) : mc G μ a = .inl (qc G 3, N, .inr (.inr (.inr (.inr (fun j => some (qB G + μ.2.2 j)))))) := by simp only [mc, h]
theorem mc_ref {G : qG} {μ : Mem} {a k N b d : Nat} (h : lay a = some (.inr (k, N, b, d))) (h0 : k ≠ 0) (h1 : k ≠ 1) (h5 : k ≠ 5) : mc G μ a = .inl (qc G k, N, .inr (.inr (.inr (.inr (fun j => some (qB G + (b + d * j))))))) := by
  unfold mc
  rw [h]
  split
  · next q => simp at q
  · next q => simp at q; exact absurd q.1 h0
  · next q => simp at q; exact absurd q.1 h1
  · next q => simp at q; exact absurd q.1 h5
  · next q => simp at q; obtain ⟨rfl, rfl, rfl, rfl⟩ := q; rfl
  · next q => simp at q
theorem qF_set {G : qG} {μ : Mem} {a : Nat} (x : Int32) : ∀ (fds : List (Option (Option Nat))) (k j : Nat), fds[j]? = some none → (qF G μ a k fds).set j (.int x) = qF G (mw μ a (k + j) x) a k fds
  | [], k, j, h => by simp at h
  | e :: r, k, 0, h => by
    simp at h
    subst h
    have h2 : ∀ (r : List (Option (Option Nat))) (i : Nat), k < i → qF G (mw μ a k x) a i r = qF G μ a i r := by
      intro r
      induction r with
      | nil => intros; rfl
      | cons d r ih =>
        intro i hi
        simp only [qF]
        rw [ih (i + 1) (by omega), fv_congr (mw_ne μ x (Or.inr (by omega))) rfl]
    simp [qF, fv, mw_same, h2 r (k + 1) (by omega)]
  | e :: r, k, j + 1, h => by
    simp only [List.getElem?_cons_succ] at h
    have ih := qF_set (G := G) (μ := μ) (a := a) x r (k + 1) j h
    simp only [qF, List.set_cons_succ]
    rw [ih, show k + 1 + j = k + (j + 1) by omega, fv_congr (mw_ne μ x (Or.inr (by omega))) rfl]
theorem mc_put {G : qG} {μ : Mem} {a k ci : Nat} {fds : List (Option (Option Nat))} (x : Int32) (h : lay a = some (.inl (ci, fds))) (hk : fds[k]? = some none) : va_up (mc G μ) a (.inr (ci, (qF G μ a 0 fds).set k (.int x))) = mc G (mw μ a k x) := by
  funext b
  by_cases hb : b = a
  · subst hb
    rw [q_up_eq, mc_obj h, qF_set x fds 0 k hk, Nat.zero_add]
  · rw [q_up_ne _ _ hb, mc_congr (mw_other μ x hb) rfl rfl]
theorem qF_setL {G : qG} {μ : Mem} {a : Nat} (x : Int64) : ∀ (fds : List (Option (Option Nat))) (k j : Nat), fds[j]? = some (some none) → (∀ i : Nat, i ≠ j → fds[i]? ≠ some (some none)) → (qF G μ a k fds).set j (.long x) = qF G (mwL μ a x) a k fds
  | [], k, j, h, _ => by simp at h
  | e :: r, k, 0, h, ho => by
    simp at h
    subst h
    have h2 : ∀ (r : List (Option (Option Nat))) (i : Nat), (∀ j : Nat, r[j]? ≠ some (some none)) → qF G (mwL μ a x) a i r = qF G μ a i r := by
      intro r
      induction r with
      | nil => intros; rfl
      | cons d r ih =>
        intro i hi
        have hd : d ≠ some none := by have := hi 0; simpa using this
        simp only [qF]
        rw [ih (i + 1) (fun j => by have := hi (j + 1); simpa using this)]
        congr 1
        match d, hd with
        | none, _ => rfl
        | some none, q => exact absurd rfl q
        | some (some b), _ => rfl
    simp only [qF, List.set_cons_zero]
    rw [h2 r (k + 1) (fun j => by have := ho (j + 1) (by omega); simpa using this)]
    simp [fv, mwL]
  | e :: r, k, j + 1, h, ho => by
    simp only [List.getElem?_cons_succ] at h
    have ih := qF_setL (G := G) (μ := μ) (a := a) x r (k + 1) j h (fun i hi => by have := ho (i + 1) (by omega); simpa using this)
    have he : e ≠ some none := by have := ho 0 (by omega); simpa using this
    simp only [qF, List.set_cons_succ]
    rw [ih]
    congr 1
    match e, he with
    | none, _ => rfl
    | some none, q => exact absurd rfl q
    | some (some b), _ => rfl
theorem mc_putL {G : qG} {μ : Mem} {a k ci : Nat} {fds : List (Option (Option Nat))} (x : Int64) (h : lay a = some (.inl (ci, fds))) (hk : fds[k]? = some (some none)) (ho : ∀ i, i ≠ k → fds[i]? ≠ some (some none)) : va_up (mc G μ) a (.inr (ci, (qF G μ a 0 fds).set k (.long x))) = mc G (mwL μ a x) := by
  funext b
  by_cases hb : b = a
  · subst hb
    rw [q_up_eq, mc_obj h, qF_setL x fds 0 k hk ho]
  · rw [q_up_ne _ _ hb, mc_congr (μ := μ) (μ' := mwL μ a x) rfl (if_neg hb) rfl]
theorem mc_row {G : qG} {μ : Mem} {a N b d : Nat} (f : Nat → Int32) (h : lay a = some (.inr (0, N, b, d))) : va_up (mc G μ) a (.inl (qc G 0, N, .inl f)) = mc G (mwR μ a f) := by
  funext c
  by_cases hb : c = a
  · subst hb
    rw [q_up_eq, mc_int h, mwR_row]
  · rw [q_up_ne _ _ hb, mc_congr (mwR_other μ f hb) rfl rfl]
theorem mw_mwR (μ : Mem) (a k : Nat) (x : Int32) : mwR μ a (upd (μ.1 a) k x) = mw μ a k x := by
  unfold mwR mw
  congr 1
  funext b j
  by_cases hb : b = a
  · subst hb
    by_cases hj : j = k
    · subst hj; simp [upd]
    · simp [upd, hj]
  · simp [hb]
theorem mc_rowZ {G : qG} {μ : Mem} {a N b d k : Nat} (x : Int32) (h : lay a = some (.inr (1, N, b, d))) : va_up (mc G μ) a (.inl (qc G 1, N, .inl (upd (μ.1 a) k x))) = mc G (mw μ a k x) := by
  funext c
  by_cases hb : c = a
  · subst hb
    rw [q_up_eq, mc_boo h, mw_row]
  · rw [q_up_ne _ _ hb, mc_congr (mw_other μ x hb) rfl rfl]
abbrev Zm (G : qG) (X : qX) (cc : ByteArray) (own : String) (μ : Mem) (pc : Nat) (vs : List (Option Value)) (st : List Value) : Prop := Z G X cc own 157 (mc G μ) 0 0 pc vs st
section ZM
variable {G : qG} {X : qX} {cc : ByteArray} {own : String} {μ : Mem} {pc pc' : Nat} {vs : List (Option Value)} {st : List Value} {a : Nat}
theorem layF_obj {k ci : Nat} {d : Option (Option Nat)} (h : layF a k = some (ci, d)) : ∃ fds, lay a = some (.inl (ci, fds)) ∧ fds[k]? = some d := by
  unfold layF at h
  split at h
  · next c fds e =>
    cases hd : fds[k]? with
    | none => rw [hd] at h; simp at h
    | some z => rw [hd] at h; simp at h; obtain ⟨rfl, rfl⟩ := h; exact ⟨fds, e, hd⟩
  · cases h
theorem layA_arr {q : Nat × Nat × Nat × Nat} (h : layA a = some q) : lay a = some (.inr q) := by
  unfold layA at h
  split at h
  · next q' e => cases h; exact e
  · cases h
theorem layC_obj {ci : Nat} (h : layC a = some ci) : ∃ fds, lay a = some (.inl (ci, fds)) := by
  unfold layC at h
  split at h
  · next c fds e => cases h; exact ⟨fds, e⟩
  · cases h
theorem m_getI {idx ci k : Nat} (hd : In cc pc (.getfield idx) 3 pc') (hk : qLk own idx ci k) (hl : layF a k = some (ci, none)) (kk : Zm G X cc own μ pc' vs (.int (μ.1 a k) :: st)) : Zm G X cc own μ pc vs (.ref (qB G + a) :: st) := by
  obtain ⟨fds, e, hf⟩ := layF_obj hl
  refine z_getG hd hk (lay_lt e) (mc_obj e) (qF_get fds 0 k none hf) ?_
  rw [Nat.zero_add]
  exact kk
theorem m_getL {idx ci k : Nat} (hd : In cc pc (.getfield idx) 3 pc') (hk : qLk own idx ci k) (hl : layF a k = some (ci, some none)) (kk : Zm G X cc own μ pc' vs (.long (μ.2.1 a) :: st)) : Zm G X cc own μ pc vs (.ref (qB G + a) :: st) := by
  obtain ⟨fds, e, hf⟩ := layF_obj hl
  exact z_getG hd hk (lay_lt e) (mc_obj e) (qF_get fds 0 k _ hf) kk
theorem m_getR {idx ci k b : Nat} (hd : In cc pc (.getfield idx) 3 pc') (hk : qLk own idx ci k) (hl : layF a k = some (ci, some (some b))) (kk : Zm G X cc own μ pc' vs (.ref (qB G + b) :: st)) : Zm G X cc own μ pc vs (.ref (qB G + a) :: st) := by
  obtain ⟨fds, e, hf⟩ := layF_obj hl
  exact z_getG hd hk (lay_lt e) (mc_obj e) (qF_get fds 0 k _ hf) kk
theorem m_putI {idx ci k : Nat} {x : Int32} (hd : In cc pc (.putfield idx) 3 pc') (hk : qLkI own idx ci k) (hl : layF a k = some (ci, none)) (kk : Zm G X cc own (mw μ a k x) pc' vs st) : Zm G X cc own μ pc vs (.int x :: .ref (qB G + a) :: st) := by
  obtain ⟨fds, e, hf⟩ := layF_obj hl
  obtain ⟨h1, h2, h3⟩ := hk
  refine z_putG hd h1 h2 (lay_lt e) (mc_obj e) (by rw [qF_len]; exact (List.getElem?_eq_some_iff.mp hf).1) (by rw [h3]; rfl) (by rw [h3]; rfl) ?_
  rw [mc_put x e hf]
  exact kk
theorem m_putL {idx ci k : Nat} {x : Int64} (hd : In cc pc (.putfield idx) 3 pc') (hk : qLk own idx ci k) (hfin : ((cT ci).2.1 k).2.2.2 = false) (hty : cTy ci k = .long) {fds : List (Option (Option Nat))} (e : lay a = some (.inl (ci, fds))) (hf : fds[k]? = some (some none)) (ho : ∀ i, i ≠ k → fds[i]? ≠ some (some none)) (kk : Zm G X cc own (mwL μ a x) pc' vs st) : Zm G X cc own μ pc vs (.long x :: .ref (qB G + a) :: st) := by
  refine z_putG hd hk hfin (lay_lt e) (mc_obj e) (by rw [qF_len]; exact (List.getElem?_eq_some_iff.mp hf).1) (by rw [hty]; rfl) (by rw [hty]; rfl) ?_
  rw [mc_putL x e hf ho]
  exact kk
theorem m_iald {N b d : Nat} {i : Int32} (hd : In cc pc (.iaload) 1 pc') (hl : layA a = some (0, N, b, d)) (hin : vp_in i N) (kk : Zm G X cc own μ pc' vs (.int (μ.1 a i.toNatClampNeg) :: st)) : Zm G X cc own μ pc vs (.int i :: .ref (qB G + a) :: st) := z_ialdG hd (lay_lt (layA_arr hl)) (mc_int (layA_arr hl)) hin kk
theorem q_2p31 {N : Nat} {k b d : Nat} (hl : layA a = some (k, N, b, d)) : N < 2 ^ 31 := by
  have h := layA_arr hl
  have hm : (Sum.inr (k, N, b, d) : qShape) ∈ layL := List.mem_of_getElem? h
  have hall : layL.all (fun q => match q with | .inr (_, N, _, _) => decide (N < 2 ^ 31) | _ => true) = true := by decide +kernel
  have := List.all_eq_true.mp hall _ hm
  simpa using this
theorem m_ialdN {N b d j : Nat} (hd : In cc pc (.iaload) 1 pc') (hl : layA a = some (0, N, b, d)) (hj : j < N) (kk : Zm G X cc own μ pc' vs (.int (μ.1 a j) :: st)) : Zm G X cc own μ pc vs (.int (nI j) :: .ref (qB G + a) :: st) := by
  have hN := q_2p31 hl
  exact m_iald hd hl (vp_in_nI hj hN) (by rw [nI_clamp (by omega)]; exact kk)
theorem m_iast {N b d : Nat} {i x : Int32} (hd : In cc pc (.iastore) 1 pc') (hl : layA a = some (0, N, b, d)) (hin : vp_in i N) (kk : Zm G X cc own (mw μ a i.toNatClampNeg x) pc' vs st) : Zm G X cc own μ pc vs (.int x :: .int i :: .ref (qB G + a) :: st) := by
  refine z_iastG hd (lay_lt (layA_arr hl)) (mc_int (layA_arr hl)) hin ?_
  rw [mc_row _ (layA_arr hl), mw_mwR]
  exact kk
theorem m_iastN {N b d j : Nat} {x : Int32} (hd : In cc pc (.iastore) 1 pc') (hl : layA a = some (0, N, b, d)) (hj : j < N) (kk : Zm G X cc own (mw μ a j x) pc' vs st) : Zm G X cc own μ pc vs (.int x :: .int (nI j) :: .ref (qB G + a) :: st) := by
  have hN := q_2p31 hl
  exact m_iast hd hl (vp_in_nI hj hN) (by rw [nI_clamp (by omega)]; exact kk)
theorem m_zaldN {N b d j : Nat} (hd : In cc pc (.baload) 1 pc') (hl : layA a = some (1, N, b, d)) (hj : j < N) (kk : Zm G X cc own μ pc' vs (.int (μ.1 a j) :: st)) : Zm G X cc own μ pc vs (.int (nI j) :: .ref (qB G + a) :: st) := by
  have hN := q_2p31 hl
  exact z_zaldG hd (lay_lt (layA_arr hl)) (mc_boo (layA_arr hl)) (vp_in_nI hj hN) (by rw [nI_clamp (by omega)]; exact kk)
theorem m_zastN {N b d j : Nat} {x : Int32} (hd : In cc pc (.bastore) 1 pc') (hl : layA a = some (1, N, b, d)) (hj : j < N) (hx : vp_nar .boolean x = x) (kk : Zm G X cc own (mw μ a j x) pc' vs st) : Zm G X cc own μ pc vs (.int x :: .int (nI j) :: .ref (qB G + a) :: st) := by
  have hN := q_2p31 hl
  refine z_zastG hd (lay_lt (layA_arr hl)) (mc_boo (layA_arr hl)) (vp_in_nI hj hN) ?_
  rw [nI_clamp (by omega), hx, mc_rowZ _ (layA_arr hl)]
  exact kk
theorem m_aaldN {k N b d j : Nat} (hd : In cc pc (.aaload) 1 pc') (hl : layA a = some (k, N, b, d)) (hk : k = 2 ∨ k = 3 ∨ k = 4) (hj : j < N) (kk : Zm G X cc own μ pc' vs (.ref (qB G + (b + d * j)) :: st)) : Zm G X cc own μ pc vs (.int (nI j) :: .ref (qB G + a) :: st) := by
  have hN := q_2p31 hl
  have kk' : Zm G X cc own μ pc' vs (va_rf ((fun j => some (qB G + (b + d * j))) (nI j).toNatClampNeg) :: st) := by rw [nI_clamp (by omega)]; exact kk
  have h0 : k ≠ 0 ∧ k ≠ 1 ∧ k ≠ 5 := by omega
  have e := mc_ref (G := G) (μ := μ) (layA_arr hl) h0.1 h0.2.1 h0.2.2
  rcases hk with rfl | rfl | rfl
  · exact z_aaldG 2 hd rfl rfl (lay_lt (layA_arr hl)) e (vp_in_nI hj hN) kk'
  · exact z_aaldG 3 hd rfl rfl (lay_lt (layA_arr hl)) e (vp_in_nI hj hN) kk'
  · exact z_aaldG 4 hd rfl rfl (lay_lt (layA_arr hl)) e (vp_in_nI hj hN) kk'
theorem m_aaldB {N b d j : Nat} (hd : In cc pc (.aaload) 1 pc') (hl : layA a = some (5, N, b, d)) (hj : j < N) (kk : Zm G X cc own μ pc' vs (.ref (qB G + μ.2.2 j) :: st)) : Zm G X cc own μ pc vs (.int (nI j) :: .ref (qB G + a) :: st) := by
  have hN := q_2p31 hl
  exact z_aaldG 3 hd rfl rfl (lay_lt (layA_arr hl)) (mc_dyn (layA_arr hl)) (vp_in_nI hj hN) (by rw [nI_clamp (by omega)]; exact kk)
theorem lay5 {a N b d : Nat} (h : lay a = some (.inr (5, N, b, d))) : a = 62 := by
  have hlt := lay_lt h
  have hall : (List.range 157).all (fun a => match lay a with | some (.inr (5, _, _, _)) => a == 62 | _ => true) = true := by decide +kernel
  have := List.all_eq_true.mp hall a (List.mem_range.mpr hlt)
  rw [h] at this
  simpa using this
theorem m_aastB {N b d j c : Nat} (hd : In cc pc (.aastore) 1 pc') (hl : layA a = some (5, N, b, d)) (hj : j < N) (hc : layC c = some 5) (kk : Zm G X cc own (mwP μ j c) pc' vs st) : Zm G X cc own μ pc vs (.ref (qB G + c) :: .int (nI j) :: .ref (qB G + a) :: st) := by
  have hN := q_2p31 hl
  obtain ⟨fds, hf⟩ := layC_obj hc
  refine z_aastG 3 5 hd rfl (by decide) (lay_lt (layA_arr hl)) (mc_dyn (layA_arr hl)) (lay_lt hf) (mc_obj hf) (vp_in_nI hj hN) ?_
  have ha : a = 62 := lay5 (layA_arr hl)
  have e : va_up (mc G μ) a (.inl (qc G 3, N, .inr (.inr (.inr (.inr (va_up (fun j => some (qB G + μ.2.2 j)) (nI j).toNatClampNeg (some (qB G + c)))))))) = mc G (mwP μ j c) := by
    funext z
    by_cases hz : z = a
    · subst hz
      have ef : va_up (fun j => some (qB G + μ.2.2 j)) j (some (qB G + c)) = fun i => some (qB G + (mwP μ j c).2.2 i) := by
        funext i
        by_cases hi : i = j
        · subst hi; simp [va_up, mwP]
        · simp [va_up, mwP, hi]
      rw [q_up_eq, mc_dyn (layA_arr hl), nI_clamp (by omega), ef]
    · rw [q_up_ne _ _ hz]
      have h5 : ∀ N b d, lay z ≠ some (.inr (5, N, b, d)) := fun N b d q => hz ((lay5 q).trans ha.symm)
      unfold mc
      split
      · rw [qF_congr (μ := μ) (μ' := mwP μ j c) (fun k => rfl) rfl]
      · rfl
      · rfl
      · next q => exact absurd q (h5 _ _ _)
      · rfl
      · rfl
  rw [e]
  exact kk
theorem m_alen {k N b d : Nat} (hd : In cc pc (.arraylength) 1 pc') (hl : layA a = some (0, N, b, d)) (kk : Zm G X cc own μ pc' vs (.int (nI N) :: st)) : Zm G X cc own μ pc vs (.ref (qB G + a) :: st) := z_alenG 0 hd rfl (lay_lt (layA_arr hl)) (mc_int (layA_arr hl)) kk
theorem m_copy {idx b N0 N1 k d1 d2 d3 d4 : Nat} {R0 : Room} (hd : In cc pc (.invokestatic idx) 3 pc') (hw1 : Cond.methodLink own idx arraycopyName ∈ lw_gd) (hlb : layA b = some (0, N0, d1, d2)) (hla : layA a = some (0, N1, d3, d4)) (hk0 : k ≤ N0) (hk1 : k ≤ N1) (hne : a ≠ b) (hR : qR X = R0) (hf : 1 ≤ R0.frames ∧ (st.map fun v => v.category).sum + (nativeFrameWords "java/lang/System" "arraycopy" 5 + 11) ≤ R0.locals)
    (kk : Zm G X cc own (mwR μ a (fun j => if j < k then μ.1 b j else μ.1 a j)) pc' vs st) : Zm G X cc own μ pc vs (.int (nI k) :: .int (nI 0) :: .ref (qB G + a) :: .int (nI 0) :: .ref (qB G + b) :: st) := by
  have hN := q_2p31 hlb
  refine z_copy hd hw1 w_copyN w_copyS w_sysI (lay_lt (layA_arr hlb)) (mc_int (layA_arr hlb)) (lay_lt (layA_arr hla)) (mc_int (layA_arr hla)) hk0 hk1 (by omega) hne hR hf ?_
  rw [mc_row _ (layA_arr hla)]
  exact kk
/-- contracts over the memory -/
def qPM (G : qG) (P : Option Value → Mem → Prop) : Option Value → Nat → (Nat → va_E) → Prop := fun v n h => n = 157 ∧ ∃ μ' : Mem, h = mc G μ' ∧ P v μ'
def CtrI (G : qG) (l : Launch) (M : qMI) (as : List Value) (μ : Mem) (P : Int32 → Mem → Prop) : Prop := Ctr G l M as 157 (mc G μ) (qPM G (fun v μ' => ∃ r : Int32, v = some (.int r) ∧ P r μ'))
def CtrL (G : qG) (l : Launch) (M : qMI) (as : List Value) (μ : Mem) (P : Int64 → Mem → Prop) : Prop := Ctr G l M as 157 (mc G μ) (qPM G (fun v μ' => ∃ r : Int64, v = some (.long r) ∧ P r μ'))
def CtrV (G : qG) (l : Launch) (M : qMI) (as : List Value) (μ : Mem) (P : Mem → Prop) : Prop := Ctr G l M as 157 (mc G μ) (qPM G (fun v μ' => v = none ∧ P μ'))
def EI (G : qG) (X : qX) (P : Int32 → Mem → Prop) (ret : Option FieldType) : Prop := qE G X (qPM G (fun v μ' => ∃ r : Int32, v = some (.int r) ∧ P r μ')) ret
def EL (G : qG) (X : qX) (P : Int64 → Mem → Prop) : Prop := qE G X (qPM G (fun v μ' => ∃ r : Int64, v = some (.long r) ∧ P r μ')) (some .long)
def EV (G : qG) (X : qX) (P : Mem → Prop) : Prop := qE G X (qPM G (fun v μ' => v = none ∧ P μ')) none
theorem m_iret {x : Int32} {P : Int32 → Mem → Prop} (hE : EI G X P (some .int)) (hd : In cc pc (.ireturn) 1 pc') (hp : P x μ) : Zm G X cc own μ pc vs [.int x] := z_iret hE hd (Nat.zero_le _) (Nat.zero_le _) ⟨rfl, μ, rfl, x, rfl, hp⟩
theorem m_zret {x : Int32} {P : Int32 → Mem → Prop} (hE : EI G X P (some .boolean)) (hd : In cc pc (.ireturn) 1 pc') (hn : narrow .boolean (.int x) = .int x) (hp : P x μ) : Zm G X cc own μ pc vs [.int x] := z_zret hE hd hn (Nat.zero_le _) (Nat.zero_le _) ⟨rfl, μ, rfl, x, rfl, hp⟩
theorem m_lret {x : Int64} {P : Int64 → Mem → Prop} (hE : EL G X P) (hd : In cc pc (.lreturn) 1 pc') (hp : P x μ) : Zm G X cc own μ pc vs [.long x] := z_lret hE hd (Nat.zero_le _) (Nat.zero_le _) ⟨rfl, μ, rfl, x, rfl, hp⟩
theorem m_vret {P : Mem → Prop} (hE : EV G X P) (hd : In cc pc (.return_) 1 pc') (hp : P μ) : Zm G X cc own μ pc vs [] := z_vret hE hd (Nat.zero_le _) (Nat.zero_le _) ⟨rfl, μ, rfl, rfl, hp⟩
theorem m_enterI {l : Launch} {M : qMI} {as : List Value} {P : Int32 → Mem → Prop} (vs0 : List (Option Value)) (hy : plainName M.1.cls = true) (hvs : qLoc as ++ List.replicate (M.2.2.1 - (qLoc as).length) none = vs0) (hle : (qLoc as).length ≤ M.2.2.1) (body : ∀ X : qX, EI G X P M.2.2.2.1 → qR X = M.2.2.2.2 → Zm G X M.2.1 M.1.cls μ 0 vs0 []) : CtrI G l M as μ P := q_enter vs0 hy hvs hle (fun X h1 h2 _ => body X h1 h2)
theorem m_enterL {l : Launch} {M : qMI} {as : List Value} {P : Int64 → Mem → Prop} (vs0 : List (Option Value)) (hy : plainName M.1.cls = true) (hvs : qLoc as ++ List.replicate (M.2.2.1 - (qLoc as).length) none = vs0) (hle : (qLoc as).length ≤ M.2.2.1) (hr : M.2.2.2.1 = some .long) (body : ∀ X : qX, EL G X P → qR X = M.2.2.2.2 → Zm G X M.2.1 M.1.cls μ 0 vs0 []) : CtrL G l M as μ P := q_enter vs0 hy hvs hle (fun X h1 h2 _ => body X (by rw [hr] at h1; exact h1) h2)
theorem m_enterV {l : Launch} {M : qMI} {as : List Value} {P : Mem → Prop} (vs0 : List (Option Value)) (hy : plainName M.1.cls = true) (hvs : qLoc as ++ List.replicate (M.2.2.1 - (qLoc as).length) none = vs0) (hle : (qLoc as).length ≤ M.2.2.1) (hr : M.2.2.2.1 = none) (body : ∀ X : qX, EV G X P → qR X = M.2.2.2.2 → Zm G X M.2.1 M.1.cls μ 0 vs0 []) : CtrV G l M as μ P := q_enter vs0 hy hvs hle (fun X h1 h2 _ => body X (by rw [hr] at h1; exact h1) h2)
def q0 (M : qMI) : Prop := M.2.2.2.2.cells = 0 ∧ M.2.2.2.2.slots = 0
theorem m_callVi {idx ci na : Nat} {M : qMI} {As : List Value} {R0 : Room} {st0 : List Value} {P : Int32 → Mem → Prop} (hd : In cc pc (.invokevirtual idx) 3 pc') (hl : Cond.methodLink own idx M.1 ∈ lw_gd) (hM : qMV M ci na) (hc : CtrI G (qL X) M (.ref (qB G + a) :: As) μ P) (hcl : layC a = some ci) (hn : As.length = na) (hs : As.reverse ++ .ref (qB G + a) :: st = st0) (hw : (st.map fun v => v.category).sum ≤ 8) (hR : qR X = R0) (hf : qFit M R0) (hz : q0 M)
    (kk : ∀ (r : Int32) (μ' : Mem), P r μ' → Zm G X cc own μ' pc' vs (.int r :: st)) : Zm G X cc own μ pc vs st0 := by
  obtain ⟨fds, e⟩ := layC_obj hcl
  refine z_callV hd hl hM hc (lay_lt e) (mc_obj e) hn hs hw hR hf (by rw [hz.1]; exact Nat.zero_le _) (by rw [hz.2]; exact Nat.zero_le _) ?_
  rintro v n' h' ⟨rfl, μ', rfl, r, rfl, hp⟩
  rw [hz.1, hz.2]
  exact kk r μ' hp
theorem m_callVl {idx ci na : Nat} {M : qMI} {As : List Value} {R0 : Room} {st0 : List Value} {P : Int64 → Mem → Prop} (hd : In cc pc (.invokevirtual idx) 3 pc') (hl : Cond.methodLink own idx M.1 ∈ lw_gd) (hM : qMV M ci na) (hc : CtrL G (qL X) M (.ref (qB G + a) :: As) μ P) (hcl : layC a = some ci) (hn : As.length = na) (hs : As.reverse ++ .ref (qB G + a) :: st = st0) (hw : (st.map fun v => v.category).sum ≤ 8) (hR : qR X = R0) (hf : qFit M R0) (hz : q0 M)
    (kk : ∀ (r : Int64) (μ' : Mem), P r μ' → Zm G X cc own μ' pc' vs (.long r :: st)) : Zm G X cc own μ pc vs st0 := by
  obtain ⟨fds, e⟩ := layC_obj hcl
  refine z_callV hd hl hM hc (lay_lt e) (mc_obj e) hn hs hw hR hf (by rw [hz.1]; exact Nat.zero_le _) (by rw [hz.2]; exact Nat.zero_le _) ?_
  rintro v n' h' ⟨rfl, μ', rfl, r, rfl, hp⟩
  rw [hz.1, hz.2]
  exact kk r μ' hp
theorem m_callVv {idx ci na : Nat} {M : qMI} {As : List Value} {R0 : Room} {st0 : List Value} {P : Mem → Prop} (hd : In cc pc (.invokevirtual idx) 3 pc') (hl : Cond.methodLink own idx M.1 ∈ lw_gd) (hM : qMV M ci na) (hc : CtrV G (qL X) M (.ref (qB G + a) :: As) μ P) (hcl : layC a = some ci) (hn : As.length = na) (hs : As.reverse ++ .ref (qB G + a) :: st = st0) (hw : (st.map fun v => v.category).sum ≤ 8) (hR : qR X = R0) (hf : qFit M R0) (hz : q0 M)
    (kk : ∀ μ' : Mem, P μ' → Zm G X cc own μ' pc' vs st) : Zm G X cc own μ pc vs st0 := by
  obtain ⟨fds, e⟩ := layC_obj hcl
  refine z_callV hd hl hM hc (lay_lt e) (mc_obj e) hn hs hw hR hf (by rw [hz.1]; exact Nat.zero_le _) (by rw [hz.2]; exact Nat.zero_le _) ?_
  rintro v n' h' ⟨rfl, μ', rfl, rfl, hp⟩
  rw [hz.1, hz.2]
  exact kk μ' hp
theorem m_callSi {idx na : Nat} {M : qMI} {As : List Value} {R0 : Room} {st0 : List Value} {P : Int32 → Mem → Prop} (hd : In cc pc (.invokestatic idx) 3 pc') (hl : Cond.methodLink own idx M.1 ∈ lw_gd) (hM : qMS M na) (hc : CtrI G (qL X) M As μ P) (hn : As.length = na) (hs : As.reverse ++ st = st0) (hw : (st.map fun v => v.category).sum ≤ 8) (hR : qR X = R0) (hf : qFit M R0) (hz : q0 M)
    (kk : ∀ (r : Int32) (μ' : Mem), P r μ' → Zm G X cc own μ' pc' vs (.int r :: st)) : Zm G X cc own μ pc vs st0 := by
  refine z_callS hd hl hM hc hn hs hw hR hf (by rw [hz.1]; exact Nat.zero_le _) (by rw [hz.2]; exact Nat.zero_le _) ?_
  rintro v n' h' ⟨rfl, μ', rfl, r, rfl, hp⟩
  rw [hz.1, hz.2]
  exact kk r μ' hp
theorem m_callSl {idx na : Nat} {M : qMI} {As : List Value} {R0 : Room} {st0 : List Value} {P : Int64 → Mem → Prop} (hd : In cc pc (.invokestatic idx) 3 pc') (hl : Cond.methodLink own idx M.1 ∈ lw_gd) (hM : qMS M na) (hc : CtrL G (qL X) M As μ P) (hn : As.length = na) (hs : As.reverse ++ st = st0) (hw : (st.map fun v => v.category).sum ≤ 8) (hR : qR X = R0) (hf : qFit M R0) (hz : q0 M)
    (kk : ∀ (r : Int64) (μ' : Mem), P r μ' → Zm G X cc own μ' pc' vs (.long r :: st)) : Zm G X cc own μ pc vs st0 := by
  refine z_callS hd hl hM hc hn hs hw hR hf (by rw [hz.1]; exact Nat.zero_le _) (by rw [hz.2]; exact Nat.zero_le _) ?_
  rintro v n' h' ⟨rfl, μ', rfl, r, rfl, hp⟩
  rw [hz.1, hz.2]
  exact kk r μ' hp
theorem m_callSv {idx na : Nat} {M : qMI} {As : List Value} {R0 : Room} {st0 : List Value} {P : Mem → Prop} (hd : In cc pc (.invokestatic idx) 3 pc') (hl : Cond.methodLink own idx M.1 ∈ lw_gd) (hM : qMS M na) (hc : CtrV G (qL X) M As μ P) (hn : As.length = na) (hs : As.reverse ++ st = st0) (hw : (st.map fun v => v.category).sum ≤ 8) (hR : qR X = R0) (hf : qFit M R0) (hz : q0 M)
    (kk : ∀ μ' : Mem, P μ' → Zm G X cc own μ' pc' vs st) : Zm G X cc own μ pc vs st0 := by
  refine z_callS hd hl hM hc hn hs hw hR hf (by rw [hz.1]; exact Nat.zero_le _) (by rw [hz.2]; exact Nat.zero_le _) ?_
  rintro v n' h' ⟨rfl, μ', rfl, rfl, hp⟩
  rw [hz.1, hz.2]
  exact kk μ' hp
/-- an end may ask less -/
theorem CtrI.weaken {l : Launch} {M : qMI} {as : List Value} {P P' : Int32 → Mem → Prop} (h : CtrI G l M as μ P) (hp : ∀ r μ', P r μ' → P' r μ') : CtrI G l M as μ P' := by
  intro p e h1 h2 h3 s m args below h4 h5 h6 h7
  obtain ⟨k, o, g1, g2, g3, ⟨v, n', h', e1, ⟨e2, μ', e3, r, e4, e5⟩, e6⟩, g5⟩ := h p e h1 h2 h3 s m args below h4 h5 h6 h7
  exact ⟨k, o, g1, g2, g3, ⟨v, n', h', e1, ⟨e2, μ', e3, r, e4, hp r μ' e5⟩, e6⟩, g5⟩
theorem CtrV.weaken {l : Launch} {M : qMI} {as : List Value} {P P' : Mem → Prop} (h : CtrV G l M as μ P) (hp : ∀ μ', P μ' → P' μ') : CtrV G l M as μ P' := by
  intro p e h1 h2 h3 s m args below h4 h5 h6 h7
  obtain ⟨k, o, g1, g2, g3, ⟨v, n', h', e1, ⟨e2, μ', e3, e4, e5⟩, e6⟩, g5⟩ := h p e h1 h2 h3 s m args below h4 h5 h6 h7
  exact ⟨k, o, g1, g2, g3, ⟨v, n', h', e1, ⟨e2, μ', e3, e4, hp μ' e5⟩, e6⟩, g5⟩
end ZM

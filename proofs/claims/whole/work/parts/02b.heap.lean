/-! THE FRAME, heap and calls -/
def cT (ci : Nat) : vw_C := vwCl.getD ci ("", fun _ => ("", "", "", false), 0)
def cTy (ci : Nat) : Nat → FieldType := match ci with
  | 0 => tyX0 | 1 => tyX1 | 2 => tyX2 | 3 => tyX3 | 4 => tyX4 | 5 => tyX5 | 6 => tyX6 | 7 => tyX7 | 8 => tyX8 | 9 => tyX9 | 10 => tyX10 | _ => tyX11
/-- what is known of a class -/
def qCl (ci : Nat) : Prop := vwCl[ci]? = some (cT ci) ∧ (∀ w ∈ u_ws (cT ci).1 (cT ci).2.1 (cT ci).2.2, w ∈ lw_gd) ∧ (∀ k, k < (cT ci).2.2 → parseFieldDescriptor ((cT ci).2.1 k).2.2.1 = some (cTy ci k)) ∧ (∀ a, a < (cT ci).2.2 → ∀ b, b < (cT ci).2.2 → a ≠ b → ((cT ci).2.1 a).2.1 ≠ ((cT ci).2.1 b).2.1) ∧ Cond.instantiable (cT ci).1 (cT ci).2.2 ∈ lw_gd ∧ Cond.initialized (cT ci).1 ∈ lw_gd
theorem qin_0 : ∀ w ∈ u_ws RX0 TX0 2, w ∈ lw_gd := by decide +kernel
theorem qin_1 : ∀ w ∈ u_ws RX1 TX1 4, w ∈ lw_gd := by decide +kernel
theorem qin_2 : ∀ w ∈ u_ws RX2 TX2 6, w ∈ lw_gd := by decide +kernel
theorem qin_3 : ∀ w ∈ u_ws RX3 TX3 6, w ∈ lw_gd := by decide +kernel
theorem qin_4 : ∀ w ∈ u_ws RX4 TX4 2, w ∈ lw_gd := by decide +kernel
theorem qin_5 : ∀ w ∈ u_ws RX5 TX5 4, w ∈ lw_gd := by decide +kernel
theorem qin_6 : ∀ w ∈ u_ws RX6 TX6 3, w ∈ lw_gd := by decide +kernel
theorem qin_7 : ∀ w ∈ u_ws RX7 TX7 5, w ∈ lw_gd := by decide +kernel
theorem qin_8 : ∀ w ∈ u_ws RX8 TX8 4, w ∈ lw_gd := by decide +kernel
theorem qin_9 : ∀ w ∈ u_ws RX9 TX9 7, w ∈ lw_gd := by decide +kernel
theorem qin_10 : ∀ w ∈ u_ws RX10 TX10 15, w ∈ lw_gd := by decide +kernel
theorem qin_11 : ∀ w ∈ u_ws RX11 TX11 32, w ∈ lw_gd := by decide +kernel
theorem q_cls : ∀ ci, ci < 12 → qCl ci := by
  intro ci h
  match ci, h with
  | 0, _ => exact ⟨rfl, qin_0, tyX0_ok, nmX0, by decide +kernel, by decide +kernel⟩
  | 1, _ => exact ⟨rfl, qin_1, tyX1_ok, nmX1, by decide +kernel, by decide +kernel⟩
  | 2, _ => exact ⟨rfl, qin_2, tyX2_ok, nmX2, by decide +kernel, by decide +kernel⟩
  | 3, _ => exact ⟨rfl, qin_3, tyX3_ok, nmX3, by decide +kernel, by decide +kernel⟩
  | 4, _ => exact ⟨rfl, qin_4, tyX4_ok, nmX4, by decide +kernel, by decide +kernel⟩
  | 5, _ => exact ⟨rfl, qin_5, tyX5_ok, nmX5, by decide +kernel, by decide +kernel⟩
  | 6, _ => exact ⟨rfl, qin_6, tyX6_ok, nmX6, by decide +kernel, by decide +kernel⟩
  | 7, _ => exact ⟨rfl, qin_7, tyX7_ok, nmX7, by decide +kernel, by decide +kernel⟩
  | 8, _ => exact ⟨rfl, qin_8, tyX8_ok, nmX8, by decide +kernel, by decide +kernel⟩
  | 9, _ => exact ⟨rfl, qin_9, tyX9_ok, nmX9, by decide +kernel, by decide +kernel⟩
  | 10, _ => exact ⟨rfl, qin_10, tyX10_ok, nmX10, by decide +kernel, by decide +kernel⟩
  | 11, _ => exact ⟨rfl, qin_11, tyX11_ok, nmX11, by decide +kernel, by decide +kernel⟩
/-- field k of class ci, by entry idx of own's pool -/
def qLk (own : String) (idx ci k : Nat) : Prop := ci < 12 ∧ k < (cT ci).2.2 ∧ Cond.fieldLink own idx (cT ci).1 ((cT ci).2.1 k).2.1 ((cT ci).2.1 k).2.2.1 ∈ lw_gd ∧ ((cT ci).2.1 k).1 = (cT ci).1
theorem q_up_eq {α : Type} (f : Nat → α) (k : Nat) (v : α) : va_up f k v k = v := if_pos rfl
theorem q_up_ne {α : Type} (f : Nat → α) {k j : Nat} (v : α) (h : j ≠ k) : va_up f k v j = f j := if_neg h
theorem HP.set {G : qG} {n a : Nat} {h : Nat → va_E} {H H1 : Heap} {e : va_E} (hH : HP G n h H) (he : va_at (qD G) vwCl (qB G + a, e) H1) (z : H1.size = H.size) (oq : ∀ q : Nat, q ≠ qB G + a → H1[q]? = H[q]?) : HP G n (va_up h a e) H1 := by
  refine ⟨z.trans hH.1, fun i hi => ?_, fun q hq => ?_⟩
  · by_cases hia : i = a
    · subst hia
      rw [q_up_eq]; exact he
    · rw [q_up_ne _ _ hia]
      exact (hH.2.1 i hi).kept (oq _ (by show qB G + i ≠ _; omega))
  · rw [oq q (by omega)]; exact hH.2.2 q hq
theorem HP.push {G : qG} {n : Nat} {h : Nat → va_E} {H H1 : Heap} {e : va_E} (hH : HP G n h H) (he : va_at (qD G) vwCl (qB G + n, e) H1) (z : H1.size = H.size + 1) (oq : ∀ q : Nat, q < H.size → H1[q]? = H[q]?) : HP G (n + 1) (va_up h n e) H1 := by
  have hz := hH.1
  refine ⟨by omega, fun i hi => ?_, fun q hq => ?_⟩
  · by_cases hia : i = n
    · subst hia
      rw [q_up_eq]; exact he
    · rw [q_up_ne _ _ hia]
      exact (hH.2.1 i (by omega)).kept (oq _ (by show qB G + i < _; omega))
  · rw [oq q (by omega)]; exact hH.2.2 q hq
theorem HP.at {G : qG} {n a : Nat} {h : Nat → va_E} {H : Heap} {e : va_E} (hH : HP G n h H) (ha : a < n) (he : h a = e) : va_P (qD G) vwCl [(qB G + a, e)] H := by
  intro k q hq
  have hk : k < 1 := (List.getElem?_eq_some_iff.mp hq).1
  rw [show k = 0 by omega] at hq
  cases hq
  subst he
  exact hH.2.1 a ha
section ZH
variable {G : qG} {X : qX} {cc : ByteArray} {own : String} {n : Nat} {h : Nat → va_E} {k1 k2 pc pc' : Nat} {vs : List (Option Value)} {st : List Value} {a : Nat}
theorem z_getG {idx ci k : Nat} {fs : List Value} {v : Value} (hd : In cc pc (.getfield idx) 3 pc') (hk : qLk own idx ci k) (ha : a < n) (he : h a = .inr (ci, fs)) (hv : fs[k]? = some v) (kk : Z G X cc own n h k1 k2 pc' vs (v :: st)) : Z G X cc own n h k1 k2 pc vs (.ref (qB G + a) :: st) := by
  intro hC H locs ls hH hS hL
  have k := kk hC H locs ls hH hS hL
  obtain ⟨p, l, e, R, s, m, args, below, meth, c, Q⟩ := X
  obtain ⟨hx, hb, hml, hown, hts, hal, hG, hsz⟩ := hC
  obtain ⟨hd, rfl⟩ := hd
  obtain ⟨hci, hkN, hlk, hsm⟩ := hk
  obtain ⟨c1, c2, c3, c4, -⟩ := q_cls ci hci
  exact va_get hx hb hts c2 hown (hG.1.moved hal) (hH.at ha he) 0 rfl c1 _ hkN (hts _ hlk) (fun x hx => by rw [hsm] at hx; exact hx) hv hd k
/-- a row that sets one cell -/
theorem Z.put {st' : List Value} {e1 : va_E} (f : ∀ (p : Program) (l : Launch) (e : Env) (R : Room) (s : State) (m : MethodId) (args : Array Value) (below : List Frame) (meth : Method) (c : Code) (Q : State → Prop) (H : Heap) (locs : List Loc) (ls : Array Slot), qC G (p, l, e, R, s, m, args, below, meth, c, Q) cc own vs.length → HP G n h H → ls.size = vs.length → (∀ (H1 : Heap) (locs1 : List Loc), va_at (qD G) vwCl (qB G + a, e1) H1 → H1.size = H.size → (∀ q : Nat, q ≠ qB G + a → H1[q]? = H[q]?) → (∀ q ∈ locs1, q ∈ locs ∨ q.base = qB G + a) → W p l e R s m args below meth c H1 locs1 k1 k2 Q (F0 m pc' ls st')) → W p l e R s m args below meth c H locs k1 k2 Q (F0 m pc ls st)) (kk : Z G X cc own n (va_up h a e1) k1 k2 pc' vs st') : Z G X cc own n h k1 k2 pc vs st := by
  intro hC H locs ls hH hS hL
  have k := fun H1 locs1 q1 q2 => kk hC H1 locs1 ls q1 q2 hL
  obtain ⟨p, l, e, R, s, m, args, below, meth, c, Q⟩ := X
  refine f p l e R s m args below meth c Q H locs ls hC hH hL.1 (fun H1 locs1 g1 g2 g3 g4 => k H1 locs1 (hH.set g1 g2 g3) ⟨?_, ?_, ?_⟩)
  · rw [g2]; exact hS.1
  · intro q q1 q2
    rw [g3 q (fun z => q2 (by rw [z]; exact Nat.le_add_right _ _))]
    exact hS.2.1 q q1 q2
  · intro q hq
    rcases g4 q hq with z | z
    · exact hS.2.2 q z
    · rw [z]; exact Nat.le_add_right _ _
theorem q_loc1 {locs : List Loc} {b i : Nat} : ∀ q ∈ locs ++ [(⟨b, i⟩ : Loc)], q ∈ locs ∨ q.base = b := fun q hq => (List.mem_append.mp hq).imp id (fun z => by rw [List.mem_singleton.mp z])
theorem z_putG {idx ci k : Nat} {fs : List Value} {v : Value} (hd : In cc pc (.putfield idx) 3 pc') (hk : qLk own idx ci k) (hfin : ((cT ci).2.1 k).2.2.2 = false) (ha : a < n) (he : h a = .inr (ci, fs)) (hl : k < fs.length) (hn : narrow (cTy ci k) v = v) (hfit : fits (cTy ci k) v = true) (kk : Z G X cc own n (va_up h a (.inr (ci, fs.set k v))) k1 k2 pc' vs st) : Z G X cc own n h k1 k2 pc vs (v :: .ref (qB G + a) :: st) := by
  obtain ⟨hd, rfl⟩ := hd
  obtain ⟨hci, hkN, hlk, hsm⟩ := hk
  obtain ⟨c1, c2, c3, c4, -⟩ := q_cls ci hci
  refine Z.put (fun p l e R s m args below meth c Q H locs ls hC hH _ kW => ?_) kk
  obtain ⟨hx, hb, hml, hown, hts, hal, hG, hsz⟩ := hC
  have hK := hG.1.moved hal
  have hap := va_apart (own := own) hts c2 (cTy ci) c3 c4 hK c1
  obtain ⟨r, h1, cell, q1, q2, q3, q4⟩ := (hH.at ha he) 0 _ rfl
  have hr : r = cT ci := Option.some.inj (h1.symm.trans c1)
  subst hr
  obtain ⟨hS, hfc, kC, hkC, hkind⟩ := hK.1 ci _ c1
  obtain ⟨cf, kf, fi, f, hi, hsl⟩ := hS k hkN
  have hlay := hts _ (c2 _ (u_in_lay hkN))
  unfold u_lay at hlay
  rw [if_neg (by rw [hfin]; decide)] at hlay
  have hst := (u_facts hfc hkC (u_lays hts c2 hkN) hi).1
  have h6 := u_store hfc hkC hkind hlay hi (c3 k hkN) hn hfit
  refine W.putK hx hb (f := f) ⟨hown, hts _ hlk, ⟨_, _, _, by rw [hsm] at hi; exact hi⟩, hst⟩ (by rw [q2]; exact h6) q1 q3 (by rw [hsl]; exact k2_hasslot (q4 k hkN)) rfl rfl hd fun H' e1 e2 e3 => ?_
  rw [hsl] at e1 ⊢
  exact kW H' _ ⟨_, c1, t_OB.to (V := updV (vp_V fs) k v) ⟨_, e1, q2, q3, t_set q4 hap hkN v⟩ (fun j _ => vp_updV_set hl v j)⟩ e2 e3 q_loc1
def qName (X : qX) : String := match X with
  | (_, _, _, _, _, _, _, _, meth, _, _) => meth.name
theorem z_putFG {idx ci k : Nat} {fs : List Value} {v : Value} (hN : qName X = "<init>") (hd : In cc pc (.putfield idx) 3 pc') (hk : qLk own idx ci k) (hfin : ((cT ci).2.1 k).2.2.2 = true) (ho : (cT ci).1 = own) (ha : a < n) (he : h a = .inr (ci, fs)) (hl : k < fs.length) (hn : narrow (cTy ci k) v = v) (hfit : fits (cTy ci k) v = true) (kk : Z G X cc own n (va_up h a (.inr (ci, fs.set k v))) k1 k2 pc' vs st) : Z G X cc own n h k1 k2 pc vs (v :: .ref (qB G + a) :: st) := by
  obtain ⟨hd, rfl⟩ := hd
  obtain ⟨hci, hkN, hlk, hsm⟩ := hk
  obtain ⟨c1, c2, c3, c4, -⟩ := q_cls ci hci
  intro hC H locs ls hH hS0 hL
  have k9 := fun H1 locs1 q1 q2 => kk hC H1 locs1 ls q1 q2 hL
  obtain ⟨p, l, e, R, s, m, args, below, meth, c, Q⟩ := X
  obtain ⟨hx, hb, hml, hown, hts, hal, hG, hsz⟩ := hC
  have hin2 : meth.name = "<init>" := hN
  have hK := hG.1.moved hal
  have hap := va_apart (own := own) hts c2 (cTy ci) c3 c4 hK c1
  obtain ⟨r, h1, cell, q1, q2, q3, q4⟩ := (hH.at ha he) 0 _ rfl
  have hr : r = cT ci := Option.some.inj (h1.symm.trans c1)
  subst hr
  obtain ⟨hS, hfc, kC, hkC, hkind⟩ := hK.1 ci _ c1
  obtain ⟨cf, kf, fi, f, hi, hsl⟩ := hS k hkN
  have hlay := hts _ (c2 _ (u_in_lay hkN))
  unfold u_lay at hlay
  rw [if_pos hfin] at hlay
  have hst := (u_facts hfc hkC (u_lays hts c2 hkN) hi).1
  have hcf : m.cls = cf := by
    obtain ⟨_, _, c', _, _, _, -, -, hf', -, -, -, hown2, -⟩ := Cond.laysFinal_spec hlay
    have e1 : c' = cf := by have := hi.symm.trans hf'; simp at this; exact this.1.symm
    rw [hsm, ho] at hown2
    rw [← e1]; exact Option.some.inj (hown.symm.trans hown2)
  have h6 := u_fits hfc hkC hkind (Or.inr hlay) hi (c3 k hkN) hn hfit
  refine W.putFinK hx hb hown (hts _ hlk) (by rw [hsm] at hi; exact hi) hst hcf hin2 (by rw [q2]; exact h6) q1 q3 (by rw [hsl]; exact k2_hasslot (q4 k hkN)) rfl rfl hd fun H' e1 e2 e3 => ?_
  rw [hsl] at e1 ⊢
  refine k9 H' _ (hH.set ⟨_, c1, t_OB.to (V := updV (vp_V fs) k v) ⟨_, e1, q2, q3, t_set q4 hap hkN v⟩ (fun j _ => vp_updV_set hl v j)⟩ e2 e3) (hS0.put e2 e3 (Nat.le_add_right _ _))
theorem z_ialdG {N : Nat} {f : Nat → Int32} {i : Int32} (hd : In cc pc (.iaload) 1 pc') (ha : a < n) (he : h a = .inl (qc G 0, N, .inl f)) (hin : vp_in i N) (kk : Z G X cc own n h k1 k2 pc' vs (.int (f i.toNatClampNeg) :: st)) : Z G X cc own n h k1 k2 pc vs (.int i :: .ref (qB G + a) :: st) := by
  intro hC H locs ls hH hS hL
  have k := kk hC H locs ls hH hS hL
  obtain ⟨p, l, e, R, s, m, args, below, meth, c, Q⟩ := X
  obtain ⟨hx, hb, hml, hown, hts, hal, hG, hsz⟩ := hC
  obtain ⟨hd, rfl⟩ := hd
  exact va_iald hx hb (hG.1.moved hal) (hH.at ha he) 0 0 rfl rfl hin hd k
theorem z_zaldG {N : Nat} {f : Nat → Int32} {i : Int32} (hd : In cc pc (.baload) 1 pc') (ha : a < n) (he : h a = .inl (qc G 1, N, .inl f)) (hin : vp_in i N) (kk : Z G X cc own n h k1 k2 pc' vs (.int (f i.toNatClampNeg) :: st)) : Z G X cc own n h k1 k2 pc vs (.int i :: .ref (qB G + a) :: st) := by
  intro hC H locs ls hH hS hL
  have k := kk hC H locs ls hH hS hL
  obtain ⟨p, l, e, R, s, m, args, below, meth, c, Q⟩ := X
  obtain ⟨hx, hb, hml, hown, hts, hal, hG, hsz⟩ := hC
  obtain ⟨hd, rfl⟩ := hd
  exact va_zald hx hb (hG.1.moved hal) (hH.at ha he) 0 1 rfl rfl hin hd k
theorem z_aaldG (t0 : Nat) {N : Nat} {cA : ClassId} {ty : FieldType} {f : Nat → Option Nat} {i : Int32} (hd : In cc pc (.aaload) 1 pc') (ht : (qTy G)[t0]? = some (cA, ty)) (hr : ty.isReference = true) (ha : a < n) (he : h a = .inl (cA, N, .inr (.inr (.inr (.inr f))))) (hin : vp_in i N) (kk : Z G X cc own n h k1 k2 pc' vs (va_rf (f i.toNatClampNeg) :: st)) : Z G X cc own n h k1 k2 pc vs (.int i :: .ref (qB G + a) :: st) := by
  intro hC H locs ls hH hS hL
  have k := kk hC H locs ls hH hS hL
  obtain ⟨p, l, e, R, s, m, args, below, meth, c, Q⟩ := X
  obtain ⟨hx, hb, hml, hown, hts, hal, hG, hsz⟩ := hC
  obtain ⟨hd, rfl⟩ := hd
  have hlt : i.toNatClampNeg < N := Nat.not_le.mp fun q => hin (Or.inr q)
  exact W.aald (v := va_rf (f i.toNatClampNeg)) (ty := ty) hx hb ((hH.at ha he) 0 _ rfl) (((hG.1.moved hal).2 t0 _ ht).1 N (fun j => va_rf (f j))) hr (fun q => by cases q) (by show ¬ (i < 0 ∨ (arrV _ _ _).slots.size ≤ _); rw [arrV_size]; exact hin) (by show (arrV _ _ _).slots[_]? = _; rw [arrV_read _ _ hlt]) rfl rfl hd k
theorem z_alenG (t0 : Nat) {cA : ClassId} {ty : FieldType} {x : vp_A} (hd : In cc pc (.arraylength) 1 pc') (ht : (qTy G)[t0]? = some (cA, ty)) (ha : a < n) (he : h a = .inl (cA, x)) (kk : Z G X cc own n h k1 k2 pc' vs (.int (nI x.1) :: st)) : Z G X cc own n h k1 k2 pc vs (.ref (qB G + a) :: st) := by
  intro hC H locs ls hH hS hL
  have k := kk hC H locs ls hH hS hL
  obtain ⟨p, l, e, R, s, m, args, below, meth, c, Q⟩ := X
  obtain ⟨hx, hb, hml, hown, hts, hal, hG, hsz⟩ := hC
  obtain ⟨hd, rfl⟩ := hd
  exact va_alen hx hb (hG.1.moved hal) (hH.at ha he) 0 t0 rfl ht rfl hd k
theorem z_iastG {N : Nat} {f : Nat → Int32} {i x : Int32} (hd : In cc pc (.iastore) 1 pc') (ha : a < n) (he : h a = .inl (qc G 0, N, .inl f)) (hin : vp_in i N) (kk : Z G X cc own n (va_up h a (.inl (qc G 0, N, .inl (upd f i.toNatClampNeg x)))) k1 k2 pc' vs st) : Z G X cc own n h k1 k2 pc vs (.int x :: .int i :: .ref (qB G + a) :: st) := by
  obtain ⟨hd, rfl⟩ := hd
  refine Z.put (fun p l e R s m args below meth c Q H locs ls hC hH _ kW => ?_) kk
  obtain ⟨hx, hb, hml, hown, hts, hal, hG, hsz⟩ := hC
  refine W.iast hx hb ((hH.at ha he) 0 _ rfl) (((hG.1.moved hal).2 0 _ rfl).1 N (fun j => .int (f j))) (fun q => by cases q) (by show ¬ (i < 0 ∨ (arrV _ _ _).slots.size ≤ _); rw [arrV_size]; exact hin) rfl rfl hd fun H1 e z oq => ?_
  refine kW H1 _ ?_ z oq q_loc1
  show H1[qB G + a]? = some (vp_cell _ _)
  rw [e]
  rw [vp_cell_i, vp_cell_i, arrV_store]
  congr 2
  funext q
  by_cases hq : q = i.toNatClampNeg
  · subst hq
    simp [updV, upd]
  · simp [updV, upd, hq]
theorem z_zastG {N : Nat} {f : Nat → Int32} {i x : Int32} (hd : In cc pc (.bastore) 1 pc') (ha : a < n) (he : h a = .inl (qc G 1, N, .inl f)) (hin : vp_in i N) (kk : Z G X cc own n (va_up h a (.inl (qc G 1, N, .inl (upd f i.toNatClampNeg (vp_nar .boolean x))))) k1 k2 pc' vs st) : Z G X cc own n h k1 k2 pc vs (.int x :: .int i :: .ref (qB G + a) :: st) := by
  obtain ⟨hd, rfl⟩ := hd
  refine Z.put (fun p l e R s m args below meth c Q H locs ls hC hH _ kW => ?_) kk
  obtain ⟨hx, hb, hml, hown, hts, hal, hG, hsz⟩ := hC
  refine W.zast hx hb ((hH.at ha he) 0 _ rfl) (((hG.1.moved hal).2 1 _ rfl).1 N (fun j => .int (f j))) (fun q => by cases q) (by show ¬ (i < 0 ∨ (arrV _ _ _).slots.size ≤ _); rw [arrV_size]; exact hin) rfl rfl hd fun H1 e z oq => ?_
  refine kW H1 _ ?_ z oq q_loc1
  show H1[qB G + a]? = some (vp_cell _ _)
  rw [e]
  rw [vp_cell_i, vp_cell_i, arrV_store]
  congr 2
  funext q
  by_cases hq : q = i.toNatClampNeg
  · subst hq
    simp [updV, upd, vp_nar]
    try rfl
  · simp [updV, upd, hq]
/-- a store of an object of class ci into an array of such -/
theorem z_aastG (t0 ci : Nat) {N b : Nat} {cA : ClassId} {f : Nat → Option Nat} {fs : List Value} {i : Int32} (hd : In cc pc (.aastore) 1 pc') (ht : (qTy G)[t0]? = some (cA, .object (cT ci).1)) (hci : ci < 12) (ha : a < n) (he : h a = .inl (cA, N, .inr (.inr (.inr (.inr f))))) (hb0 : b < n) (hbe : h b = .inr (ci, fs)) (hin : vp_in i N) (kk : Z G X cc own n (va_up h a (.inl (cA, N, .inr (.inr (.inr (.inr (va_up f i.toNatClampNeg (some (qB G + b)))))))) ) k1 k2 pc' vs st) : Z G X cc own n h k1 k2 pc vs (.ref (qB G + b) :: .int i :: .ref (qB G + a) :: st) := by
  obtain ⟨hd, rfl⟩ := hd
  obtain ⟨c1, -⟩ := q_cls ci hci
  refine Z.put (fun p l e R s m args below meth c Q H locs ls hC hH _ kW => ?_) kk
  obtain ⟨hx, hb, hml, hown, hts, hal, hG, hsz⟩ := hC
  have hK := hG.1.moved hal
  have hlt : i.toNatClampNeg < N := Nat.not_le.mp fun q => hin (Or.inr q)
  have h0 : ¬ i < 0 := fun q => hin (Or.inl q)
  obtain ⟨r', hr', cellV, g1, g2, g3, -⟩ := (hH.at hb0 hbe) 0 _ rfl
  have hcls := (hK.1 ci _ c1).2
  obtain ⟨kA, comp, w1, w2, w3, -⟩ := (hK.2 t0 _ ht).2
  have hcomp : comp = (qD G).1 ci := Option.some.inj (w3.symm.trans hcls.1)
  subst hcomp
  obtain ⟨kC, hkC, -⟩ := hcls.2
  refine W.aast hx hb ((hH.at ha he) 0 _ rfl) (fun q h => by cases h) (fun h => by cases h) w1 w2 rfl hkC ⟨h0, by show _ < (arrV _ _ _).slots.size; rw [arrV_size]; exact hlt⟩ g1 (fun q h => by rw [g3] at h; cases h) (by rw [g2]; exact hkC) (by rw [g2]; exact va_assign hcls) rfl rfl hd fun H1 e z oq => ?_
  refine kW H1 _ ?_ z oq q_loc1
  show H1[qB G + a]? = some (vp_cell _ _)
  rw [e]
  rw [vp_cell_q, vp_cell_q, arrV_store]
  congr 2
  funext q
  by_cases hq : q = i.toNatClampNeg
  · subst hq
    simp [updV, va_up, va_rf]
  · simp [updV, va_up, hq]
/-- System.arraycopy of ints -/
theorem z_copy {idx b N0 N1 : Nat} {f g : Nat → Int32} {R0 : Room} {k : Nat} (hd : In cc pc (.invokestatic idx) 3 pc') (hw1 : Cond.methodLink own idx arraycopyName ∈ lw_gd) (hw2 : Cond.native arraycopyName ∈ lw_gd) (hw3 : Cond.static arraycopyName ∈ lw_gd) (hw4 : Cond.initialized "java/lang/System" ∈ lw_gd) (hb0 : b < n) (hbe : h b = .inl (qc G 0, N0, .inl f)) (ha : a < n) (he : h a = .inl (qc G 0, N1, .inl g)) (hk0 : k ≤ N0) (hk1 : k ≤ N1) (hks : k < 2 ^ 31) (hne : a ≠ b) (hR : qR X = R0) (hf : 1 ≤ R0.frames ∧ (st.map fun v => v.category).sum + (nativeFrameWords "java/lang/System" "arraycopy" 5 + 11) ≤ R0.locals)
    (kk : Z G X cc own n (va_up h a (.inl (qc G 0, N1, .inl (fun j => if j < k then f j else g j)))) k1 k2 pc' vs st) : Z G X cc own n h k1 k2 pc vs (.int (nI k) :: .int (nI 0) :: .ref (qB G + a) :: .int (nI 0) :: .ref (qB G + b) :: st) := by
  obtain ⟨hd, rfl⟩ := hd
  subst hR
  intro hC H locs ls hH hS hL
  have k9 := fun H1 locs1 q1 q2 => kk hC H1 locs1 ls q1 q2 hL
  obtain ⟨p, l, e, R, s, m, args, below, meth, c, Q⟩ := X
  obtain ⟨hx, hb, hml, hown, hts, hal, hG, hsz⟩ := hC
  have hK := hG.1.moved hal
  have hc0 : H[qB G + b]? = some (vp_cell (qc G 0) (N0, .inl f)) := (hH.at hb0 hbe) 0 _ rfl
  have hc1 : H[qB G + a]? = some (vp_cell (qc G 0) (N1, .inl g)) := (hH.at ha he) 0 _ rfl
  have hD2 : va_D (fun q => q = qB G + b ∨ q = qB G + a) [(qB G + b, .inl (qc G 0, N0, .inl f)), (qB G + a, .inl (qc G 0, N1, .inl g))] := by
    constructor
    · intro i j x y hi hj hxy
      match i, j, hi, hj with
      | 0, 0, _, _ => rfl
      | 1, 1, _, _ => rfl
      | 0, 1, hi, hj => cases hi; cases hj; exact absurd hxy (by show ¬ qB G + b = qB G + a; omega)
      | 1, 0, hi, hj => cases hi; cases hj; exact absurd hxy (by show ¬ qB G + a = qB G + b; omega)
      | 0, j + 2, _, hj => simp at hj
      | 1, j + 2, _, hj => simp at hj
      | i + 2, _, hi, _ => simp at hi
    · intro i x hi
      match i, hi with
      | 0, hi => cases hi; exact Or.inl rfl
      | 1, hi => cases hi; exact Or.inr rfl
      | i + 2, hi => simp at hi
  have hP2 : va_P (qD G) vwCl [(qB G + b, .inl (qc G 0, N0, .inl f)), (qB G + a, .inl (qc G 0, N1, .inl g))] H := by
    intro i x hi
    match i, hi with
    | 0, hi => cases hi; exact hc0
    | 1, hi => cases hi; exact hc1
    | i + 2, hi => simp at hi
  have hck : (nI k).toNatClampNeg = k := nI_clamp hks
  have hc00 : (nI 0).toNatClampNeg = 0 := nI_clamp (by decide)
  intro T hT X
  obtain ⟨-, kk0, hk0', cm0, hkk0⟩ := (hK.2 0 _ rfl).1 N0 (fun j => .int (f j))
  obtain ⟨-, kk1, hk1', cm1, hkk1⟩ := (hK.2 0 _ rfl).1 N1 (fun j => .int (g j))
  have nn : ∀ z : Int32, ¬ z < 0 → z.toInt = (z.toNatClampNeg : Int) := by
    intro z hz
    have hz0 : (0 : Int) ≤ z.toInt := by
      have := Int32.not_lt.mp hz
      simpa using Int32.le_iff_toInt_le.mp this
    show z.toInt = ((z.toInt.toNat : Nat) : Int)
    omega
  obtain ⟨vm', X', step⟩ := X.arraycopy hx hown (hts _ hw1) (hts _ hw2) (hts _ hw3) (hts _ hw4) (src := qB G + b) (dst := qB G + a) (cs := vp_cell (qc G 0) (N0, .inl f)) (cd := vp_cell (qc G 0) (N1, .inl g)) (srcPos := nI 0) (destPos := nI 0) (n := nI k) (by rw [hT]; exact hc0) (by rw [hT]; exact hc1)
    (fun _ h => by cases h) (fun _ h => by cases h) (fun h => by cases h) (fun h => by cases h) hk0' hk1' hkk0 hkk1 (by simp [refKind]) (nI_pos (by decide)) (nI_pos (by decide)) (nI_pos hks)
    (by rw [nn _ (nI_pos (by decide)), nn _ (nI_pos hks), hck, hc00]; show ¬ _ > ((arrV (qc G 0) N0 (fun j => .int (f j))).slots.size : Int); rw [arrV_size]; omega)
    (by rw [nn _ (nI_pos (by decide)), nn _ (nI_pos hks), hck, hc00]; show ¬ _ > ((arrV (qc G 0) N1 (fun j => .int (g j))).slots.size : Int); rw [arrV_size]; omega)
    (fun vm₁ _ i hi => by
      have e : (vp_cell (qc G 0) (N0, .inl f)).slots.getD ((nI 0).toNatClampNeg + i) .null = .int (f ((nI 0).toNatClampNeg + i)) := by
        show (arrV (qc G 0) N0 (fun j => .int (f j))).slots.getD _ _ = _
        rw [Array.getD_eq_getD_getElem?, arrV_read _ _ (by rw [hck] at hi; omega)]
        rfl
      refine ⟨?_, ?_⟩
      · rw [e]
        rfl
      · rw [e]
        exact trivial)
    (g := F0 m pc ls (.int (nI k) :: .int (nI 0) :: .ref (qB G + a) :: .int (nI 0) :: .ref (qB G + b) :: st)) rfl (by rw [hml]; exact hL.1) (rest := st) rfl (by rw [hb]; exact hd) hf.1 (by have := hf.2; show 2 * 0 + _ + _ ≤ R.locals; exact (by have h3 : R.locals = (qR (p, l, e, R, s, m, args, below, meth, c, Q)).locals := rfl; omega))
  have e1 : copied (vp_cell (qc G 0) (N0, .inl f)) (vp_cell (qc G 0) (N1, .inl g)) (nI 0) (nI 0) (nI k) = vp_cell (qc G 0) (N1, .inl (va_cpy f g (nI 0).toNatClampNeg (nI 0).toNatClampNeg (nI k).toNatClampNeg)) := va_copied (fun z => .int z) (qc G 0) (qc G 0) f g (by rw [hck, hc00]; omega)
  have e2 : va_cpy f g (nI 0).toNatClampNeg (nI 0).toNatClampNeg (nI k).toNatClampNeg = fun j => if j < k then f j else g j := by
    funext j
    rw [hck, hc00]
    unfold va_cpy
    by_cases hj : j < k
    · simp [hj]
    · simp [hj]
  rw [e1, e2] at X' step
  have hl : qB G + a < H.size := (Array.getElem?_eq_some_iff.mp hc1).1
  have hheap : ((T.setVm vm').setCell (qB G + a) (vp_cell (qc G 0) (N1, .inl (fun j => if j < k then f j else g j)))).heap = H.setIfInBounds (qB G + a) (vp_cell (qc G 0) (N1, .inl (fun j => if j < k then f j else g j))) := by rw [← hT]; rfl
  have oq : ∀ q : Nat, q ≠ qB G + a → (H.setIfInBounds (qB G + a) (vp_cell (qc G 0) (N1, .inl (fun j => if j < k then f j else g j))))[q]? = H[q]? := fun q hq => by simp [Array.getElem?_setIfInBounds, Ne.symm hq]
  obtain ⟨t, a1, b1⟩ := k9 _ _ (hH.set (a := a) (show (H.setIfInBounds (qB G + a) _)[qB G + a]? = some _ by simp [Array.getElem?_setIfInBounds, hl]) (by simp) oq) ⟨by simp; exact hS.1, fun q g1 g2 => by
      rw [oq q (fun e => g2 (by rw [e]; exact Nat.le_add_right _ _))]
      exact hS.2.1 q g1 g2, fun q hq => by
      rcases List.mem_append.mp hq with h | h
      · exact hS.2.2 q h
      · obtain ⟨z, -, hz⟩ := List.mem_map.mp h
        rw [← hz]
        exact Nat.le_add_right _ _⟩ _ hheap X'
  exact ⟨t, step t a1, b1⟩
theorem z_max {idx : Nat} {x y : Int32} {R0 : Room} (hd : In cc pc (.invokestatic idx) 3 pc') (hw1 : Cond.methodLink own idx Lib.Math.max.name ∈ lw_gd) (hw2 : Cond.static Lib.Math.max.name ∈ lw_gd) (hw3 : Cond.initialized "java/lang/Math" ∈ lw_gd) (hw4 : Cond.code Lib.Math.max.name Lib.Math.max.code 2 (some .int) ∈ lw_gd) (hR : qR X = R0) (hf : 1 ≤ R0.frames ∧ (st.map fun v => v.category).sum + 13 ≤ R0.locals ∧ k1 ≤ R0.cells ∧ k2 ≤ R0.slots) (kk : Z G X cc own n h k1 k2 pc' vs (.int (if x < y then y else x) :: st)) : Z G X cc own n h k1 k2 pc vs (.int y :: .int x :: st) := by
  subst hR
  obtain ⟨hd, rfl⟩ := hd
  intro hC H locs ls hH hS hL
  have k := kk hC H locs ls hH hS hL
  obtain ⟨p, l, e, R, s, m, args, below, meth, c, Q⟩ := X
  obtain ⟨hx, hb, hml, hown, hts, hal, hG, hsz⟩ := hC
  exact va_mmax hx hb (hml.trans hL.1.symm) hown (hts _ hw1) (hts _ hw2) (hts _ hw3) (hts _ hw4) hf.1 hf.2.1 hf.2.2.1 hf.2.2.2 hd k
theorem z_min {idx : Nat} {x y : Int32} {R0 : Room} (hd : In cc pc (.invokestatic idx) 3 pc') (hw1 : Cond.methodLink own idx Lib.Math.min.name ∈ lw_gd) (hw2 : Cond.static Lib.Math.min.name ∈ lw_gd) (hw3 : Cond.initialized "java/lang/Math" ∈ lw_gd) (hw4 : Cond.code Lib.Math.min.name Lib.Math.min.code 2 (some .int) ∈ lw_gd) (hR : qR X = R0) (hf : 1 ≤ R0.frames ∧ (st.map fun v => v.category).sum + 13 ≤ R0.locals ∧ k1 ≤ R0.cells ∧ k2 ≤ R0.slots) (kk : Z G X cc own n h k1 k2 pc' vs (.int (if y < x then y else x) :: st)) : Z G X cc own n h k1 k2 pc vs (.int y :: .int x :: st) := by
  subst hR
  obtain ⟨hd, rfl⟩ := hd
  intro hC H locs ls hH hS hL
  have k := kk hC H locs ls hH hS hL
  obtain ⟨p, l, e, R, s, m, args, below, meth, c, Q⟩ := X
  obtain ⟨hx, hb, hml, hown, hts, hal, hG, hsz⟩ := hC
  exact va_mmin hx hb (hml.trans hL.1.symm) hown (hts _ hw1) (hts _ hw2) (hts _ hw3) (hts _ hw4) hf.1 hf.2.1 hf.2.2.1 hf.2.2.2 hd k
theorem z_objInit {idx b : Nat} {R0 : Room} (hd : In cc pc (.invokespecial idx) 3 pc') (hw1 : Cond.methodLink own idx objectInit ∈ lw_gd) (hw2 : Cond.instanceMethod objectInit ∈ lw_gd) (hw3 : Cond.code objectInit ⟨#[0xb1]⟩ 1 none ∈ lw_gd) (hR : qR X = R0) (hf : 1 ≤ R0.frames ∧ (st.map fun v => v.category).sum + 12 ≤ R0.locals) (kk : Z G X cc own n h k1 k2 pc' vs st) : Z G X cc own n h k1 k2 pc vs (.ref b :: st) := by
  subst hR
  obtain ⟨hd, rfl⟩ := hd
  intro hC H locs ls hH hS hL
  have k := kk hC H locs ls hH hS hL
  obtain ⟨p, l, e, R, s, m, args, below, meth, c, Q⟩ := X
  obtain ⟨hx, hb, hml, hown, hts, hal, hG, hsz⟩ := hC
  refine W.objInit hx hb hown (hts _ hw1) (hts _ hw2) (hts _ hw3) rfl (by rw [hml]; exact hL.1) rfl hd hf.1 (by have := hf.2; show 2 * 0 + _ + 12 ≤ R.locals; have h3 : R.locals = (qR (p, l, e, R, s, m, args, below, meth, c, Q)).locals := rfl; omega) ?_
  exact k
end ZH

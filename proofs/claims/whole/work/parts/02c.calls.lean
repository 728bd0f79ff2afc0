/-! THE FRAME: a method's entry, its ends, calls, new cells -/
def qQ (G : qG) (P : Option Value → Nat → (Nat → va_E) → Prop) : Array Value → State → Outcome → State → Prop := fun _ st o t => ∃ (v : Option Value) (n : Nat) (h : Nat → va_E), o = .returned v ∧ P v n h ∧ qSt G n h t ∧ va_F (qA G) st t
/-- the end of a method: its post P, the type that it returns -/
def qE (G : qG) (X : qX) (P : Option Value → Nat → (Nat → va_E) → Prop) (ret : Option FieldType) : Prop := match X with
  | (_, _, _, R, s, _, args, below, meth, _, Q) => Q = MQ below (qQ G P) args s R.cells R.slots (qA G) ∧ meth.locks = false ∧ meth.sig.returnType = ret
/-- a method: its name, bytes, locals, type, room -/
abbrev qMI : Type := MethodName × ByteArray × Nat × Option FieldType × Room
def qWs (M : qMI) : List Cond := Cond.code M.1 M.2.1 M.2.2.1 M.2.2.2.1 :: lw_gd
/-- THE CONTRACT: from the n cells h and these arguments the method returns, with P -/
def Ctr (G : qG) (l : Launch) (M : qMI) (as : List Value) (n : Nat) (h : Nat → va_E) (P : Option Value → Nat → (Nat → va_E) → Prop) : Prop := Met l M.1 (qWs M) M.2.2.2.2 (va_Pc as (qSt G n h)) (qQ G P) M.2.2.2.2.cells M.2.2.2.2.slots (qA G)
def qLoc : List Value → List (Option Value)
  | [] => []
  | v :: r => if v.category = 2 then some v :: none :: qLoc r else some v :: qLoc r
theorem qLoc_args : ∀ (as : List Value) (pre : List (Option Value)) (i : Nat) (v : Value), pre.length ≤ i → (pre ++ qLoc as)[i]? = some (some v) → (i, v) ∈ lv_args pre.length as
  | [], pre, i, v, h, e => by
    simp only [qLoc, List.append_nil] at e
    exact absurd (List.getElem?_eq_some_iff.mp e).1 (by omega)
  | a :: r, pre, i, v, h, e => by
    unfold lv_args
    by_cases hc : a.category = 2
    · have e0 : qLoc (a :: r) = some a :: none :: qLoc r := by simp [qLoc, hc]
      rw [e0] at e
      by_cases h1 : i = pre.length
      · subst h1
        rw [List.getElem?_append_right (Nat.le_refl _)] at e
        simp at e
        rw [e]; exact List.mem_cons_self
      · by_cases h2 : i = pre.length + 1
        · subst h2
          rw [List.getElem?_append_right (by omega)] at e
          simp at e
        · refine List.mem_cons_of_mem _ ?_
          rw [if_pos hc]
          have := qLoc_args r (pre ++ [some a, none]) i v (by simp; omega) (by rw [List.append_assoc]; exact e)
          simpa using this
    · have e0 : qLoc (a :: r) = some a :: qLoc r := by simp [qLoc, hc]
      rw [e0] at e
      by_cases h1 : i = pre.length
      · subst h1
        rw [List.getElem?_append_right (Nat.le_refl _)] at e
        simp at e
        rw [e]; exact List.mem_cons_self
      · refine List.mem_cons_of_mem _ ?_
        rw [if_neg hc]
        have := qLoc_args r (pre ++ [some a]) i v (by simp; omega) (by rw [List.append_assoc]; exact e)
        simpa using this
theorem qLoc_len : ∀ as : List Value, (lg_sl as).length = (qLoc as).length
  | [] => rfl
  | a :: r => by
    have ih := qLoc_len r
    by_cases hc : a.category = 2
    · have : lg_sl (a :: r) = .val a :: .second :: lg_sl r := by simp [lg_sl, hc]
      rw [this]; simp [qLoc, hc, ih]
    · have : lg_sl (a :: r) = .val a :: lg_sl r := by simp [lg_sl, hc]
      rw [this]; simp [qLoc, hc, ih]
/-- a method's entry -/
theorem q_enter {G : qG} {l : Launch} {M : qMI} {as : List Value} {n : Nat} {h : Nat → va_E} {P : Option Value → Nat → (Nat → va_E) → Prop} (vs0 : List (Option Value)) (hy : plainName M.1.cls = true) (hvs : qLoc as ++ List.replicate (M.2.2.1 - (qLoc as).length) none = vs0) (hle : (qLoc as).length ≤ M.2.2.1)
    (body : ∀ X : qX, qE G X P M.2.2.2.1 → qR X = M.2.2.2.2 → qName X = M.1.name → Z G X M.2.1 M.1.cls n h 0 0 0 vs0 []) : Ctr G l M as n h P := by
  obtain ⟨y, cc, maxL, ret, rm⟩ := M
  refine Met.ofW (cc := cc) (maxL := maxL) (ret := ret) (ws' := lw_gd) hy rfl ?_
  intro p e s m args below meth c s₁ B hml hv
  obtain ⟨rfl, hOK, hH, hal, hnw⟩ := hv
  have hts := atoms_spec (ws := qWs (y, cc, maxL, ret, rm)) B.pre
  have hlen : vs0.length = maxL := by rw [← hvs, List.length_append, List.length_replicate]; simp only at hle ⊢; omega
  have b := body (p, l, e, rm, s, m, as.toArray, below, meth, c, MQ below (qQ G P) as.toArray s rm.cells rm.slots (qA G)) ⟨rfl, B.notSynchronized, B.returns⟩ rfl (name_of_methodNamed B.named B.method).1
    ⟨B.exec, B.bytes, by rw [hlen]; exact hml, findClass_of_methodNamed B.named, fun w hw => hts w (List.mem_cons_of_mem _ hw), hal, hOK, by have := hH.1; omega, hnw⟩ s.heap [] _ hH va_S.rf
    (show LV ((lg_sl as ++ List.replicate (maxL - (lg_sl as).length) Slot.unset).toArray) vs0 from by
      have he := lv_entry as (n := maxL) (by rw [qLoc_len]; exact hle)
      refine LV.of (l := lv_args 0 as) (by rw [hlen]; exact he) ?_
      intro i v hi
      rw [← hvs] at hi
      by_cases h1 : i < (qLoc as).length
      · rw [List.getElem?_append_left h1] at hi
        exact qLoc_args as [] i v (Nat.zero_le _) hi
      · rw [List.getElem?_append_right (by omega), List.getElem?_replicate] at hi
        split at hi <;> cases hi)
  rw [lg_entry_eq]
  exact b
section ZE
variable {G : qG} {X : qX} {cc : ByteArray} {own : String} {n : Nat} {h : Nat → va_E} {k1 k2 pc pc' : Nat} {vs : List (Option Value)} {st : List Value} {P : Option Value → Nat → (Nat → va_E) → Prop}
theorem q_nwW {s t : State} (h : qNw s) (hW : s.WarmedH t.vm) : qNw t := fun a i y hs hm => (h a i y hs hm).warmM hW
theorem qv_trans {a b c : Vm} (h1 : a.Alike b) (h2 : b.Alike c) : a.Alike c := by exact h1.trans h2
theorem z_iret {x : Int32} (hE : qE G X P (some .int)) (hd : In cc pc (.ireturn) 1 pc') (hk1 : k1 ≤ (qR X).cells) (hk2 : k2 ≤ (qR X).slots) (hp : P (some (.int x)) n h) : Z G X cc own n h k1 k2 pc vs [.int x] := by
  intro hC H locs ls hH hS hL
  obtain ⟨p, l, e, R, s, m, args, below, meth, c, Q⟩ := X
  obtain ⟨hx, hb, hml, hown, hts, hal, hG, hsz, hnw⟩ := hC
  obtain ⟨hd, rfl⟩ := hd
  obtain ⟨rfl, hlocks, hr⟩ := hE
  exact W.widen hk1 hk2 (W.iret hx hb hr (fun t ht hW => ⟨_, n, h, rfl, hp, ⟨hG, by rw [ht]; exact hH, qv_trans hal hW.alike, q_nwW hnw hW⟩, hS.F ht⟩) hS.2.2 hd)
theorem z_zret {x : Int32} (hE : qE G X P (some .boolean)) (hd : In cc pc (.ireturn) 1 pc') (hn : narrow .boolean (.int x) = .int x) (hk1 : k1 ≤ (qR X).cells) (hk2 : k2 ≤ (qR X).slots) (hp : P (some (.int x)) n h) : Z G X cc own n h k1 k2 pc vs [.int x] := by
  intro hC H locs ls hH hS hL
  obtain ⟨p, l, e, R, s, m, args, below, meth, c, Q⟩ := X
  obtain ⟨hx, hb, hml, hown, hts, hal, hG, hsz, hnw⟩ := hC
  obtain ⟨hd, rfl⟩ := hd
  obtain ⟨rfl, hlocks, hr⟩ := hE
  exact W.widen hk1 hk2 (W.zret hx hb hr hn (fun t ht hW => ⟨_, n, h, rfl, hp, ⟨hG, by rw [ht]; exact hH, qv_trans hal hW.alike, q_nwW hnw hW⟩, hS.F ht⟩) hS.2.2 hd)
theorem z_lret {x : Int64} (hE : qE G X P (some .long)) (hd : In cc pc (.lreturn) 1 pc') (hk1 : k1 ≤ (qR X).cells) (hk2 : k2 ≤ (qR X).slots) (hp : P (some (.long x)) n h) : Z G X cc own n h k1 k2 pc vs [.long x] := by
  intro hC H locs ls hH hS hL
  obtain ⟨p, l, e, R, s, m, args, below, meth, c, Q⟩ := X
  obtain ⟨hx, hb, hml, hown, hts, hal, hG, hsz, hnw⟩ := hC
  obtain ⟨hd, rfl⟩ := hd
  obtain ⟨rfl, hlocks, hr⟩ := hE
  exact W.widen hk1 hk2 (W.lret hx hb hr (fun t ht hW => ⟨_, n, h, rfl, hp, ⟨hG, by rw [ht]; exact hH, qv_trans hal hW.alike, q_nwW hnw hW⟩, hS.F ht⟩) hS.2.2 hd)
theorem z_vret (hE : qE G X P none) (hd : In cc pc (.return_) 1 pc') (hk1 : k1 ≤ (qR X).cells) (hk2 : k2 ≤ (qR X).slots) (hp : P none n h) : Z G X cc own n h k1 k2 pc vs [] := by
  intro hC H locs ls hH hS hL
  obtain ⟨p, l, e, R, s, m, args, below, meth, c, Q⟩ := X
  obtain ⟨hx, hb, hml, hown, hts, hal, hG, hsz, hnw⟩ := hC
  obtain ⟨hd, rfl⟩ := hd
  obtain ⟨rfl, hlocks, hr⟩ := hE
  exact W.widen hk1 hk2 (W.vret hx hb hr (fun t ht hW => ⟨_, n, h, rfl, hp, ⟨hG, by rw [ht]; exact hH, qv_trans hal hW.alike, q_nwW hnw hW⟩, hS.F ht⟩) hS.2.2 hd)
/-- behind a call -/
theorem q_after {p : Program} {l : Launch} {e : Env} {R : Room} {s : State} {m : MethodId} {args : Array Value} {below : List Frame} {meth : Method} {c : Code} {H : Heap} {locs : List Loc} {mc ms : Nat} {Q : State → Prop} {ls : Array Slot} {st0 rest : List Value} {a : Array Value}
    (hr : va_Run p l e R s m args below meth c H locs k1 k2 mc ms (F0 m pc ls st0) rest (qQ G P a) (qA G)) (hS : va_S (qA G) s.heap H locs)
    (kk : ∀ (v : Option Value) (n' : Nat) (h' : Nat → va_E) (H1 : Heap) (locs1 : List Loc), P v n' h' → HP G n' h' H1 → va_S (qA G) s.heap H1 locs1 → W p l e R s m args below meth c H1 locs1 (k1 + mc) (k2 + ms) Q (F0 m (pc + 3) ls (v.toList ++ rest))) : W p l e R s m args below meth c H locs k1 k2 Q (F0 m pc ls st0) := by
  intro T hT X
  obtain ⟨v, st₀, t, T', L, h0, X', hL, e1, e2, ⟨v', n', h', hv, hp, hst, hz, hk⟩, stp⟩ := hr T hT X
  cases hv
  rw [h0] at hz hk
  obtain ⟨t2, a1, b1⟩ := kk v n' h' T'.heap (locs ++ L) hp (by rw [e1]; exact hst.2.1)
    ⟨Nat.le_trans hS.1 (by rw [e1]; exact hz), fun q h1 h2 => by rw [e1, hk q (Nat.lt_of_lt_of_le h1 hS.1) h2]; exact hS.2.1 q h1 h2, fun q hq => by
      rcases List.mem_append.mp hq with h | h
      · exact hS.2.2 q h
      · exact hL q h⟩ T' rfl X'
  exact ⟨t2, stp t2 a1, b1⟩
theorem q_blind {as : List Value} : FrameBlind (va_Pc as (qSt G n h)) := by
  intro a U g mk hq
  obtain ⟨q0, q1, q2, q3, q4⟩ := hq
  exact ⟨q0, q1, q2, q3, fun a i y hs hm => (q4 a i y hs hm).same rfl rfl⟩
theorem q_gin {own' : String} {idx : Nat} {M : qMI} (w1 : Cond.code M.1 M.2.1 M.2.2.1 M.2.2.2.1 ∈ lw_gd) : GoodIn lw_gd (qWs M) := by
  intro w hw
  have hm : w ∈ lw_gd := by
    rcases List.mem_cons.mp hw with z | z
    · rw [z]; exact w1
    · exact z
  exact ⟨hm, good_of_word (List.all_eq_true.mp lw_good w hm)⟩
/-- what a virtual method's call needs of the tables -/
def qMV (M : qMI) (ci na : Nat) : Prop := Cond.code M.1 M.2.1 M.2.2.1 M.2.2.2.1 ∈ lw_gd ∧ Cond.instanceMethod M.1 ∈ lw_gd ∧ Cond.selects M.1.cls M.1 M.1 ∈ lw_gd ∧ Cond.initialized M.1.cls ∈ lw_gd ∧ ci < 12 ∧ M.1.cls = (cT ci).1 ∧ (M.1.cls ≠ "java/lang/invoke/MethodHandle" ∧ M.1.cls ≠ "java/lang/invoke/VarHandle" ∧ (parseMethodDescriptor M.1.desc).map (fun d => d.parameters.length) = some na)
def qMS (M : qMI) (na : Nat) : Prop := Cond.code M.1 M.2.1 M.2.2.1 M.2.2.2.1 ∈ lw_gd ∧ Cond.static M.1 ∈ lw_gd ∧ Cond.initialized M.1.cls ∈ lw_gd ∧ (M.1.cls ≠ "java/lang/invoke/MethodHandle" ∧ M.1.cls ≠ "java/lang/invoke/VarHandle" ∧ (parseMethodDescriptor M.1.desc).map (fun d => d.parameters.length) = some na)
def qMc (M : qMI) (na : Nat) : Prop := Cond.code M.1 M.2.1 M.2.2.1 M.2.2.2.1 ∈ lw_gd ∧ Cond.instanceMethod M.1 ∈ lw_gd ∧ Cond.initialized M.1.cls ∈ lw_gd ∧ M.1.name = "<init>" ∧ M.2.2.2.1 = none ∧ (M.1.cls ≠ "java/lang/invoke/MethodHandle" ∧ M.1.cls ≠ "java/lang/invoke/VarHandle" ∧ (parseMethodDescriptor M.1.desc).map (fun d => d.parameters.length) = some na)
/-- the callee's room in the caller's -/
def qFit (M : qMI) (R0 : Room) : Prop := M.2.2.2.2.frames + 1 ≤ R0.frames ∧ 8 + (M.2.2.1 + 11) + M.2.2.2.2.locals ≤ R0.locals
theorem z_callV {idx ci na a : Nat} {M : qMI} {As : List Value} {fs : List Value} {R0 : Room} {st0 : List Value} (hd : In cc pc (.invokevirtual idx) 3 pc') (hl : Cond.methodLink own idx M.1 ∈ lw_gd) (hM : qMV M ci na) (hc : Ctr G (qL X) M (.ref (qB G + a) :: As) n h P) (ha : a < n) (he : h a = .inr (ci, fs)) (hn : As.length = na) (hs : As.reverse ++ .ref (qB G + a) :: st = st0) (hw : (st.map fun v => v.category).sum ≤ 8) (hR : qR X = R0) (hf : qFit M R0) (hk1 : k1 + M.2.2.2.2.cells ≤ R0.cells) (hk2 : k2 + M.2.2.2.2.slots ≤ R0.slots)
    (kk : ∀ (v : Option Value) (n' : Nat) (h' : Nat → va_E), P v n' h' → Z G X cc own n' h' (k1 + M.2.2.2.2.cells) (k2 + M.2.2.2.2.slots) pc' vs (v.toList ++ st)) : Z G X cc own n h k1 k2 pc vs st0 := by
  subst hR
  subst hs
  obtain ⟨hd, rfl⟩ := hd
  obtain ⟨w1, w2, w3, w4, hci, hcl, hdd⟩ := hM
  obtain ⟨c1, -⟩ := q_cls ci hci
  intro hC H locs ls hH hS hL
  have k9 := fun v n' h' H1 locs1 q0 q1 q2 => kk v n' h' q0 hC H1 locs1 ls q1 q2 hL
  obtain ⟨p, l, e, R, s, m, args, below, meth, c, Q⟩ := X
  obtain ⟨hx, hb, hml, hown, hts, hal, hG, hsz, hnw⟩ := hC
  have hgd : ∀ w ∈ lw_gd, (w.onTables && w.keeps) = true ∨ ∃ ty, w = .arrayClass ty := fun w hw => good_of_word (List.all_eq_true.mp lw_good w hw)
  have hT : GoodIn lw_gd (wsV own idx M.1.cls M.1 (qWs M)) := by
    intro w hw
    unfold wsV at hw
    have hm : w ∈ lw_gd := by
      rcases List.mem_append.mp hw with z | z
      · simp only [List.mem_cons, List.not_mem_nil, or_false] at z
        rcases z with z | z | z | z <;> subst z <;> assumption
      · exact (q_gin (own' := own) (idx := idx) w1 w z).1
    exact ⟨hm, hgd w hm⟩
  refine q_after (va_runV (As := As) (rest := st) (C := M.1.cls) ⟨hx, hb, hml, hown, hts⟩ hc (cwV na hts hT rfl rfl rfl ⟨rfl, hdd⟩ hf) ⟨q_blind, ?_, fun U hU hW => ⟨rfl, hG, by rw [hU]; exact hH, qv_trans hal hW.alike, q_nwW hnw hW⟩⟩ rfl hn hL.1 rfl (lv_room hw) hd ⟨hk1, hk2⟩) hS (fun v n' h' H1 locs1 q0 q1 q2 => k9 v n' h' H1 locs1 q0 q1 q2)
  rw [hcl]
  exact va_recv (hG.1.moved hal) (hH.at ha he) c1 (q0 := 0) rfl
theorem z_callS {idx na : Nat} {M : qMI} {As : List Value} {R0 : Room} {st0 : List Value} (hd : In cc pc (.invokestatic idx) 3 pc') (hl : Cond.methodLink own idx M.1 ∈ lw_gd) (hM : qMS M na) (hc : Ctr G (qL X) M As n h P) (hn : As.length = na) (hs : As.reverse ++ st = st0) (hw : (st.map fun v => v.category).sum ≤ 8) (hR : qR X = R0) (hf : qFit M R0) (hk1 : k1 + M.2.2.2.2.cells ≤ R0.cells) (hk2 : k2 + M.2.2.2.2.slots ≤ R0.slots)
    (kk : ∀ (v : Option Value) (n' : Nat) (h' : Nat → va_E), P v n' h' → Z G X cc own n' h' (k1 + M.2.2.2.2.cells) (k2 + M.2.2.2.2.slots) pc' vs (v.toList ++ st)) : Z G X cc own n h k1 k2 pc vs st0 := by
  subst hR
  subst hs
  obtain ⟨hd, rfl⟩ := hd
  obtain ⟨w1, w2, w4, hdd⟩ := hM
  intro hC H locs ls hH hS hL
  have k9 := fun v n' h' H1 locs1 q0 q1 q2 => kk v n' h' q0 hC H1 locs1 ls q1 q2 hL
  obtain ⟨p, l, e, R, s, m, args, below, meth, c, Q⟩ := X
  obtain ⟨hx, hb, hml, hown, hts, hal, hG, hsz, hnw⟩ := hC
  exact q_after (va_runS (As := As) (rest := st) ⟨hx, hb, hml, hown, hts⟩ hc ⟨callB_of na hts (q_gin (own' := own) (idx := idx) w1) rfl rfl rfl (hts _ w4) (hts _ hl) hdd hf, hts _ w2⟩ ⟨q_blind, fun U hU hW => ⟨rfl, hG, by rw [hU]; exact hH, qv_trans hal hW.alike, q_nwW hnw hW⟩⟩ rfl hn hL.1 rfl (lv_room hw) hd ⟨hk1, hk2⟩) hS (fun v n' h' H1 locs1 q0 q1 q2 => k9 v n' h' H1 locs1 q0 q1 q2)
theorem z_callI {idx na a : Nat} {M : qMI} {As : List Value} {R0 : Room} {st0 : List Value} (hd : In cc pc (.invokespecial idx) 3 pc') (hl : Cond.methodLink own idx M.1 ∈ lw_gd) (hM : qMc M na) (hc : Ctr G (qL X) M (.ref (qB G + a) :: As) n h P) (hn : As.length = na) (hs : As.reverse ++ .ref (qB G + a) :: st = st0) (hw : (st.map fun v => v.category).sum ≤ 8) (hR : qR X = R0) (hf : qFit M R0) (hk1 : k1 + M.2.2.2.2.cells ≤ R0.cells) (hk2 : k2 + M.2.2.2.2.slots ≤ R0.slots)
    (kk : ∀ (v : Option Value) (n' : Nat) (h' : Nat → va_E), P v n' h' → Z G X cc own n' h' (k1 + M.2.2.2.2.cells) (k2 + M.2.2.2.2.slots) pc' vs (v.toList ++ st)) : Z G X cc own n h k1 k2 pc vs st0 := by
  subst hR
  subst hs
  obtain ⟨hd, rfl⟩ := hd
  obtain ⟨y, cM, maxL, ret, rm⟩ := M
  obtain ⟨w1, w2, w4, hy1, hnone, hdd⟩ := hM
  simp only at hnone
  subst hnone
  intro hC H locs ls hH hS hL
  have k9 := fun v n' h' H1 locs1 q0 q1 q2 => kk v n' h' q0 hC H1 locs1 ls q1 q2 hL
  obtain ⟨p, l, e, R, s, m, args, below, meth, c, Q⟩ := X
  obtain ⟨hx, hb, hml, hown, hts, hal, hG, hsz, hnw⟩ := hC
  exact q_after (va_runI (As := As) (rest := st) ⟨hx, hb, hml, hown, hts⟩ hc (cwI na hts (q_gin (M := (y, cM, maxL, none, rm)) (own' := own) (idx := idx) w1) rfl rfl rfl (hts _ w4) (hts _ hl) (hts _ w2) hy1 hdd hf) ⟨q_blind, fun U hU hW => ⟨rfl, hG, by rw [hU]; exact hH, qv_trans hal hW.alike, q_nwW hnw hW⟩⟩ rfl hn hL.1 rfl (lv_room hw) hd ⟨hk1, hk2⟩) hS (fun v n' h' H1 locs1 q0 q1 q2 => k9 v n' h' H1 locs1 q0 q1 q2)
theorem z_callIN {idx na a : Nat} {host : String} {M : qMI} {As : List Value} {R0 : Room} {st0 : List Value} (hd : In cc pc (.invokespecial idx) 3 pc') (hl : Cond.methodLinkNest own idx M.1 host ∈ lw_tbl) (hM : qMc M na) (hc : Ctr G (qL X) M (.ref (qB G + a) :: As) n h P) (hn : As.length = na) (hs : As.reverse ++ .ref (qB G + a) :: st = st0) (hw : (st.map fun v => v.category).sum ≤ 8) (hR : qR X = R0) (hf : qFit M R0) (hk1 : k1 + M.2.2.2.2.cells ≤ R0.cells) (hk2 : k2 + M.2.2.2.2.slots ≤ R0.slots)
    (kk : ∀ (v : Option Value) (n' : Nat) (h' : Nat → va_E), P v n' h' → Z G X cc own n' h' (k1 + M.2.2.2.2.cells) (k2 + M.2.2.2.2.slots) pc' vs (v.toList ++ st)) : Z G X cc own n h k1 k2 pc vs st0 := by
  subst hR
  subst hs
  obtain ⟨hd, rfl⟩ := hd
  obtain ⟨y, cM, maxL, ret, rm⟩ := M
  obtain ⟨w1, w2, w4, hy1, hnone, hdd⟩ := hM
  simp only at hnone
  subst hnone
  intro hC H locs ls hH hS hL
  have k9 := fun v n' h' H1 locs1 q0 q1 q2 => kk v n' h' q0 hC H1 locs1 ls q1 q2 hL
  obtain ⟨p, l, e, R, s, m, args, below, meth, c, Q⟩ := X
  obtain ⟨hx, hb, hml, hown, hts, hal, hG, hsz, hnw⟩ := hC
  exact q_after (va_runIN (As := As) (rest := st) ⟨hx, hb, hml, hown, hts⟩ hc ⟨va_cnB na hts (q_gin (M := (y, cM, maxL, none, rm)) (own' := own) (idx := idx) w1) rfl rfl rfl (hnw _ _ _ _ hl) (hts _ w4) hdd hf, hy1, hts _ w2⟩ ⟨q_blind, fun U hU hW => ⟨rfl, hG, by rw [hU]; exact hH, qv_trans hal hW.alike, q_nwW hnw hW⟩⟩ rfl hn hL.1 rfl (lv_room hw) hd ⟨hk1, hk2⟩) hS (fun v n' h' H1 locs1 q0 q1 q2 => k9 v n' h' H1 locs1 q0 q1 q2)
end ZE

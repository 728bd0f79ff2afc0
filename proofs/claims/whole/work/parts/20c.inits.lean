/-! THE CONSTRUCTORS -/
abbrev ZP (G : qG) (X : qX) (cc : ByteArray) (own : String) (pre Y : List va_E) (k1 k2 pc : Nat) (vs : List (Option Value)) (st : List Value) : Prop := ZL G X cc own (pre ++ Y) k1 k2 pc vs st
theorem pre_get {pre Y : List va_E} {j : Nat} : (pre ++ Y)[pre.length + j]? = Y[j]? := by rw [List.getElem?_append_right (Nat.le_add_right _ _), Nat.add_sub_cancel_left]
theorem pre_set {pre Y : List va_E} {j : Nat} {e : va_E} : (pre ++ Y).set (pre.length + j) e = pre ++ Y.set j e := by rw [List.set_append_right _ _ (Nat.le_add_right _ _), Nat.add_sub_cancel_left]
section ZQ
variable {G : qG} {X : qX} {cc : ByteArray} {own : String} {k1 k2 pc pc' : Nat} {vs : List (Option Value)} {st : List Value} {R0 : Room} {pre Y Y' : List va_E} {y : Nat}
theorem p_newI {N : Nat} (hd : In cc pc (.newarray .int) 2 pc') (hN : N < 1000) (hR : qR X = R0) (hk1 : k1 + 1 ≤ R0.cells) (hk2 : k2 + N ≤ R0.slots) (hl : Y.length = y) (hY : Y ++ [.inl (qc G 0, N, .inl (fun _ => 0))] = Y') (kk : ZP G X cc own pre Y' (k1 + 1) (k2 + N) pc' vs (.ref (qB G + (pre.length + y)) :: st)) : ZP G X cc own pre Y k1 k2 pc vs (.int (nI N) :: st) := l_newI hd hN hR hk1 hk2 (by rw [List.length_append, hl]) (by rw [List.append_assoc, hY]) kk
theorem p_newZ {N : Nat} (hd : In cc pc (.newarray .boolean) 2 pc') (hN : N < 1000) (hR : qR X = R0) (hk1 : k1 + 1 ≤ R0.cells) (hk2 : k2 + N ≤ R0.slots) (hl : Y.length = y) (hY : Y ++ [.inl (qc G 1, N, .inl (fun _ => 0))] = Y') (kk : ZP G X cc own pre Y' (k1 + 1) (k2 + N) pc' vs (.ref (qB G + (pre.length + y)) :: st)) : ZP G X cc own pre Y k1 k2 pc vs (.int (nI N) :: st) := l_newZ hd hN hR hk1 hk2 (by rw [List.length_append, hl]) (by rw [List.append_assoc, hY]) kk
theorem p_newc {idx ci nf : Nat} {fs : List Value} (hd : In cc pc (.new idx) 3 pc') (hci : ci < 12) (hw : Cond.classLink own idx (cT ci).1 ∈ lw_gd) (hnf : (cT ci).2.2 = nf) (hfs : ∀ j, j < nf → defaultValue (cTy ci j) = vp_V fs j) (hR : qR X = R0) (hk1 : k1 + 1 ≤ R0.cells) (hk2 : k2 + nf ≤ R0.slots) (hl : Y.length = y) (hY : Y ++ [.inr (ci, fs)] = Y') (kk : ZP G X cc own pre Y' (k1 + 1) (k2 + nf) pc' vs (.ref (qB G + (pre.length + y)) :: st)) : ZP G X cc own pre Y k1 k2 pc vs st := l_newc hd hci hw hnf hfs hR hk1 hk2 (by rw [List.length_append, hl]) (by rw [List.append_assoc, hY]) kk
theorem p_anew (t0 ci : Nat) {idx N : Nat} {cA : ClassId} (hd : In cc pc (.anewarray idx) 3 pc') (hci : ci < 12) (ht : (qTy G)[t0]? = some (cA, .object (cT ci).1)) (hw : Cond.classLink own idx (cT ci).1 ∈ lw_gd) (hov : Cond.arrayOver (.object (cT ci).1) ∈ lw_tbl) (hN : N < 1000) (hR : qR X = R0) (hk1 : k1 + 1 ≤ R0.cells) (hk2 : k2 + N ≤ R0.slots) (hl : Y.length = y) (hY : Y ++ [.inl (cA, N, .inr (.inr (.inr (.inr (fun _ => none)))))] = Y') (kk : ZP G X cc own pre Y' (k1 + 1) (k2 + N) pc' vs (.ref (qB G + (pre.length + y)) :: st)) : ZP G X cc own pre Y k1 k2 pc vs (.int (nI N) :: st) := l_anew t0 ci hd hci ht hw hov hN hR hk1 hk2 (by rw [List.length_append, hl]) (by rw [List.append_assoc, hY]) kk
theorem p_get {j idx ci k : Nat} {fs : List Value} {v : Value} (hd : In cc pc (.getfield idx) 3 pc') (hk : qLk own idx ci k) (he : Y[j]? = some (.inr (ci, fs))) (hv : fs[k]? = some v) (kk : ZP G X cc own pre Y k1 k2 pc' vs (v :: st)) : ZP G X cc own pre Y k1 k2 pc vs (.ref (qB G + (pre.length + j)) :: st) := l_get hd hk (pre_get.trans he) hv kk
theorem p_put {j idx ci k nf : Nat} {fs : List Value} {v : Value} (hd : In cc pc (.putfield idx) 3 pc') (hk : qLk own idx ci k) (hfin : ((cT ci).2.1 k).2.2.2 = false) (he : Y[j]? = some (.inr (ci, fs))) (hnf : fs.length = nf) (hl : k < nf) (hn : narrow (cTy ci k) v = v) (hfit : fits (cTy ci k) v = true) (hY : Y.set j (.inr (ci, fs.set k v)) = Y') (kk : ZP G X cc own pre Y' k1 k2 pc' vs st) : ZP G X cc own pre Y k1 k2 pc vs (v :: .ref (qB G + (pre.length + j)) :: st) := l_put hd hk hfin (pre_get.trans he) (by rw [hnf]; exact hl) hn hfit (by rw [pre_set, hY]) kk
theorem p_putF {j idx ci k nf : Nat} {fs : List Value} {v : Value} (hN : qName X = "<init>") (hd : In cc pc (.putfield idx) 3 pc') (hk : qLk own idx ci k) (hfin : ((cT ci).2.1 k).2.2.2 = true) (ho : (cT ci).1 = own) (he : Y[j]? = some (.inr (ci, fs))) (hnf : fs.length = nf) (hl : k < nf) (hn : narrow (cTy ci k) v = v) (hfit : fits (cTy ci k) v = true) (hY : Y.set j (.inr (ci, fs.set k v)) = Y') (kk : ZP G X cc own pre Y' k1 k2 pc' vs st) : ZP G X cc own pre Y k1 k2 pc vs (v :: .ref (qB G + (pre.length + j)) :: st) := l_putF hN hd hk hfin ho (pre_get.trans he) (by rw [hnf]; exact hl) hn hfit (by rw [pre_set, hY]) kk
theorem p_aast (t0 ci : Nat) {j j2 N i : Nat} {cA : ClassId} {f g : Nat → Option Nat} {fs : List Value} (hd : In cc pc (.aastore) 1 pc') (ht : (qTy G)[t0]? = some (cA, .object (cT ci).1)) (hci : ci < 12) (he : Y[j]? = some (.inl (cA, N, .inr (.inr (.inr (.inr f)))))) (hbe : Y[j2]? = some (.inr (ci, fs))) (hi : i < N) (hN : N < 1000) (hg : va_up f i (some (qB G + (pre.length + j2))) = g) (hY : Y.set j (.inl (cA, N, .inr (.inr (.inr (.inr g))))) = Y') (kk : ZP G X cc own pre Y' k1 k2 pc' vs st) : ZP G X cc own pre Y k1 k2 pc vs (.ref (qB G + (pre.length + j2)) :: .int (nI i) :: .ref (qB G + (pre.length + j)) :: st) := l_aast t0 ci hd ht hci (pre_get.trans he) (pre_get.trans hbe) hi hN hg (by rw [pre_set, hY]) kk
theorem p_conv {j : Nat} {e e' : va_E} (he : Y[j]? = some e) (hq : qEq G e e') (hY : Y.set j e' = Y') (kk : ZP G X cc own pre Y' k1 k2 pc vs st) : ZP G X cc own pre Y k1 k2 pc vs st := by
  subst hY
  rw [← pre_set] at kk
  have he2 : (pre ++ Y)[pre.length + j]? = some e := pre_get.trans he
  refine l_conv (List.length_set ..) (fun i hi => ?_) kk
  unfold hL
  rw [List.getD_eq_getElem?_getD, List.getD_eq_getElem?_getD, List.getElem?_set]
  by_cases z : pre.length + j = i
  · subst z
    rw [if_pos rfl, if_pos hi, he2]
    exact hq
  · rw [if_neg z]
    exact qEq.rf G _
theorem p_ret {B : List va_E} (hE : EX G X (pre ++ B)) (hd : In cc pc (.return_) 1 pc') (hR : qR X = R0) (hk1 : k1 ≤ R0.cells) (hk2 : k2 ≤ R0.slots) (hY : Y = B) : ZP G X cc own pre Y k1 k2 pc vs [] := l_ret hE hd hR hk1 hk2 (by rw [hY])
theorem p_call {idx na c1 c2 : Nat} {M : qMI} {As : List Value} {st0 : List Value} {Yc : List va_E} {fr : va_E} {B : Nat → List va_E} (hd : In cc pc (.invokespecial idx) 3 pc') (hlk : Cond.methodLink own idx M.1 ∈ lw_gd) (hM : qMc M na) (hYc : Yc = Y ++ [fr]) (hl : Y.length = y) (hc : CtrX G (qL X) M (.ref (qB G + (pre ++ Y).length) :: As) ((pre ++ Y) ++ [fr]) ((pre ++ Y) ++ B (pre ++ Y).length)) (hn : As.length = na) (hs : As.reverse ++ .ref (qB G + (pre.length + y)) :: st = st0) (hw : (st.map fun v => v.category).sum ≤ 8) (hR : qR X = R0) (hf : qFit M R0) (e1 : M.2.2.2.2.cells = c1) (e2 : M.2.2.2.2.slots = c2) (hk1 : k1 + c1 ≤ R0.cells) (hk2 : k2 + c2 ≤ R0.slots) (hY : Y ++ B (pre.length + y) = Y')
    (kk : ZP G X cc own pre Y' (k1 + c1) (k2 + c2) pc' vs st) : ZP G X cc own pre Yc k1 k2 pc vs st0 := by
  subst hYc hl hY
  have e : (pre ++ Y).length = pre.length + Y.length := List.length_append
  rw [e, List.append_assoc, List.append_assoc] at hc
  exact l_call hd hlk hM hc hn hs hw hR hf e1 e2 hk1 hk2 kk
theorem p_callN {idx na c1 c2 : Nat} {host : String} {M : qMI} {As : List Value} {st0 : List Value} {Yc : List va_E} {fr : va_E} {B : Nat → List va_E} (hd : In cc pc (.invokespecial idx) 3 pc') (hlk : Cond.methodLinkNest own idx M.1 host ∈ lw_tbl) (hM : qMc M na) (hYc : Yc = Y ++ [fr]) (hl : Y.length = y) (hc : CtrX G (qL X) M (.ref (qB G + (pre ++ Y).length) :: As) ((pre ++ Y) ++ [fr]) ((pre ++ Y) ++ B (pre ++ Y).length)) (hn : As.length = na) (hs : As.reverse ++ .ref (qB G + (pre.length + y)) :: st = st0) (hw : (st.map fun v => v.category).sum ≤ 8) (hR : qR X = R0) (hf : qFit M R0) (e1 : M.2.2.2.2.cells = c1) (e2 : M.2.2.2.2.slots = c2) (hk1 : k1 + c1 ≤ R0.cells) (hk2 : k2 + c2 ≤ R0.slots) (hY : Y ++ B (pre.length + y) = Y')
    (kk : ZP G X cc own pre Y' (k1 + c1) (k2 + c2) pc' vs st) : ZP G X cc own pre Yc k1 k2 pc vs st0 := by
  subst hYc hl hY
  have e : (pre ++ Y).length = pre.length + Y.length := List.length_append
  rw [e, List.append_assoc, List.append_assoc] at hc
  exact l_callN hd hlk hM hc hn hs hw hR hf e1 e2 hk1 hk2 kk
end ZQ
theorem mt_over_4 : Cond.arrayOver (.object (cT 4).1) ∈ lw_tbl := by decide +kernel
theorem mt_over_5 : Cond.arrayOver (.object (cT 5).1) ∈ lw_tbl := by decide +kernel
theorem mt_over_ii : Cond.arrayOver (.array .int) ∈ lw_tbl := by decide +kernel
theorem mt_ac : Cond.arrayClass .int ∈ lw_gd := by decide +kernel
def cI (G : qG) (N : Nat) : va_E := .inl (qc G 0, N, .inl (fun _ => 0))
def rfE (G : qG) (k N b d : Nat) : va_E := .inl (qc G k, N, .inr (.inr (.inr (.inr (fun j => some (qB G + (b + d * j)))))))
def rV (G : qG) (a : Nat) : Value := .ref (qB G + a)
def bF (G : qG) (b : Nat) : List va_E := [.inr (4, [.int 0, rV G (b + 1)]), cI G 3]
def bH (G : qG) (b : Nat) : List va_E := [.inr (5, [rV G (b + 1), rV G (b + 2), rV G (b + 3), .int 0]), cI G 5, cI G 6, cI G 6]
def bR (G : qG) (b : Nat) : List va_E := [.inr (7, [rV G (b + 1), rV G (b + 2), rV G (b + 3), .int 0, .int 0]), rfE G 2 6 (b + 4) 2, cI G 5, cI G 5] ++ bF G (b + 4) ++ bF G (b + 6) ++ bF G (b + 8) ++ bF G (b + 10) ++ bF G (b + 12) ++ bF G (b + 14)
def bB (G : qG) (b : Nat) : List va_E := [.inr (1, [.int 0, .int 0, .int 0, rV G (b + 1)]), cI G 9]
def bD (G : qG) (r : Nat) (_b : Nat) : List va_E := [.inr (6, [rV G r, .int 0, .int 0])]
def bS (G : qG) (r o : Nat) (b : Nat) : List va_E := [.inr (8, [rV G r, rV G o, rV G (b + 1), rV G (b + 5)])] ++ bH G (b + 1) ++ rfE G 4 6 (b + 5 + 1) 1 :: List.replicate 6 (cI G 6)
def bA (G : qG) (b : Nat) : List va_E := [.inr (0, [rV G (b + 1), .int 0]), rfE G 3 14 (b + 2) 4] ++ bH G (b + 2) ++ bH G (b + 6) ++ bH G (b + 10) ++ bH G (b + 14) ++ bH G (b + 18) ++ bH G (b + 22) ++ bH G (b + 26) ++ bH G (b + 30) ++ bH G (b + 34) ++ bH G (b + 38) ++ bH G (b + 42) ++ bH G (b + 46) ++ bH G (b + 50) ++ bH G (b + 54)
def bC (G : qG) (r : Nat) (b : Nat) : List va_E := [.inr (3, [rV G r, rV G (b + 1), rV G (b + 2), rV G (b + 3), .int 0, .int 0]), cI G 6, cI G 6, cI G 64]
def bN (G : qG) (r : Nat) (b : Nat) : List va_E := [.inr (2, [rV G r, rV G (b + 1), .int 0, .int (nI 1), .int 0, .int 0]), cI G 9]
def bM (G : qG) (r : Nat) (b : Nat) : List va_E := [.inr (9, [rV G r, rV G (b + 1), rV G (b + 3), rV G (b + 4), .int 0, .int 0, .int 0])] ++ [.inr (4, [.int (nI 0), rV G (b + 1 + 1)]), cI G 3] ++ [cI G 6, cI G 6]
def bY (G : qG) (b : Nat) : List va_E := [.inr (11, [.int 0, .int 0, rV G (b + 1), rV G (b + 2), rV G (b + 3), rV G (b + 4), rV G (b + 5), rV G (b + 6), rV G (b + 7), .int 0, .int 0, rV G (b + 8), .int 0, .int 0, .int 0, .int 0, .int 0, .int 0, .int 0, .int 0, .int 0, .int 0, rV G (b + 9), rV G (b + 10), rV G (b + 11), rV G (b + 12), .int 0, rV G (b + 13), rV G (b + 14), .long 0, rV G (b + 15), rV G (b + 16)]), cI G 7, cI G 21, cI G 5, cI G 5, cI G 36, cI G 24, cI G 10, cI G 52, cI G 252, cI G 6, cI G 6, cI G 6, cI G 6, cI G 6, .inl (qc G 1, 2, .inl (fun _ => 0)), cI G 36]
def bX (G : qG) (b : Nat) : List va_E := [.inr (10, [rV G (b + 1), .int 0, rV G (b + 2), rV G (b + 18), rV G (b + 19), rV G (b + 35), rV G (b + 37), rV G (b + 49), rV G (b + 61), rV G (b + 119), rV G (b + 123), rV G (b + 125), rV G (b + 130), rV G (b + 131), .long 0]), cI G 52] ++ bR G (b + 2) ++ bD G (b + 2) (b + 18) ++ bR G (b + 19) ++ bB G (b + 35) ++ bS G (b + 19) (b + 35) (b + 37) ++ bS G (b + 19) (b + 35) (b + 49) ++ bA G (b + 61) ++ bC G (b + 37) (b + 119) ++ bN G (b + 37) (b + 123) ++ bM G (b + 37) (b + 125) ++ [rfE G 3 2 (b + 132) 4, .inl (qc G 1, 2, .inl (fun _ => 0))] ++ bH G (b + 132) ++ bH G (b + 136)

theorem df_0 : ∀ j, j < 2 → defaultValue (cTy 0 j) = vp_V [.null, .int 0] j := by
  intro j hj
  rcases (show j = 0 ∨ j = 1 by omega) with rfl | rfl <;> rfl
theorem df_1 : ∀ j, j < 4 → defaultValue (cTy 1 j) = vp_V [.int 0, .int 0, .int 0, .null] j := by
  intro j hj
  rcases (show j = 0 ∨ j = 1 ∨ j = 2 ∨ j = 3 by omega) with rfl | rfl | rfl | rfl <;> rfl
theorem df_2 : ∀ j, j < 6 → defaultValue (cTy 2 j) = vp_V [.null, .null, .int 0, .int 0, .int 0, .int 0] j := by
  intro j hj
  rcases (show j = 0 ∨ j = 1 ∨ j = 2 ∨ j = 3 ∨ j = 4 ∨ j = 5 by omega) with rfl | rfl | rfl | rfl | rfl | rfl <;> rfl
theorem df_3 : ∀ j, j < 6 → defaultValue (cTy 3 j) = vp_V [.null, .null, .null, .null, .int 0, .int 0] j := by
  intro j hj
  rcases (show j = 0 ∨ j = 1 ∨ j = 2 ∨ j = 3 ∨ j = 4 ∨ j = 5 by omega) with rfl | rfl | rfl | rfl | rfl | rfl <;> rfl
theorem df_4 : ∀ j, j < 2 → defaultValue (cTy 4 j) = vp_V [.int 0, .null] j := by
  intro j hj
  rcases (show j = 0 ∨ j = 1 by omega) with rfl | rfl <;> rfl
theorem df_5 : ∀ j, j < 4 → defaultValue (cTy 5 j) = vp_V [.null, .null, .null, .int 0] j := by
  intro j hj
  rcases (show j = 0 ∨ j = 1 ∨ j = 2 ∨ j = 3 by omega) with rfl | rfl | rfl | rfl <;> rfl
theorem df_6 : ∀ j, j < 3 → defaultValue (cTy 6 j) = vp_V [.null, .int 0, .int 0] j := by
  intro j hj
  rcases (show j = 0 ∨ j = 1 ∨ j = 2 by omega) with rfl | rfl | rfl <;> rfl
theorem df_7 : ∀ j, j < 5 → defaultValue (cTy 7 j) = vp_V [.null, .null, .null, .int 0, .int 0] j := by
  intro j hj
  rcases (show j = 0 ∨ j = 1 ∨ j = 2 ∨ j = 3 ∨ j = 4 by omega) with rfl | rfl | rfl | rfl | rfl <;> rfl
theorem df_8 : ∀ j, j < 4 → defaultValue (cTy 8 j) = vp_V [.null, .null, .null, .null] j := by
  intro j hj
  rcases (show j = 0 ∨ j = 1 ∨ j = 2 ∨ j = 3 by omega) with rfl | rfl | rfl | rfl <;> rfl
theorem df_9 : ∀ j, j < 7 → defaultValue (cTy 9 j) = vp_V [.null, .null, .null, .null, .int 0, .int 0, .int 0] j := by
  intro j hj
  rcases (show j = 0 ∨ j = 1 ∨ j = 2 ∨ j = 3 ∨ j = 4 ∨ j = 5 ∨ j = 6 by omega) with rfl | rfl | rfl | rfl | rfl | rfl | rfl <;> rfl
theorem df_10 : ∀ j, j < 15 → defaultValue (cTy 10 j) = vp_V [.null, .int 0, .null, .null, .null, .null, .null, .null, .null, .null, .null, .null, .null, .null, .long 0] j := by
  intro j hj
  rcases (show j = 0 ∨ j = 1 ∨ j = 2 ∨ j = 3 ∨ j = 4 ∨ j = 5 ∨ j = 6 ∨ j = 7 ∨ j = 8 ∨ j = 9 ∨ j = 10 ∨ j = 11 ∨ j = 12 ∨ j = 13 ∨ j = 14 by omega) with rfl | rfl | rfl | rfl | rfl | rfl | rfl | rfl | rfl | rfl | rfl | rfl | rfl | rfl | rfl <;> rfl
theorem df_11 : ∀ j, j < 32 → defaultValue (cTy 11 j) = vp_V [.int 0, .int 0, .null, .null, .null, .null, .null, .null, .null, .int 0, .int 0, .null, .int 0, .int 0, .int 0, .int 0, .int 0, .int 0, .int 0, .int 0, .int 0, .int 0, .null, .null, .null, .null, .int 0, .null, .null, .long 0, .null, .null] j := by
  intro j hj
  rcases (show j = 0 ∨ j = 1 ∨ j = 2 ∨ j = 3 ∨ j = 4 ∨ j = 5 ∨ j = 6 ∨ j = 7 ∨ j = 8 ∨ j = 9 ∨ j = 10 ∨ j = 11 ∨ j = 12 ∨ j = 13 ∨ j = 14 ∨ j = 15 ∨ j = 16 ∨ j = 17 ∨ j = 18 ∨ j = 19 ∨ j = 20 ∨ j = 21 ∨ j = 22 ∨ j = 23 ∨ j = 24 ∨ j = 25 ∨ j = 26 ∨ j = 27 ∨ j = 28 ∨ j = 29 ∨ j = 30 ∨ j = 31 by omega) with rfl | rfl | rfl | rfl | rfl | rfl | rfl | rfl | rfl | rfl | rfl | rfl | rfl | rfl | rfl | rfl | rfl | rfl | rfl | rfl | rfl | rfl | rfl | rfl | rfl | rfl | rfl | rfl | rfl | rfl | rfl | rfl <;> rfl
theorem c_X4_init (G : qG) (l : Launch) (pre : List va_E) : CtrX G l M_X4_init (.ref (qB G + pre.length) :: []) (pre ++ [.inr (4, [.int 0, .null])]) (pre ++ bF G pre.length) := by
  refine l_enter [some (.ref (qB G + pre.length))] (by decide +kernel) rfl (Nat.le_of_ble_eq_true rfl) rfl (fun X hE hR hNm => ?_)
  have hR : qR X = rm_X4_init := hR
  have hNm : qName X = "<init>" := hNm
  show ZP G X cX4_init RX4 pre [.inr (4, [.int 0, .null])] 0 0 0 [some (.ref (qB G + pre.length))] []
  refine z_aload_0 iX4_init_0 ?_
  refine z_objInit iX4_init_1 l_4_3 w_objI w_objC hR ⟨by decide, by decide⟩ ?_
  refine z_aload_0 iX4_init_4 ?_
  refine z_iconst iX4_init_5 kI_3 ?_
  refine p_newI (y := 1) iX4_init_6 (by decide) hR (by decide) (by decide) rfl rfl ?_
  refine p_putF (j := 0) (nf := 2) hNm iX4_init_8 g_4_9 rfl rfl rfl rfl (by decide) rfl rfl rfl ?_
  exact p_ret hE iX4_init_11 hR (by decide) (by decide) rfl
theorem c_X5_init (G : qG) (l : Launch) (pre : List va_E) : CtrX G l M_X5_init (.ref (qB G + pre.length) :: []) (pre ++ [.inr (5, [.null, .null, .null, .int 0])]) (pre ++ bH G pre.length) := by
  refine l_enter [some (.ref (qB G + pre.length))] (by decide +kernel) rfl (Nat.le_of_ble_eq_true rfl) rfl (fun X hE hR hNm => ?_)
  have hR : qR X = rm_X5_init := hR
  have hNm : qName X = "<init>" := hNm
  show ZP G X cX5_init RX5 pre [.inr (5, [.null, .null, .null, .int 0])] 0 0 0 [some (.ref (qB G + pre.length))] []
  refine z_aload_0 iX5_init_0 ?_
  refine z_objInit iX5_init_1 l_5_3 w_objI w_objC hR ⟨by decide, by decide⟩ ?_
  refine z_aload_0 iX5_init_4 ?_
  refine z_iconst iX5_init_5 kI_5 ?_
  refine p_newI (y := 1) iX5_init_6 (by decide) hR (by decide) (by decide) rfl rfl ?_
  refine p_putF (j := 0) (nf := 4) hNm iX5_init_8 g_5_9 rfl rfl rfl rfl (by decide) rfl rfl rfl ?_
  refine z_aload_0 iX5_init_11 ?_
  refine z_bipush iX5_init_12 kB_6 ?_
  refine p_newI (y := 2) iX5_init_14 (by decide) hR (by decide) (by decide) rfl rfl ?_
  refine p_putF (j := 0) (nf := 4) hNm iX5_init_16 g_5_15 rfl rfl rfl rfl (by decide) rfl rfl rfl ?_
  refine z_aload_0 iX5_init_19 ?_
  refine z_bipush iX5_init_20 kB_6 ?_
  refine p_newI (y := 3) iX5_init_22 (by decide) hR (by decide) (by decide) rfl rfl ?_
  refine p_putF (j := 0) (nf := 4) hNm iX5_init_24 g_5_18 rfl rfl rfl rfl (by decide) rfl rfl rfl ?_
  exact p_ret hE iX5_init_27 hR (by decide) (by decide) rfl
theorem c_X7_init (G : qG) (l : Launch) (pre : List va_E) : CtrX G l M_X7_init (.ref (qB G + pre.length) :: []) (pre ++ [.inr (7, [.null, .null, .null, .int 0, .int 0])]) (pre ++ bR G pre.length) := by
  refine l_enter [some (.ref (qB G + pre.length)), none] (by decide +kernel) rfl (Nat.le_of_ble_eq_true rfl) rfl (fun X hE hR hNm => ?_)
  have hR : qR X = rm_X7_init := hR
  have hNm : qName X = "<init>" := hNm
  show ZP G X cX7_init RX7 pre [.inr (7, [.null, .null, .null, .int 0, .int 0])] 0 0 0 [some (.ref (qB G + pre.length)), none] []
  refine z_aload_0 iX7_init_0 ?_
  refine z_objInit iX7_init_1 l_7_3 w_objI w_objC hR ⟨by decide, by decide⟩ ?_
  refine z_aload_0 iX7_init_4 ?_
  refine z_bipush iX7_init_5 kB_6 ?_
  refine p_anew 2 4 (y := 1) iX7_init_7 (by decide) rfl n_7_9 (mt_over_4) (by decide) hR (by decide) (by decide) rfl rfl ?_
  refine p_putF (j := 0) (nf := 5) hNm iX7_init_10 g_7_11 rfl rfl rfl rfl (by decide) rfl rfl rfl ?_
  refine z_aload_0 iX7_init_13 ?_
  refine z_iconst iX7_init_14 kI_5 ?_
  refine p_newI (y := 2) iX7_init_15 (by decide) hR (by decide) (by decide) rfl rfl ?_
  refine p_putF (j := 0) (nf := 5) hNm iX7_init_17 g_7_17 rfl rfl rfl rfl (by decide) rfl rfl rfl ?_
  refine z_aload_0 iX7_init_20 ?_
  refine z_iconst iX7_init_21 kI_5 ?_
  refine p_newI (y := 3) iX7_init_22 (by decide) hR (by decide) (by decide) rfl rfl ?_
  refine p_putF (j := 0) (nf := 5) hNm iX7_init_24 g_7_21 rfl rfl rfl rfl (by decide) rfl rfl rfl ?_
  refine z_iconst iX7_init_27 kI_0 ?_
  refine z_istore_1 iX7_init_28 rfl ?_
  refine z_iload_1 iX7_init_29 ?_
  refine z_bipush iX7_init_30 kB_6 ?_
  refine z_icmp_geN iX7_init_32 (by decide) (by decide) (fun q => absurd q (by decide)) (fun _ => ?_)
  refine z_aload_0 iX7_init_35 ?_
  refine p_get (j := 0) iX7_init_36 g_7_11 rfl rfl ?_
  refine z_iload_1 iX7_init_39 ?_
  refine p_newc (y := 4) iX7_init_40 (by decide) n_7_9 rfl df_4 hR (by decide) (by decide) rfl rfl ?_
  refine z_dup iX7_init_43 rfl ?_
  refine p_callN (B := (bF G)) (y := 4) (c1 := 1) (c2 := 3) iX7_init_44 l_7_24 f_X4_init rfl rfl (c_X4_init G _ _) rfl rfl (Nat.le_of_ble_eq_true rfl) hR ft_X7_init_X4_init rfl rfl (by decide) (by decide) rfl ?_
  refine p_aast 2 4 (j := 1) (j2 := 4) iX7_init_47 rfl (by decide) rfl rfl (by decide) (by decide) rfl rfl ?_
  refine z_iinc_1N iX7_init_48 rfl ?_
  refine z_goto iX7_init_51 ?_
  refine z_iload_1 iX7_init_29 ?_
  refine z_bipush iX7_init_30 kB_6 ?_
  refine z_icmp_geN iX7_init_32 (by decide) (by decide) (fun q => absurd q (by decide)) (fun _ => ?_)
  refine z_aload_0 iX7_init_35 ?_
  refine p_get (j := 0) iX7_init_36 g_7_11 rfl rfl ?_
  refine z_iload_1 iX7_init_39 ?_
  refine p_newc (y := 6) iX7_init_40 (by decide) n_7_9 rfl df_4 hR (by decide) (by decide) rfl rfl ?_
  refine z_dup iX7_init_43 rfl ?_
  refine p_callN (B := (bF G)) (y := 6) (c1 := 1) (c2 := 3) iX7_init_44 l_7_24 f_X4_init rfl rfl (c_X4_init G _ _) rfl rfl (Nat.le_of_ble_eq_true rfl) hR ft_X7_init_X4_init rfl rfl (by decide) (by decide) rfl ?_
  refine p_aast 2 4 (j := 1) (j2 := 6) iX7_init_47 rfl (by decide) rfl rfl (by decide) (by decide) rfl rfl ?_
  refine z_iinc_1N iX7_init_48 rfl ?_
  refine z_goto iX7_init_51 ?_
  refine z_iload_1 iX7_init_29 ?_
  refine z_bipush iX7_init_30 kB_6 ?_
  refine z_icmp_geN iX7_init_32 (by decide) (by decide) (fun q => absurd q (by decide)) (fun _ => ?_)
  refine z_aload_0 iX7_init_35 ?_
  refine p_get (j := 0) iX7_init_36 g_7_11 rfl rfl ?_
  refine z_iload_1 iX7_init_39 ?_
  refine p_newc (y := 8) iX7_init_40 (by decide) n_7_9 rfl df_4 hR (by decide) (by decide) rfl rfl ?_
  refine z_dup iX7_init_43 rfl ?_
  refine p_callN (B := (bF G)) (y := 8) (c1 := 1) (c2 := 3) iX7_init_44 l_7_24 f_X4_init rfl rfl (c_X4_init G _ _) rfl rfl (Nat.le_of_ble_eq_true rfl) hR ft_X7_init_X4_init rfl rfl (by decide) (by decide) rfl ?_
  refine p_aast 2 4 (j := 1) (j2 := 8) iX7_init_47 rfl (by decide) rfl rfl (by decide) (by decide) rfl rfl ?_
  refine z_iinc_1N iX7_init_48 rfl ?_
  refine z_goto iX7_init_51 ?_
  refine z_iload_1 iX7_init_29 ?_
  refine z_bipush iX7_init_30 kB_6 ?_
  refine z_icmp_geN iX7_init_32 (by decide) (by decide) (fun q => absurd q (by decide)) (fun _ => ?_)
  refine z_aload_0 iX7_init_35 ?_
  refine p_get (j := 0) iX7_init_36 g_7_11 rfl rfl ?_
  refine z_iload_1 iX7_init_39 ?_
  refine p_newc (y := 10) iX7_init_40 (by decide) n_7_9 rfl df_4 hR (by decide) (by decide) rfl rfl ?_
  refine z_dup iX7_init_43 rfl ?_
  refine p_callN (B := (bF G)) (y := 10) (c1 := 1) (c2 := 3) iX7_init_44 l_7_24 f_X4_init rfl rfl (c_X4_init G _ _) rfl rfl (Nat.le_of_ble_eq_true rfl) hR ft_X7_init_X4_init rfl rfl (by decide) (by decide) rfl ?_
  refine p_aast 2 4 (j := 1) (j2 := 10) iX7_init_47 rfl (by decide) rfl rfl (by decide) (by decide) rfl rfl ?_
  refine z_iinc_1N iX7_init_48 rfl ?_
  refine z_goto iX7_init_51 ?_
  refine z_iload_1 iX7_init_29 ?_
  refine z_bipush iX7_init_30 kB_6 ?_
  refine z_icmp_geN iX7_init_32 (by decide) (by decide) (fun q => absurd q (by decide)) (fun _ => ?_)
  refine z_aload_0 iX7_init_35 ?_
  refine p_get (j := 0) iX7_init_36 g_7_11 rfl rfl ?_
  refine z_iload_1 iX7_init_39 ?_
  refine p_newc (y := 12) iX7_init_40 (by decide) n_7_9 rfl df_4 hR (by decide) (by decide) rfl rfl ?_
  refine z_dup iX7_init_43 rfl ?_
  refine p_callN (B := (bF G)) (y := 12) (c1 := 1) (c2 := 3) iX7_init_44 l_7_24 f_X4_init rfl rfl (c_X4_init G _ _) rfl rfl (Nat.le_of_ble_eq_true rfl) hR ft_X7_init_X4_init rfl rfl (by decide) (by decide) rfl ?_
  refine p_aast 2 4 (j := 1) (j2 := 12) iX7_init_47 rfl (by decide) rfl rfl (by decide) (by decide) rfl rfl ?_
  refine z_iinc_1N iX7_init_48 rfl ?_
  refine z_goto iX7_init_51 ?_
  refine z_iload_1 iX7_init_29 ?_
  refine z_bipush iX7_init_30 kB_6 ?_
  refine z_icmp_geN iX7_init_32 (by decide) (by decide) (fun q => absurd q (by decide)) (fun _ => ?_)
  refine z_aload_0 iX7_init_35 ?_
  refine p_get (j := 0) iX7_init_36 g_7_11 rfl rfl ?_
  refine z_iload_1 iX7_init_39 ?_
  refine p_newc (y := 14) iX7_init_40 (by decide) n_7_9 rfl df_4 hR (by decide) (by decide) rfl rfl ?_
  refine z_dup iX7_init_43 rfl ?_
  refine p_callN (B := (bF G)) (y := 14) (c1 := 1) (c2 := 3) iX7_init_44 l_7_24 f_X4_init rfl rfl (c_X4_init G _ _) rfl rfl (Nat.le_of_ble_eq_true rfl) hR ft_X7_init_X4_init rfl rfl (by decide) (by decide) rfl ?_
  refine p_aast 2 4 (j := 1) (j2 := 14) iX7_init_47 rfl (by decide) rfl rfl (by decide) (by decide) rfl rfl ?_
  refine z_iinc_1N iX7_init_48 rfl ?_
  refine z_goto iX7_init_51 ?_
  refine z_iload_1 iX7_init_29 ?_
  refine z_bipush iX7_init_30 kB_6 ?_
  refine z_icmp_geN iX7_init_32 (by decide) (by decide) (fun _ => ?_) (fun q => absurd q (by decide))
  refine p_conv (j := 1) rfl (qEq.refs (g := fun j => some (qB G + (pre.length + 4 + 2 * j))) (fun j hj => ?_)) rfl ?_
  · rcases (show j = 0 ∨ j = 1 ∨ j = 2 ∨ j = 3 ∨ j = 4 ∨ j = 5 by omega) with rfl | rfl | rfl | rfl | rfl | rfl
    · exact rfl
    · exact rfl
    · exact rfl
    · exact rfl
    · exact rfl
    · exact rfl
  exact p_ret hE iX7_init_54 hR (by decide) (by decide) rfl
theorem c_X1_init (G : qG) (l : Launch) (pre : List va_E) : CtrX G l M_X1_init (.ref (qB G + pre.length) :: []) (pre ++ [.inr (1, [.int 0, .int 0, .int 0, .null])]) (pre ++ bB G pre.length) := by
  refine l_enter [some (.ref (qB G + pre.length))] (by decide +kernel) rfl (Nat.le_of_ble_eq_true rfl) rfl (fun X hE hR hNm => ?_)
  have hR : qR X = rm_X1_init := hR
  have hNm : qName X = "<init>" := hNm
  show ZP G X cX1_init RX1 pre [.inr (1, [.int 0, .int 0, .int 0, .null])] 0 0 0 [some (.ref (qB G + pre.length))] []
  refine z_aload_0 iX1_init_0 ?_
  refine z_objInit iX1_init_1 l_1_3 w_objI w_objC hR ⟨by decide, by decide⟩ ?_
  refine z_aload_0 iX1_init_4 ?_
  refine z_bipush iX1_init_5 kB_9 ?_
  refine p_newI (y := 1) iX1_init_7 (by decide) hR (by decide) (by decide) rfl rfl ?_
  refine p_putF (j := 0) (nf := 4) hNm iX1_init_9 g_1_9 rfl rfl rfl rfl (by decide) rfl rfl rfl ?_
  exact p_ret hE iX1_init_12 hR (by decide) (by decide) rfl
theorem c_X6_init (G : qG) (l : Launch) (pre : List va_E) (r : Nat) : CtrX G l M_X6_init (.ref (qB G + pre.length) :: [.ref (qB G + r)]) (pre ++ [.inr (6, [.null, .int 0, .int 0])]) (pre ++ (bD G r) pre.length) := by
  refine l_enter [some (.ref (qB G + pre.length)), some (.ref (qB G + r))] (by decide +kernel) rfl (Nat.le_of_ble_eq_true rfl) rfl (fun X hE hR hNm => ?_)
  have hR : qR X = rm_X6_init := hR
  have hNm : qName X = "<init>" := hNm
  show ZP G X cX6_init RX6 pre [.inr (6, [.null, .int 0, .int 0])] 0 0 0 [some (.ref (qB G + pre.length)), some (.ref (qB G + r))] []
  refine z_aload_0 iX6_init_0 ?_
  refine z_objInit iX6_init_1 l_6_3 w_objI w_objC hR ⟨by decide, by decide⟩ ?_
  refine z_aload_0 iX6_init_4 ?_
  refine z_aload_1 iX6_init_5 ?_
  refine p_putF (j := 0) (nf := 3) hNm iX6_init_6 g_6_9 rfl rfl rfl rfl (by decide) rfl rfl rfl ?_
  exact p_ret hE iX6_init_9 hR (by decide) (by decide) rfl
theorem c_X8_init (G : qG) (l : Launch) (pre : List va_E) (r o : Nat) : CtrX G l M_X8_init (.ref (qB G + pre.length) :: [.ref (qB G + r), .ref (qB G + o)]) (pre ++ [.inr (8, [.null, .null, .null, .null])]) (pre ++ (bS G r o) pre.length) := by
  refine l_enter [some (.ref (qB G + pre.length)), some (.ref (qB G + r)), some (.ref (qB G + o))] (by decide +kernel) rfl (Nat.le_of_ble_eq_true rfl) rfl (fun X hE hR hNm => ?_)
  have hR : qR X = rm_X8_init := hR
  have hNm : qName X = "<init>" := hNm
  show ZP G X cX8_init RX8 pre [.inr (8, [.null, .null, .null, .null])] 0 0 0 [some (.ref (qB G + pre.length)), some (.ref (qB G + r)), some (.ref (qB G + o))] []
  refine z_aload_0 iX8_init_0 ?_
  refine z_objInit iX8_init_1 l_8_3 w_objI w_objC hR ⟨by decide, by decide⟩ ?_
  refine z_aload_0 iX8_init_4 ?_
  refine p_newc (y := 1) iX8_init_5 (by decide) n_8_9 rfl df_5 hR (by decide) (by decide) rfl rfl ?_
  refine z_dup iX8_init_8 rfl ?_
  refine p_callN (B := (bH G)) (y := 1) (c1 := 3) (c2 := 17) iX8_init_9 l_8_11 f_X5_init rfl rfl (c_X5_init G _ _) rfl rfl (Nat.le_of_ble_eq_true rfl) hR ft_X8_init_X5_init rfl rfl (by decide) (by decide) rfl ?_
  refine p_putF (j := 0) (nf := 4) hNm iX8_init_12 g_8_12 rfl rfl rfl rfl (by decide) rfl rfl rfl ?_
  refine z_aload_0 iX8_init_15 ?_
  refine z_bipush iX8_init_16 kB_6 ?_
  refine z_bipush iX8_init_18 kB_6 ?_
  refine p_multi (y := 5) iX8_init_20 n_8_18 mt_over_ii mt_ac hR (by decide) (by decide) rfl rfl ?_
  refine p_putF (j := 0) (nf := 4) hNm iX8_init_24 g_8_20 rfl rfl rfl rfl (by decide) rfl rfl rfl ?_
  refine z_aload_0 iX8_init_27 ?_
  refine z_aload_1 iX8_init_28 ?_
  refine p_putF (j := 0) (nf := 4) hNm iX8_init_29 g_8_23 rfl rfl rfl rfl (by decide) rfl rfl rfl ?_
  refine z_aload_0 iX8_init_32 ?_
  refine z_aload_2 iX8_init_33 ?_
  refine p_putF (j := 0) (nf := 4) hNm iX8_init_34 g_8_27 rfl rfl rfl rfl (by decide) rfl rfl rfl ?_
  exact p_ret hE iX8_init_37 hR (by decide) (by decide) rfl
theorem c_X0_init (G : qG) (l : Launch) (pre : List va_E) : CtrX G l M_X0_init (.ref (qB G + pre.length) :: []) (pre ++ [.inr (0, [.null, .int 0])]) (pre ++ bA G pre.length) := by
  refine l_enter [some (.ref (qB G + pre.length)), none] (by decide +kernel) rfl (Nat.le_of_ble_eq_true rfl) rfl (fun X hE hR hNm => ?_)
  have hR : qR X = rm_X0_init := hR
  have hNm : qName X = "<init>" := hNm
  show ZP G X cX0_init RX0 pre [.inr (0, [.null, .int 0])] 0 0 0 [some (.ref (qB G + pre.length)), none] []
  refine z_aload_0 iX0_init_0 ?_
  refine z_objInit iX0_init_1 l_0_3 w_objI w_objC hR ⟨by decide, by decide⟩ ?_
  refine z_aload_0 iX0_init_4 ?_
  refine z_bipush iX0_init_5 kB_14 ?_
  refine p_anew 3 5 (y := 1) iX0_init_7 (by decide) rfl n_0_9 (mt_over_5) (by decide) hR (by decide) (by decide) rfl rfl ?_
  refine p_putF (j := 0) (nf := 2) hNm iX0_init_10 g_0_11 rfl rfl rfl rfl (by decide) rfl rfl rfl ?_
  refine z_iconst iX0_init_13 kI_0 ?_
  refine z_istore_1 iX0_init_14 rfl ?_
  refine z_iload_1 iX0_init_15 ?_
  refine z_bipush iX0_init_16 kB_14 ?_
  refine z_icmp_geN iX0_init_18 (by decide) (by decide) (fun q => absurd q (by decide)) (fun _ => ?_)
  refine z_aload_0 iX0_init_21 ?_
  refine p_get (j := 0) iX0_init_22 g_0_11 rfl rfl ?_
  refine z_iload_1 iX0_init_25 ?_
  refine p_newc (y := 2) iX0_init_26 (by decide) n_0_9 rfl df_5 hR (by decide) (by decide) rfl rfl ?_
  refine z_dup iX0_init_29 rfl ?_
  refine p_callN (B := (bH G)) (y := 2) (c1 := 3) (c2 := 17) iX0_init_30 l_0_17 f_X5_init rfl rfl (c_X5_init G _ _) rfl rfl (Nat.le_of_ble_eq_true rfl) hR ft_X0_init_X5_init rfl rfl (by decide) (by decide) rfl ?_
  refine p_aast 3 5 (j := 1) (j2 := 2) iX0_init_33 rfl (by decide) rfl rfl (by decide) (by decide) rfl rfl ?_
  refine z_iinc_1N iX0_init_34 rfl ?_
  refine z_goto iX0_init_37 ?_
  refine z_iload_1 iX0_init_15 ?_
  refine z_bipush iX0_init_16 kB_14 ?_
  refine z_icmp_geN iX0_init_18 (by decide) (by decide) (fun q => absurd q (by decide)) (fun _ => ?_)
  refine z_aload_0 iX0_init_21 ?_
  refine p_get (j := 0) iX0_init_22 g_0_11 rfl rfl ?_
  refine z_iload_1 iX0_init_25 ?_
  refine p_newc (y := 6) iX0_init_26 (by decide) n_0_9 rfl df_5 hR (by decide) (by decide) rfl rfl ?_
  refine z_dup iX0_init_29 rfl ?_
  refine p_callN (B := (bH G)) (y := 6) (c1 := 3) (c2 := 17) iX0_init_30 l_0_17 f_X5_init rfl rfl (c_X5_init G _ _) rfl rfl (Nat.le_of_ble_eq_true rfl) hR ft_X0_init_X5_init rfl rfl (by decide) (by decide) rfl ?_
  refine p_aast 3 5 (j := 1) (j2 := 6) iX0_init_33 rfl (by decide) rfl rfl (by decide) (by decide) rfl rfl ?_
  refine z_iinc_1N iX0_init_34 rfl ?_
  refine z_goto iX0_init_37 ?_
  refine z_iload_1 iX0_init_15 ?_
  refine z_bipush iX0_init_16 kB_14 ?_
  refine z_icmp_geN iX0_init_18 (by decide) (by decide) (fun q => absurd q (by decide)) (fun _ => ?_)
  refine z_aload_0 iX0_init_21 ?_
  refine p_get (j := 0) iX0_init_22 g_0_11 rfl rfl ?_
  refine z_iload_1 iX0_init_25 ?_
  refine p_newc (y := 10) iX0_init_26 (by decide) n_0_9 rfl df_5 hR (by decide) (by decide) rfl rfl ?_
  refine z_dup iX0_init_29 rfl ?_
  refine p_callN (B := (bH G)) (y := 10) (c1 := 3) (c2 := 17) iX0_init_30 l_0_17 f_X5_init rfl rfl (c_X5_init G _ _) rfl rfl (Nat.le_of_ble_eq_true rfl) hR ft_X0_init_X5_init rfl rfl (by decide) (by decide) rfl ?_
  refine p_aast 3 5 (j := 1) (j2 := 10) iX0_init_33 rfl (by decide) rfl rfl (by decide) (by decide) rfl rfl ?_
  refine z_iinc_1N iX0_init_34 rfl ?_
  refine z_goto iX0_init_37 ?_
  refine z_iload_1 iX0_init_15 ?_
  refine z_bipush iX0_init_16 kB_14 ?_
  refine z_icmp_geN iX0_init_18 (by decide) (by decide) (fun q => absurd q (by decide)) (fun _ => ?_)
  refine z_aload_0 iX0_init_21 ?_
  refine p_get (j := 0) iX0_init_22 g_0_11 rfl rfl ?_
  refine z_iload_1 iX0_init_25 ?_
  refine p_newc (y := 14) iX0_init_26 (by decide) n_0_9 rfl df_5 hR (by decide) (by decide) rfl rfl ?_
  refine z_dup iX0_init_29 rfl ?_
  refine p_callN (B := (bH G)) (y := 14) (c1 := 3) (c2 := 17) iX0_init_30 l_0_17 f_X5_init rfl rfl (c_X5_init G _ _) rfl rfl (Nat.le_of_ble_eq_true rfl) hR ft_X0_init_X5_init rfl rfl (by decide) (by decide) rfl ?_
  refine p_aast 3 5 (j := 1) (j2 := 14) iX0_init_33 rfl (by decide) rfl rfl (by decide) (by decide) rfl rfl ?_
  refine z_iinc_1N iX0_init_34 rfl ?_
  refine z_goto iX0_init_37 ?_
  refine z_iload_1 iX0_init_15 ?_
  refine z_bipush iX0_init_16 kB_14 ?_
  refine z_icmp_geN iX0_init_18 (by decide) (by decide) (fun q => absurd q (by decide)) (fun _ => ?_)
  refine z_aload_0 iX0_init_21 ?_
  refine p_get (j := 0) iX0_init_22 g_0_11 rfl rfl ?_
  refine z_iload_1 iX0_init_25 ?_
  refine p_newc (y := 18) iX0_init_26 (by decide) n_0_9 rfl df_5 hR (by decide) (by decide) rfl rfl ?_
  refine z_dup iX0_init_29 rfl ?_
  refine p_callN (B := (bH G)) (y := 18) (c1 := 3) (c2 := 17) iX0_init_30 l_0_17 f_X5_init rfl rfl (c_X5_init G _ _) rfl rfl (Nat.le_of_ble_eq_true rfl) hR ft_X0_init_X5_init rfl rfl (by decide) (by decide) rfl ?_
  refine p_aast 3 5 (j := 1) (j2 := 18) iX0_init_33 rfl (by decide) rfl rfl (by decide) (by decide) rfl rfl ?_
  refine z_iinc_1N iX0_init_34 rfl ?_
  refine z_goto iX0_init_37 ?_
  refine z_iload_1 iX0_init_15 ?_
  refine z_bipush iX0_init_16 kB_14 ?_
  refine z_icmp_geN iX0_init_18 (by decide) (by decide) (fun q => absurd q (by decide)) (fun _ => ?_)
  refine z_aload_0 iX0_init_21 ?_
  refine p_get (j := 0) iX0_init_22 g_0_11 rfl rfl ?_
  refine z_iload_1 iX0_init_25 ?_
  refine p_newc (y := 22) iX0_init_26 (by decide) n_0_9 rfl df_5 hR (by decide) (by decide) rfl rfl ?_
  refine z_dup iX0_init_29 rfl ?_
  refine p_callN (B := (bH G)) (y := 22) (c1 := 3) (c2 := 17) iX0_init_30 l_0_17 f_X5_init rfl rfl (c_X5_init G _ _) rfl rfl (Nat.le_of_ble_eq_true rfl) hR ft_X0_init_X5_init rfl rfl (by decide) (by decide) rfl ?_
  refine p_aast 3 5 (j := 1) (j2 := 22) iX0_init_33 rfl (by decide) rfl rfl (by decide) (by decide) rfl rfl ?_
  refine z_iinc_1N iX0_init_34 rfl ?_
  refine z_goto iX0_init_37 ?_
  refine z_iload_1 iX0_init_15 ?_
  refine z_bipush iX0_init_16 kB_14 ?_
  refine z_icmp_geN iX0_init_18 (by decide) (by decide) (fun q => absurd q (by decide)) (fun _ => ?_)
  refine z_aload_0 iX0_init_21 ?_
  refine p_get (j := 0) iX0_init_22 g_0_11 rfl rfl ?_
  refine z_iload_1 iX0_init_25 ?_
  refine p_newc (y := 26) iX0_init_26 (by decide) n_0_9 rfl df_5 hR (by decide) (by decide) rfl rfl ?_
  refine z_dup iX0_init_29 rfl ?_
  refine p_callN (B := (bH G)) (y := 26) (c1 := 3) (c2 := 17) iX0_init_30 l_0_17 f_X5_init rfl rfl (c_X5_init G _ _) rfl rfl (Nat.le_of_ble_eq_true rfl) hR ft_X0_init_X5_init rfl rfl (by decide) (by decide) rfl ?_
  refine p_aast 3 5 (j := 1) (j2 := 26) iX0_init_33 rfl (by decide) rfl rfl (by decide) (by decide) rfl rfl ?_
  refine z_iinc_1N iX0_init_34 rfl ?_
  refine z_goto iX0_init_37 ?_
  refine z_iload_1 iX0_init_15 ?_
  refine z_bipush iX0_init_16 kB_14 ?_
  refine z_icmp_geN iX0_init_18 (by decide) (by decide) (fun q => absurd q (by decide)) (fun _ => ?_)
  refine z_aload_0 iX0_init_21 ?_
  refine p_get (j := 0) iX0_init_22 g_0_11 rfl rfl ?_
  refine z_iload_1 iX0_init_25 ?_
  refine p_newc (y := 30) iX0_init_26 (by decide) n_0_9 rfl df_5 hR (by decide) (by decide) rfl rfl ?_
  refine z_dup iX0_init_29 rfl ?_
  refine p_callN (B := (bH G)) (y := 30) (c1 := 3) (c2 := 17) iX0_init_30 l_0_17 f_X5_init rfl rfl (c_X5_init G _ _) rfl rfl (Nat.le_of_ble_eq_true rfl) hR ft_X0_init_X5_init rfl rfl (by decide) (by decide) rfl ?_
  refine p_aast 3 5 (j := 1) (j2 := 30) iX0_init_33 rfl (by decide) rfl rfl (by decide) (by decide) rfl rfl ?_
  refine z_iinc_1N iX0_init_34 rfl ?_
  refine z_goto iX0_init_37 ?_
  refine z_iload_1 iX0_init_15 ?_
  refine z_bipush iX0_init_16 kB_14 ?_
  refine z_icmp_geN iX0_init_18 (by decide) (by decide) (fun q => absurd q (by decide)) (fun _ => ?_)
  refine z_aload_0 iX0_init_21 ?_
  refine p_get (j := 0) iX0_init_22 g_0_11 rfl rfl ?_
  refine z_iload_1 iX0_init_25 ?_
  refine p_newc (y := 34) iX0_init_26 (by decide) n_0_9 rfl df_5 hR (by decide) (by decide) rfl rfl ?_
  refine z_dup iX0_init_29 rfl ?_
  refine p_callN (B := (bH G)) (y := 34) (c1 := 3) (c2 := 17) iX0_init_30 l_0_17 f_X5_init rfl rfl (c_X5_init G _ _) rfl rfl (Nat.le_of_ble_eq_true rfl) hR ft_X0_init_X5_init rfl rfl (by decide) (by decide) rfl ?_
  refine p_aast 3 5 (j := 1) (j2 := 34) iX0_init_33 rfl (by decide) rfl rfl (by decide) (by decide) rfl rfl ?_
  refine z_iinc_1N iX0_init_34 rfl ?_
  refine z_goto iX0_init_37 ?_
  refine z_iload_1 iX0_init_15 ?_
  refine z_bipush iX0_init_16 kB_14 ?_
  refine z_icmp_geN iX0_init_18 (by decide) (by decide) (fun q => absurd q (by decide)) (fun _ => ?_)
  refine z_aload_0 iX0_init_21 ?_
  refine p_get (j := 0) iX0_init_22 g_0_11 rfl rfl ?_
  refine z_iload_1 iX0_init_25 ?_
  refine p_newc (y := 38) iX0_init_26 (by decide) n_0_9 rfl df_5 hR (by decide) (by decide) rfl rfl ?_
  refine z_dup iX0_init_29 rfl ?_
  refine p_callN (B := (bH G)) (y := 38) (c1 := 3) (c2 := 17) iX0_init_30 l_0_17 f_X5_init rfl rfl (c_X5_init G _ _) rfl rfl (Nat.le_of_ble_eq_true rfl) hR ft_X0_init_X5_init rfl rfl (by decide) (by decide) rfl ?_
  refine p_aast 3 5 (j := 1) (j2 := 38) iX0_init_33 rfl (by decide) rfl rfl (by decide) (by decide) rfl rfl ?_
  refine z_iinc_1N iX0_init_34 rfl ?_
  refine z_goto iX0_init_37 ?_
  refine z_iload_1 iX0_init_15 ?_
  refine z_bipush iX0_init_16 kB_14 ?_
  refine z_icmp_geN iX0_init_18 (by decide) (by decide) (fun q => absurd q (by decide)) (fun _ => ?_)
  refine z_aload_0 iX0_init_21 ?_
  refine p_get (j := 0) iX0_init_22 g_0_11 rfl rfl ?_
  refine z_iload_1 iX0_init_25 ?_
  refine p_newc (y := 42) iX0_init_26 (by decide) n_0_9 rfl df_5 hR (by decide) (by decide) rfl rfl ?_
  refine z_dup iX0_init_29 rfl ?_
  refine p_callN (B := (bH G)) (y := 42) (c1 := 3) (c2 := 17) iX0_init_30 l_0_17 f_X5_init rfl rfl (c_X5_init G _ _) rfl rfl (Nat.le_of_ble_eq_true rfl) hR ft_X0_init_X5_init rfl rfl (by decide) (by decide) rfl ?_
  refine p_aast 3 5 (j := 1) (j2 := 42) iX0_init_33 rfl (by decide) rfl rfl (by decide) (by decide) rfl rfl ?_
  refine z_iinc_1N iX0_init_34 rfl ?_
  refine z_goto iX0_init_37 ?_
  refine z_iload_1 iX0_init_15 ?_
  refine z_bipush iX0_init_16 kB_14 ?_
  refine z_icmp_geN iX0_init_18 (by decide) (by decide) (fun q => absurd q (by decide)) (fun _ => ?_)
  refine z_aload_0 iX0_init_21 ?_
  refine p_get (j := 0) iX0_init_22 g_0_11 rfl rfl ?_
  refine z_iload_1 iX0_init_25 ?_
  refine p_newc (y := 46) iX0_init_26 (by decide) n_0_9 rfl df_5 hR (by decide) (by decide) rfl rfl ?_
  refine z_dup iX0_init_29 rfl ?_
  refine p_callN (B := (bH G)) (y := 46) (c1 := 3) (c2 := 17) iX0_init_30 l_0_17 f_X5_init rfl rfl (c_X5_init G _ _) rfl rfl (Nat.le_of_ble_eq_true rfl) hR ft_X0_init_X5_init rfl rfl (by decide) (by decide) rfl ?_
  refine p_aast 3 5 (j := 1) (j2 := 46) iX0_init_33 rfl (by decide) rfl rfl (by decide) (by decide) rfl rfl ?_
  refine z_iinc_1N iX0_init_34 rfl ?_
  refine z_goto iX0_init_37 ?_
  refine z_iload_1 iX0_init_15 ?_
  refine z_bipush iX0_init_16 kB_14 ?_
  refine z_icmp_geN iX0_init_18 (by decide) (by decide) (fun q => absurd q (by decide)) (fun _ => ?_)
  refine z_aload_0 iX0_init_21 ?_
  refine p_get (j := 0) iX0_init_22 g_0_11 rfl rfl ?_
  refine z_iload_1 iX0_init_25 ?_
  refine p_newc (y := 50) iX0_init_26 (by decide) n_0_9 rfl df_5 hR (by decide) (by decide) rfl rfl ?_
  refine z_dup iX0_init_29 rfl ?_
  refine p_callN (B := (bH G)) (y := 50) (c1 := 3) (c2 := 17) iX0_init_30 l_0_17 f_X5_init rfl rfl (c_X5_init G _ _) rfl rfl (Nat.le_of_ble_eq_true rfl) hR ft_X0_init_X5_init rfl rfl (by decide) (by decide) rfl ?_
  refine p_aast 3 5 (j := 1) (j2 := 50) iX0_init_33 rfl (by decide) rfl rfl (by decide) (by decide) rfl rfl ?_
  refine z_iinc_1N iX0_init_34 rfl ?_
  refine z_goto iX0_init_37 ?_
  refine z_iload_1 iX0_init_15 ?_
  refine z_bipush iX0_init_16 kB_14 ?_
  refine z_icmp_geN iX0_init_18 (by decide) (by decide) (fun q => absurd q (by decide)) (fun _ => ?_)
  refine z_aload_0 iX0_init_21 ?_
  refine p_get (j := 0) iX0_init_22 g_0_11 rfl rfl ?_
  refine z_iload_1 iX0_init_25 ?_
  refine p_newc (y := 54) iX0_init_26 (by decide) n_0_9 rfl df_5 hR (by decide) (by decide) rfl rfl ?_
  refine z_dup iX0_init_29 rfl ?_
  refine p_callN (B := (bH G)) (y := 54) (c1 := 3) (c2 := 17) iX0_init_30 l_0_17 f_X5_init rfl rfl (c_X5_init G _ _) rfl rfl (Nat.le_of_ble_eq_true rfl) hR ft_X0_init_X5_init rfl rfl (by decide) (by decide) rfl ?_
  refine p_aast 3 5 (j := 1) (j2 := 54) iX0_init_33 rfl (by decide) rfl rfl (by decide) (by decide) rfl rfl ?_
  refine z_iinc_1N iX0_init_34 rfl ?_
  refine z_goto iX0_init_37 ?_
  refine z_iload_1 iX0_init_15 ?_
  refine z_bipush iX0_init_16 kB_14 ?_
  refine z_icmp_geN iX0_init_18 (by decide) (by decide) (fun _ => ?_) (fun q => absurd q (by decide))
  refine p_conv (j := 1) rfl (qEq.refs (g := fun j => some (qB G + (pre.length + 2 + 4 * j))) (fun j hj => ?_)) rfl ?_
  · rcases (show j = 0 ∨ j = 1 ∨ j = 2 ∨ j = 3 ∨ j = 4 ∨ j = 5 ∨ j = 6 ∨ j = 7 ∨ j = 8 ∨ j = 9 ∨ j = 10 ∨ j = 11 ∨ j = 12 ∨ j = 13 by omega) with rfl | rfl | rfl | rfl | rfl | rfl | rfl | rfl | rfl | rfl | rfl | rfl | rfl | rfl
    · exact rfl
    · exact rfl
    · exact rfl
    · exact rfl
    · exact rfl
    · exact rfl
    · exact rfl
    · exact rfl
    · exact rfl
    · exact rfl
    · exact rfl
    · exact rfl
    · exact rfl
    · exact rfl
  exact p_ret hE iX0_init_40 hR (by decide) (by decide) rfl
theorem c_X3_init (G : qG) (l : Launch) (pre : List va_E) (r : Nat) : CtrX G l M_X3_init (.ref (qB G + pre.length) :: [.ref (qB G + r)]) (pre ++ [.inr (3, [.null, .null, .null, .null, .int 0, .int 0])]) (pre ++ (bC G r) pre.length) := by
  refine l_enter [some (.ref (qB G + pre.length)), some (.ref (qB G + r))] (by decide +kernel) rfl (Nat.le_of_ble_eq_true rfl) rfl (fun X hE hR hNm => ?_)
  have hR : qR X = rm_X3_init := hR
  have hNm : qName X = "<init>" := hNm
  show ZP G X cX3_init RX3 pre [.inr (3, [.null, .null, .null, .null, .int 0, .int 0])] 0 0 0 [some (.ref (qB G + pre.length)), some (.ref (qB G + r))] []
  refine z_aload_0 iX3_init_0 ?_
  refine z_objInit iX3_init_1 l_3_3 w_objI w_objC hR ⟨by decide, by decide⟩ ?_
  refine z_aload_0 iX3_init_4 ?_
  refine z_bipush iX3_init_5 kB_6 ?_
  refine p_newI (y := 1) iX3_init_7 (by decide) hR (by decide) (by decide) rfl rfl ?_
  refine p_putF (j := 0) (nf := 6) hNm iX3_init_9 g_3_9 rfl rfl rfl rfl (by decide) rfl rfl rfl ?_
  refine z_aload_0 iX3_init_12 ?_
  refine z_bipush iX3_init_13 kB_6 ?_
  refine p_newI (y := 2) iX3_init_15 (by decide) hR (by decide) (by decide) rfl rfl ?_
  refine p_putF (j := 0) (nf := 6) hNm iX3_init_17 g_3_15 rfl rfl rfl rfl (by decide) rfl rfl rfl ?_
  refine z_aload_0 iX3_init_20 ?_
  refine z_bipush iX3_init_21 kB_64 ?_
  refine p_newI (y := 3) iX3_init_23 (by decide) hR (by decide) (by decide) rfl rfl ?_
  refine p_putF (j := 0) (nf := 6) hNm iX3_init_25 g_3_18 rfl rfl rfl rfl (by decide) rfl rfl rfl ?_
  refine z_aload_0 iX3_init_28 ?_
  refine z_aload_1 iX3_init_29 ?_
  refine p_putF (j := 0) (nf := 6) hNm iX3_init_30 g_3_21 rfl rfl rfl rfl (by decide) rfl rfl rfl ?_
  exact p_ret hE iX3_init_33 hR (by decide) (by decide) rfl
theorem c_X2_init (G : qG) (l : Launch) (pre : List va_E) (r : Nat) : CtrX G l M_X2_init (.ref (qB G + pre.length) :: [.ref (qB G + r)]) (pre ++ [.inr (2, [.null, .null, .int 0, .int 0, .int 0, .int 0])]) (pre ++ (bN G r) pre.length) := by
  refine l_enter [some (.ref (qB G + pre.length)), some (.ref (qB G + r))] (by decide +kernel) rfl (Nat.le_of_ble_eq_true rfl) rfl (fun X hE hR hNm => ?_)
  have hR : qR X = rm_X2_init := hR
  have hNm : qName X = "<init>" := hNm
  show ZP G X cX2_init RX2 pre [.inr (2, [.null, .null, .int 0, .int 0, .int 0, .int 0])] 0 0 0 [some (.ref (qB G + pre.length)), some (.ref (qB G + r))] []
  refine z_aload_0 iX2_init_0 ?_
  refine z_objInit iX2_init_1 l_2_3 w_objI w_objC hR ⟨by decide, by decide⟩ ?_
  refine z_aload_0 iX2_init_4 ?_
  refine z_bipush iX2_init_5 kB_9 ?_
  refine p_newI (y := 1) iX2_init_7 (by decide) hR (by decide) (by decide) rfl rfl ?_
  refine p_putF (j := 0) (nf := 6) hNm iX2_init_9 g_2_9 rfl rfl rfl rfl (by decide) rfl rfl rfl ?_
  refine z_aload_0 iX2_init_12 ?_
  refine z_iconst iX2_init_13 kI_1 ?_
  refine p_put (j := 0) (nf := 6) iX2_init_14 g_2_15 rfl rfl rfl (by decide) rfl rfl rfl ?_
  refine z_aload_0 iX2_init_17 ?_
  refine z_aload_1 iX2_init_18 ?_
  refine p_putF (j := 0) (nf := 6) hNm iX2_init_19 g_2_19 rfl rfl rfl rfl (by decide) rfl rfl rfl ?_
  exact p_ret hE iX2_init_22 hR (by decide) (by decide) rfl
theorem c_X9_init (G : qG) (l : Launch) (pre : List va_E) (r : Nat) : CtrX G l M_X9_init (.ref (qB G + pre.length) :: [.ref (qB G + r)]) (pre ++ [.inr (9, [.null, .null, .null, .null, .int 0, .int 0, .int 0])]) (pre ++ (bM G r) pre.length) := by
  refine l_enter [some (.ref (qB G + pre.length)), some (.ref (qB G + r))] (by decide +kernel) rfl (Nat.le_of_ble_eq_true rfl) rfl (fun X hE hR hNm => ?_)
  have hR : qR X = rm_X9_init := hR
  have hNm : qName X = "<init>" := hNm
  show ZP G X cX9_init RX9 pre [.inr (9, [.null, .null, .null, .null, .int 0, .int 0, .int 0])] 0 0 0 [some (.ref (qB G + pre.length)), some (.ref (qB G + r))] []
  refine z_aload_0 iX9_init_0 ?_
  refine z_objInit iX9_init_1 l_9_3 w_objI w_objC hR ⟨by decide, by decide⟩ ?_
  refine z_aload_0 iX9_init_4 ?_
  refine p_newc (y := 1) iX9_init_5 (by decide) n_9_9 rfl df_4 hR (by decide) (by decide) rfl rfl ?_
  refine z_dup iX9_init_8 rfl ?_
  refine p_callN (B := (bF G)) (y := 1) (c1 := 1) (c2 := 3) iX9_init_9 l_9_11 f_X4_init rfl rfl (c_X4_init G _ _) rfl rfl (Nat.le_of_ble_eq_true rfl) hR ft_X9_init_X4_init rfl rfl (by decide) (by decide) rfl ?_
  refine p_putF (j := 0) (nf := 7) hNm iX9_init_12 g_9_12 rfl rfl rfl rfl (by decide) rfl rfl rfl ?_
  refine z_aload_0 iX9_init_15 ?_
  refine z_bipush iX9_init_16 kB_6 ?_
  refine p_newI (y := 3) iX9_init_18 (by decide) hR (by decide) (by decide) rfl rfl ?_
  refine p_putF (j := 0) (nf := 7) hNm iX9_init_20 g_9_18 rfl rfl rfl rfl (by decide) rfl rfl rfl ?_
  refine z_aload_0 iX9_init_23 ?_
  refine z_bipush iX9_init_24 kB_6 ?_
  refine p_newI (y := 4) iX9_init_26 (by decide) hR (by decide) (by decide) rfl rfl ?_
  refine p_putF (j := 0) (nf := 7) hNm iX9_init_28 g_9_22 rfl rfl rfl rfl (by decide) rfl rfl rfl ?_
  refine z_aload_0 iX9_init_31 ?_
  refine z_aload_1 iX9_init_32 ?_
  refine p_putF (j := 0) (nf := 7) hNm iX9_init_33 g_9_25 rfl rfl rfl rfl (by decide) rfl rfl rfl ?_
  refine z_aload_0 iX9_init_36 ?_
  refine p_get (j := 0) iX9_init_37 g_9_12 rfl rfl ?_
  refine z_iconst iX9_init_40 kI_0 ?_
  refine p_put (j := 1) (nf := 2) iX9_init_41 g_9_29 rfl rfl rfl (by decide) rfl rfl rfl ?_
  exact p_ret hE iX9_init_44 hR (by decide) (by decide) rfl
theorem c_X11_init (G : qG) (l : Launch) (pre : List va_E) : CtrX G l M_X11_init (.ref (qB G + pre.length) :: []) (pre ++ [.inr (11, [.int 0, .int 0, .null, .null, .null, .null, .null, .null, .null, .int 0, .int 0, .null, .int 0, .int 0, .int 0, .int 0, .int 0, .int 0, .int 0, .int 0, .int 0, .int 0, .null, .null, .null, .null, .int 0, .null, .null, .long 0, .null, .null])]) (pre ++ bY G pre.length) := by
  refine l_enter [some (.ref (qB G + pre.length))] (by decide +kernel) rfl (Nat.le_of_ble_eq_true rfl) rfl (fun X hE hR hNm => ?_)
  have hR : qR X = rm_X11_init := hR
  have hNm : qName X = "<init>" := hNm
  show ZP G X cX11_init RX11 pre [.inr (11, [.int 0, .int 0, .null, .null, .null, .null, .null, .null, .null, .int 0, .int 0, .null, .int 0, .int 0, .int 0, .int 0, .int 0, .int 0, .int 0, .int 0, .int 0, .int 0, .null, .null, .null, .null, .int 0, .null, .null, .long 0, .null, .null])] 0 0 0 [some (.ref (qB G + pre.length))] []
  refine z_aload_0 iX11_init_0 ?_
  refine z_objInit iX11_init_1 l_11_1 w_objI w_objC hR ⟨by decide, by decide⟩ ?_
  refine z_aload_0 iX11_init_4 ?_
  refine z_bipush iX11_init_5 kB_7 ?_
  refine p_newI (y := 1) iX11_init_7 (by decide) hR (by decide) (by decide) rfl rfl ?_
  refine p_putF (j := 0) (nf := 32) hNm iX11_init_9 g_11_7 rfl rfl rfl rfl (by decide) rfl rfl rfl ?_
  refine z_aload_0 iX11_init_12 ?_
  refine z_bipush iX11_init_13 kB_21 ?_
  refine p_newI (y := 2) iX11_init_15 (by decide) hR (by decide) (by decide) rfl rfl ?_
  refine p_putF (j := 0) (nf := 32) hNm iX11_init_17 g_11_13 rfl rfl rfl rfl (by decide) rfl rfl rfl ?_
  refine z_aload_0 iX11_init_20 ?_
  refine z_iconst iX11_init_21 kI_5 ?_
  refine p_newI (y := 3) iX11_init_22 (by decide) hR (by decide) (by decide) rfl rfl ?_
  refine p_putF (j := 0) (nf := 32) hNm iX11_init_24 g_11_16 rfl rfl rfl rfl (by decide) rfl rfl rfl ?_
  refine z_aload_0 iX11_init_27 ?_
  refine z_iconst iX11_init_28 kI_5 ?_
  refine p_newI (y := 4) iX11_init_29 (by decide) hR (by decide) (by decide) rfl rfl ?_
  refine p_putF (j := 0) (nf := 32) hNm iX11_init_31 g_11_19 rfl rfl rfl rfl (by decide) rfl rfl rfl ?_
  refine z_aload_0 iX11_init_34 ?_
  refine z_bipush iX11_init_35 kB_36 ?_
  refine p_newI (y := 5) iX11_init_37 (by decide) hR (by decide) (by decide) rfl rfl ?_
  refine p_putF (j := 0) (nf := 32) hNm iX11_init_39 g_11_22 rfl rfl rfl rfl (by decide) rfl rfl rfl ?_
  refine z_aload_0 iX11_init_42 ?_
  refine z_bipush iX11_init_43 kB_24 ?_
  refine p_newI (y := 6) iX11_init_45 (by decide) hR (by decide) (by decide) rfl rfl ?_
  refine p_putF (j := 0) (nf := 32) hNm iX11_init_47 g_11_25 rfl rfl rfl rfl (by decide) rfl rfl rfl ?_
  refine z_aload_0 iX11_init_50 ?_
  refine z_bipush iX11_init_51 kB_10 ?_
  refine p_newI (y := 7) iX11_init_53 (by decide) hR (by decide) (by decide) rfl rfl ?_
  refine p_putF (j := 0) (nf := 32) hNm iX11_init_55 g_11_28 rfl rfl rfl rfl (by decide) rfl rfl rfl ?_
  refine z_aload_0 iX11_init_58 ?_
  refine z_bipush iX11_init_59 kB_52 ?_
  refine p_newI (y := 8) iX11_init_61 (by decide) hR (by decide) (by decide) rfl rfl ?_
  refine p_putF (j := 0) (nf := 32) hNm iX11_init_63 g_11_31 rfl rfl rfl rfl (by decide) rfl rfl rfl ?_
  refine z_aload_0 iX11_init_66 ?_
  refine z_sipush iX11_init_67 kS_252 ?_
  refine p_newI (y := 9) iX11_init_70 (by decide) hR (by decide) (by decide) rfl rfl ?_
  refine p_putF (j := 0) (nf := 32) hNm iX11_init_72 g_11_34 rfl rfl rfl rfl (by decide) rfl rfl rfl ?_
  refine z_aload_0 iX11_init_75 ?_
  refine z_bipush iX11_init_76 kB_6 ?_
  refine p_newI (y := 10) iX11_init_78 (by decide) hR (by decide) (by decide) rfl rfl ?_
  refine p_putF (j := 0) (nf := 32) hNm iX11_init_80 g_11_37 rfl rfl rfl rfl (by decide) rfl rfl rfl ?_
  refine z_aload_0 iX11_init_83 ?_
  refine z_bipush iX11_init_84 kB_6 ?_
  refine p_newI (y := 11) iX11_init_86 (by decide) hR (by decide) (by decide) rfl rfl ?_
  refine p_putF (j := 0) (nf := 32) hNm iX11_init_88 g_11_40 rfl rfl rfl rfl (by decide) rfl rfl rfl ?_
  refine z_aload_0 iX11_init_91 ?_
  refine z_bipush iX11_init_92 kB_6 ?_
  refine p_newI (y := 12) iX11_init_94 (by decide) hR (by decide) (by decide) rfl rfl ?_
  refine p_putF (j := 0) (nf := 32) hNm iX11_init_96 g_11_43 rfl rfl rfl rfl (by decide) rfl rfl rfl ?_
  refine z_aload_0 iX11_init_99 ?_
  refine z_bipush iX11_init_100 kB_6 ?_
  refine p_newI (y := 13) iX11_init_102 (by decide) hR (by decide) (by decide) rfl rfl ?_
  refine p_putF (j := 0) (nf := 32) hNm iX11_init_104 g_11_46 rfl rfl rfl rfl (by decide) rfl rfl rfl ?_
  refine z_aload_0 iX11_init_107 ?_
  refine z_bipush iX11_init_108 kB_6 ?_
  refine p_newI (y := 14) iX11_init_110 (by decide) hR (by decide) (by decide) rfl rfl ?_
  refine p_putF (j := 0) (nf := 32) hNm iX11_init_112 g_11_49 rfl rfl rfl rfl (by decide) rfl rfl rfl ?_
  refine z_aload_0 iX11_init_115 ?_
  refine z_iconst iX11_init_116 kI_2 ?_
  refine p_newZ (y := 15) iX11_init_117 (by decide) hR (by decide) (by decide) rfl rfl ?_
  refine p_putF (j := 0) (nf := 32) hNm iX11_init_119 g_11_52 rfl rfl rfl rfl (by decide) rfl rfl rfl ?_
  refine z_aload_0 iX11_init_122 ?_
  refine z_bipush iX11_init_123 kB_36 ?_
  refine p_newI (y := 16) iX11_init_125 (by decide) hR (by decide) (by decide) rfl rfl ?_
  refine p_putF (j := 0) (nf := 32) hNm iX11_init_127 g_11_56 rfl rfl rfl rfl (by decide) rfl rfl rfl ?_
  exact p_ret hE iX11_init_130 hR (by decide) (by decide) rfl
theorem c_X10_init (G : qG) (l : Launch) (pre : List va_E) : CtrX G l M_X10_init (.ref (qB G + pre.length) :: []) (pre ++ [.inr (10, [.null, .int 0, .null, .null, .null, .null, .null, .null, .null, .null, .null, .null, .null, .null, .long 0])]) (pre ++ bX G pre.length) := by
  refine l_enter [some (.ref (qB G + pre.length)), none] (by decide +kernel) rfl (Nat.le_of_ble_eq_true rfl) rfl (fun X hE hR hNm => ?_)
  have hR : qR X = rm_X10_init := hR
  have hNm : qName X = "<init>" := hNm
  show ZP G X cX10_init RX10 pre [.inr (10, [.null, .int 0, .null, .null, .null, .null, .null, .null, .null, .null, .null, .null, .null, .null, .long 0])] 0 0 0 [some (.ref (qB G + pre.length)), none] []
  refine z_aload_0 iX10_init_0 ?_
  refine z_objInit iX10_init_1 l_10_1 w_objI w_objC hR ⟨by decide, by decide⟩ ?_
  refine z_aload_0 iX10_init_4 ?_
  refine z_bipush iX10_init_5 kB_52 ?_
  refine p_newI (y := 1) iX10_init_7 (by decide) hR (by decide) (by decide) rfl rfl ?_
  refine p_putF (j := 0) (nf := 15) hNm iX10_init_9 g_10_9 rfl rfl rfl rfl (by decide) rfl rfl rfl ?_
  refine z_aload_0 iX10_init_12 ?_
  refine p_newc (y := 2) iX10_init_13 (by decide) n_10_13 rfl df_7 hR (by decide) (by decide) rfl rfl ?_
  refine z_dup iX10_init_16 rfl ?_
  refine p_call (B := (bR G)) (y := 2) (c1 := 15) (c2 := 46) iX10_init_17 l_10_15 f_X7_init rfl rfl (c_X7_init G _ _) rfl rfl (Nat.le_of_ble_eq_true rfl) hR ft_X10_init_X7_init rfl rfl (by decide) (by decide) rfl ?_
  refine p_putF (j := 0) (nf := 15) hNm iX10_init_20 g_10_16 rfl rfl rfl rfl (by decide) rfl rfl rfl ?_
  refine z_aload_0 iX10_init_23 ?_
  refine p_newc (y := 18) iX10_init_24 (by decide) n_10_20 rfl df_6 hR (by decide) (by decide) rfl rfl ?_
  refine z_dup iX10_init_27 rfl ?_
  refine z_aload_0 iX10_init_28 ?_
  refine p_get (j := 0) iX10_init_29 g_10_16 rfl rfl ?_
  refine p_call (B := (bD G (pre.length + 2))) (y := 18) (c1 := 0) (c2 := 0) iX10_init_32 l_10_22 f_X6_init rfl rfl (c_X6_init G _ _ (pre.length + 2)) rfl rfl (Nat.le_of_ble_eq_true rfl) hR ft_X10_init_X6_init rfl rfl (by decide) (by decide) rfl ?_
  refine p_putF (j := 0) (nf := 15) hNm iX10_init_35 g_10_25 rfl rfl rfl rfl (by decide) rfl rfl rfl ?_
  refine z_aload_0 iX10_init_38 ?_
  refine p_newc (y := 19) iX10_init_39 (by decide) n_10_13 rfl df_7 hR (by decide) (by decide) rfl rfl ?_
  refine z_dup iX10_init_42 rfl ?_
  refine p_call (B := (bR G)) (y := 19) (c1 := 15) (c2 := 46) iX10_init_43 l_10_15 f_X7_init rfl rfl (c_X7_init G _ _) rfl rfl (Nat.le_of_ble_eq_true rfl) hR ft_X10_init_X7_init rfl rfl (by decide) (by decide) rfl ?_
  refine p_putF (j := 0) (nf := 15) hNm iX10_init_46 g_10_29 rfl rfl rfl rfl (by decide) rfl rfl rfl ?_
  refine z_aload_0 iX10_init_49 ?_
  refine p_newc (y := 35) iX10_init_50 (by decide) n_10_32 rfl df_1 hR (by decide) (by decide) rfl rfl ?_
  refine z_dup iX10_init_53 rfl ?_
  refine p_callN (B := (bB G)) (y := 35) (c1 := 1) (c2 := 9) iX10_init_54 l_10_34 f_X1_init rfl rfl (c_X1_init G _ _) rfl rfl (Nat.le_of_ble_eq_true rfl) hR ft_X10_init_X1_init rfl rfl (by decide) (by decide) rfl ?_
  refine p_putF (j := 0) (nf := 15) hNm iX10_init_57 g_10_35 rfl rfl rfl rfl (by decide) rfl rfl rfl ?_
  refine z_aload_0 iX10_init_60 ?_
  refine p_newc (y := 37) iX10_init_61 (by decide) n_10_39 rfl df_8 hR (by decide) (by decide) rfl rfl ?_
  refine z_dup iX10_init_64 rfl ?_
  refine z_aload_0 iX10_init_65 ?_
  refine p_get (j := 0) iX10_init_66 g_10_29 rfl rfl ?_
  refine z_aload_0 iX10_init_69 ?_
  refine p_get (j := 0) iX10_init_70 g_10_35 rfl rfl ?_
  refine p_call (B := (bS G (pre.length + 19) (pre.length + 35))) (y := 37) (c1 := 11) (c2 := 63) iX10_init_73 l_10_41 f_X8_init rfl rfl (c_X8_init G _ _ (pre.length + 19) (pre.length + 35)) rfl rfl (Nat.le_of_ble_eq_true rfl) hR ft_X10_init_X8_init rfl rfl (by decide) (by decide) rfl ?_
  refine p_putF (j := 0) (nf := 15) hNm iX10_init_76 g_10_44 rfl rfl rfl rfl (by decide) rfl rfl rfl ?_
  refine z_aload_0 iX10_init_79 ?_
  refine p_newc (y := 49) iX10_init_80 (by decide) n_10_39 rfl df_8 hR (by decide) (by decide) rfl rfl ?_
  refine z_dup iX10_init_83 rfl ?_
  refine z_aload_0 iX10_init_84 ?_
  refine p_get (j := 0) iX10_init_85 g_10_29 rfl rfl ?_
  refine z_aload_0 iX10_init_88 ?_
  refine p_get (j := 0) iX10_init_89 g_10_35 rfl rfl ?_
  refine p_call (B := (bS G (pre.length + 19) (pre.length + 35))) (y := 49) (c1 := 11) (c2 := 63) iX10_init_92 l_10_41 f_X8_init rfl rfl (c_X8_init G _ _ (pre.length + 19) (pre.length + 35)) rfl rfl (Nat.le_of_ble_eq_true rfl) hR ft_X10_init_X8_init rfl rfl (by decide) (by decide) rfl ?_
  refine p_putF (j := 0) (nf := 15) hNm iX10_init_95 g_10_48 rfl rfl rfl rfl (by decide) rfl rfl rfl ?_
  refine z_aload_0 iX10_init_98 ?_
  refine p_newc (y := 61) iX10_init_99 (by decide) n_10_51 rfl df_0 hR (by decide) (by decide) rfl rfl ?_
  refine z_dup iX10_init_102 rfl ?_
  refine p_call (B := (bA G)) (y := 61) (c1 := 57) (c2 := 308) iX10_init_103 l_10_53 f_X0_init rfl rfl (c_X0_init G _ _) rfl rfl (Nat.le_of_ble_eq_true rfl) hR ft_X10_init_X0_init rfl rfl (by decide) (by decide) rfl ?_
  refine p_putF (j := 0) (nf := 15) hNm iX10_init_106 g_10_54 rfl rfl rfl rfl (by decide) rfl rfl rfl ?_
  refine z_aload_0 iX10_init_109 ?_
  refine p_newc (y := 119) iX10_init_110 (by decide) n_10_58 rfl df_3 hR (by decide) (by decide) rfl rfl ?_
  refine z_dup iX10_init_113 rfl ?_
  refine z_aload_0 iX10_init_114 ?_
  refine p_get (j := 0) iX10_init_115 g_10_44 rfl rfl ?_
  refine p_call (B := (bC G (pre.length + 37))) (y := 119) (c1 := 3) (c2 := 76) iX10_init_118 l_10_60 f_X3_init rfl rfl (c_X3_init G _ _ (pre.length + 37)) rfl rfl (Nat.le_of_ble_eq_true rfl) hR ft_X10_init_X3_init rfl rfl (by decide) (by decide) rfl ?_
  refine p_putF (j := 0) (nf := 15) hNm iX10_init_121 g_10_63 rfl rfl rfl rfl (by decide) rfl rfl rfl ?_
  refine z_aload_0 iX10_init_124 ?_
  refine p_newc (y := 123) iX10_init_125 (by decide) n_10_67 rfl df_2 hR (by decide) (by decide) rfl rfl ?_
  refine z_dup iX10_init_128 rfl ?_
  refine z_aload_0 iX10_init_129 ?_
  refine p_get (j := 0) iX10_init_130 g_10_44 rfl rfl ?_
  refine p_call (B := (bN G (pre.length + 37))) (y := 123) (c1 := 1) (c2 := 9) iX10_init_133 l_10_69 f_X2_init rfl rfl (c_X2_init G _ _ (pre.length + 37)) rfl rfl (Nat.le_of_ble_eq_true rfl) hR ft_X10_init_X2_init rfl rfl (by decide) (by decide) rfl ?_
  refine p_putF (j := 0) (nf := 15) hNm iX10_init_136 g_10_70 rfl rfl rfl rfl (by decide) rfl rfl rfl ?_
  refine z_aload_0 iX10_init_139 ?_
  refine p_newc (y := 125) iX10_init_140 (by decide) n_10_74 rfl df_9 hR (by decide) (by decide) rfl rfl ?_
  refine z_dup iX10_init_143 rfl ?_
  refine z_aload_0 iX10_init_144 ?_
  refine p_get (j := 0) iX10_init_145 g_10_44 rfl rfl ?_
  refine p_call (B := (bM G (pre.length + 37))) (y := 125) (c1 := 4) (c2 := 17) iX10_init_148 l_10_76 f_X9_init rfl rfl (c_X9_init G _ _ (pre.length + 37)) rfl rfl (Nat.le_of_ble_eq_true rfl) hR ft_X10_init_X9_init rfl rfl (by decide) (by decide) rfl ?_
  refine p_putF (j := 0) (nf := 15) hNm iX10_init_151 g_10_77 rfl rfl rfl rfl (by decide) rfl rfl rfl ?_
  refine z_aload_0 iX10_init_154 ?_
  refine z_iconst iX10_init_155 kI_2 ?_
  refine p_anew 3 5 (y := 130) iX10_init_156 (by decide) rfl n_10_81 (mt_over_5) (by decide) hR (by decide) (by decide) rfl rfl ?_
  refine p_putF (j := 0) (nf := 15) hNm iX10_init_159 g_10_83 rfl rfl rfl rfl (by decide) rfl rfl rfl ?_
  refine z_aload_0 iX10_init_162 ?_
  refine z_iconst iX10_init_163 kI_2 ?_
  refine p_newZ (y := 131) iX10_init_164 (by decide) hR (by decide) (by decide) rfl rfl ?_
  refine p_putF (j := 0) (nf := 15) hNm iX10_init_166 g_10_87 rfl rfl rfl rfl (by decide) rfl rfl rfl ?_
  refine z_iconst iX10_init_169 kI_0 ?_
  refine z_istore_1 iX10_init_170 rfl ?_
  refine z_iload_1 iX10_init_171 ?_
  refine z_iconst iX10_init_172 kI_2 ?_
  refine z_icmp_geN iX10_init_173 (by decide) (by decide) (fun q => absurd q (by decide)) (fun _ => ?_)
  refine z_aload_0 iX10_init_176 ?_
  refine p_get (j := 0) iX10_init_177 g_10_83 rfl rfl ?_
  refine z_iload_1 iX10_init_180 ?_
  refine p_newc (y := 132) iX10_init_181 (by decide) n_10_81 rfl df_5 hR (by decide) (by decide) rfl rfl ?_
  refine z_dup iX10_init_184 rfl ?_
  refine p_callN (B := (bH G)) (y := 132) (c1 := 3) (c2 := 17) iX10_init_185 l_10_91 f_X5_init rfl rfl (c_X5_init G _ _) rfl rfl (Nat.le_of_ble_eq_true rfl) hR ft_X10_init_X5_init rfl rfl (by decide) (by decide) rfl ?_
  refine p_aast 3 5 (j := 130) (j2 := 132) iX10_init_188 rfl (by decide) rfl rfl (by decide) (by decide) rfl rfl ?_
  refine z_iinc_1N iX10_init_189 rfl ?_
  refine z_goto iX10_init_192 ?_
  refine z_iload_1 iX10_init_171 ?_
  refine z_iconst iX10_init_172 kI_2 ?_
  refine z_icmp_geN iX10_init_173 (by decide) (by decide) (fun q => absurd q (by decide)) (fun _ => ?_)
  refine z_aload_0 iX10_init_176 ?_
  refine p_get (j := 0) iX10_init_177 g_10_83 rfl rfl ?_
  refine z_iload_1 iX10_init_180 ?_
  refine p_newc (y := 136) iX10_init_181 (by decide) n_10_81 rfl df_5 hR (by decide) (by decide) rfl rfl ?_
  refine z_dup iX10_init_184 rfl ?_
  refine p_callN (B := (bH G)) (y := 136) (c1 := 3) (c2 := 17) iX10_init_185 l_10_91 f_X5_init rfl rfl (c_X5_init G _ _) rfl rfl (Nat.le_of_ble_eq_true rfl) hR ft_X10_init_X5_init rfl rfl (by decide) (by decide) rfl ?_
  refine p_aast 3 5 (j := 130) (j2 := 136) iX10_init_188 rfl (by decide) rfl rfl (by decide) (by decide) rfl rfl ?_
  refine z_iinc_1N iX10_init_189 rfl ?_
  refine z_goto iX10_init_192 ?_
  refine z_iload_1 iX10_init_171 ?_
  refine z_iconst iX10_init_172 kI_2 ?_
  refine z_icmp_geN iX10_init_173 (by decide) (by decide) (fun _ => ?_) (fun q => absurd q (by decide))
  refine p_conv (j := 130) rfl (qEq.refs (g := fun j => some (qB G + (pre.length + 132 + 4 * j))) (fun j hj => ?_)) rfl ?_
  · rcases (show j = 0 ∨ j = 1 by omega) with rfl | rfl
    · exact rfl
    · exact rfl
  exact p_ret hE iX10_init_195 hR (by decide) (by decide) rfl

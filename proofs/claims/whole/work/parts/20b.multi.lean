/-! NEW CELLS: a row of rows -/
theorem z_multi {G : qG} {X : qX} {cc : ByteArray} {own : String} {k1 k2 pc : Nat} {vs : List (Option Value)} {st : List Value} {R0 : Room} {L : List va_E} {idx y : Nat} {L' : List va_E} (hd : In cc pc (.multianewarray idx 2) 4 (pc + 4)) (hw : Cond.classLink own idx "[[I" ∈ lw_gd) (hov : Cond.arrayOver (.array .int) ∈ lw_tbl) (hw2 : Cond.arrayClass .int ∈ lw_gd) (hR : qR X = R0) (hk1 : k1 + 7 ≤ R0.cells) (hk2 : k2 + 42 ≤ R0.slots) (hl : L.length = y)
    (hL' : L ++ (.inl (qc G 4, 6, .inr (.inr (.inr (.inr (fun j => some (qB G + (y + 1 + 1 * j))))))) :: List.replicate 6 (.inl (qc G 0, 6, .inl (fun _ => 0)))) = L')
    (kk : ZL G X cc own L' (k1 + 7) (k2 + 42) (pc + 4) vs (.ref (qB G + y) :: st)) : ZL G X cc own L k1 k2 pc vs (.int (nI 6) :: .int (nI 6) :: st) := by
  subst hl hL'
  intro hC H locs ls hH hS hL
  have k := fun H1 q1 q2 => kk hC H1 locs ls q1 q2 hL
  obtain ⟨p, l, e, R, s, m, args, below, meth, c, Q⟩ := X
  have hR : R = R0 := hR
  subst hR
  obtain ⟨hx, hbb, hml, hown, hts, hal, hG, hsz⟩ := hC
  have hK := hG.1.moved hal
  intro T hT XS
  subst hT
  subst hbb
  have hc6 : (nI 6).toNatClampNeg = 6 := nI_clamp (by decide)
  have hover : (Cond.arrayOver (.array .int)).before args s = true := Stand.arrayOver_alikeB hal (hG.2.2 _ hov)
  obtain ⟨vm₁, cA, comp, hW, hfA, hfC, hO, hI, X1, stp⟩ := XS.multianewarray2F hx hown (hts _ hw) hover (hts _ hw2) (g := F0 m pc ls (.int (nI 6) :: .int (nI 6) :: st)) rfl hd.1 rfl (nI_pos (by decide)) (nI_pos (by decide)) (by rw [hc6]; decide) (by rw [hc6]; decide) (by rw [hc6]; decide) rfl rfl (by rw [hc6]; exact hk1) (by rw [hc6]; exact hk2)
  rw [hc6] at X1 stp
  obtain ⟨f1, f2, -, -⟩ := Jvm.Free.Multi.fill_facts (T.setVm vm₁) cA comp 6 6 (defaultValue .int) 6
  have fo := fun (a : Addr) (ha : a < T.heap.size) => Jvm.Free.Multi.fill_old (T.setVm vm₁) cA comp 6 6 (defaultValue .int) (a := a) ha 6
  have fi := fun (j : Nat) (hj : j < 6) => Jvm.Free.Multi.fill_inner (T.setVm vm₁) cA comp 6 6 (defaultValue .int) 6 j hj
  have f1 : (Jvm.Free.Multi.fill (T.setVm vm₁) cA comp 6 6 (defaultValue .int) 6).heap.size = T.heap.size + 1 + 6 := f1
  have f2 : (Jvm.Free.Multi.fill (T.setVm vm₁) cA comp 6 6 (defaultValue .int) 6).heap[T.heap.size]? = some (Jvm.Free.Multi.outerC cA 6 T.heap.size 6) := f2
  have fo : ∀ a : Nat, a < T.heap.size → (Jvm.Free.Multi.fill (T.setVm vm₁) cA comp 6 6 (defaultValue .int) 6).heap[a]? = T.heap[a]? := fo
  have fi : ∀ j : Nat, j < 6 → (Jvm.Free.Multi.fill (T.setVm vm₁) cA comp 6 6 (defaultValue .int) 6).heap[T.heap.size + 1 + j]? = some (Jvm.Free.Multi.innerC comp 6 (defaultValue .int)) := fi
  have eA : cA = qc G 4 := Option.some.inj (hfA.symm.trans (hK.2 4 _ rfl).2)
  have eC : comp = qc G 0 := Option.some.inj (hfC.symm.trans (hK.2 0 _ rfl).2)
  subst eA eC
  have hz : T.heap.size = qB G + L.length := hH.1
  have eo : Jvm.Free.Multi.outerC (qc G 4) 6 T.heap.size 6 = vp_cell (qc G 4) (6, .inr (.inr (.inr (.inr (fun j => some (qB G + (L.length + 1 + 1 * j))))))) := by
    obtain ⟨o1, o2, o3⟩ := Jvm.Free.Multi.outerC_facts (qc G 4) 6 T.heap.size 6
    have os := fun (j : Nat) (hj : j < 6) => Jvm.Free.Multi.outerC_slot (qc G 4) 6 T.heap.size 6 j hj
    show _ = arrV (qc G 4) 6 (fun j => va_rf (some (qB G + (L.length + 1 + 1 * j))))
    generalize Jvm.Free.Multi.outerC (qc G 4) 6 T.heap.size 6 = C at o1 o2 o3 os
    have es : C.slots = (arrV (qc G 4) 6 (fun j => va_rf (some (qB G + (L.length + 1 + 1 * j))))).slots := by
      apply Array.ext_getElem?
      intro j
      by_cases hj : j < 6
      · rw [os j hj, arrV_read _ _ hj, if_pos hj, hz]
        show some (Value.ref (qB G + L.length + 1 + j)) = some (Value.ref (qB G + (L.length + 1 + 1 * j)))
        congr 2
        omega
      · rw [Array.getElem?_eq_none (by rw [o3]; omega), Array.getElem?_eq_none (by rw [arrV_size]; omega)]
    cases C with
    | mk c1 c2 c3 =>
      simp only at o1 o2 es
      subst o1 o2 es
      rfl
  have ei : Jvm.Free.Multi.innerC (qc G 0) 6 (defaultValue .int) = vp_cell (qc G 0) (6, .inl (fun _ => 0)) := arrV_new (qc G 0) 6 (.int 0)
  have hP : HP G (L ++ (.inl (qc G 4, 6, .inr (.inr (.inr (.inr (fun j => some (qB G + (L.length + 1 + 1 * j))))))) :: List.replicate 6 (.inl (qc G 0, 6, .inl (fun _ => 0))))).length (hL (L ++ (.inl (qc G 4, 6, .inr (.inr (.inr (.inr (fun j => some (qB G + (L.length + 1 + 1 * j))))))) :: List.replicate 6 (.inl (qc G 0, 6, .inl (fun _ => 0)))))) (Jvm.Free.Multi.fill (T.setVm vm₁) (qc G 4) (qc G 0) 6 6 (defaultValue .int) 6).heap := by
    refine ⟨?_, fun i hi => ?_, fun q hq => ?_⟩
    · rw [f1, hz, List.length_append]
      show qB G + L.length + 1 + 6 = qB G + (L.length + 7)
      omega
    · unfold hL
      rw [List.getD_eq_getElem?_getD]
      by_cases h1 : i < L.length
      · rw [List.getElem?_append_left h1]
        have := (hH.2.1 i h1).kept (fo (qB G + i) (by rw [hz]; omega))
        unfold hL at this
        rw [List.getD_eq_getElem?_getD] at this
        exact this
      · have hi2 : i < L.length + 7 := by rw [List.length_append] at hi; exact hi
        rw [List.getElem?_append_right (by omega)]
        by_cases h2 : i = L.length
        · rw [h2, Nat.sub_self]
          show (Jvm.Free.Multi.fill (T.setVm vm₁) (qc G 4) (qc G 0) 6 6 (defaultValue .int) 6).heap[qB G + L.length]? = some (vp_cell (qc G 4) _)
          rw [← hz, f2, eo]
        · obtain ⟨j, rfl⟩ : ∃ j, i = L.length + 1 + j := ⟨i - L.length - 1, by omega⟩
          rw [show L.length + 1 + j - L.length = j + 1 by omega]
          have hj : j < 6 := by omega
          rw [List.getElem?_cons_succ, List.getElem?_replicate, if_pos hj]
          show (Jvm.Free.Multi.fill (T.setVm vm₁) (qc G 4) (qc G 0) 6 6 (defaultValue .int) 6).heap[qB G + (L.length + 1 + j)]? = some (vp_cell (qc G 0) _)
          have := fi j hj
          rw [hz, show qB G + L.length + 1 + j = qB G + (L.length + 1 + j) by omega] at this
          rw [this, ei]
    · rw [fo q (by rw [hz]; omega)]
      exact hH.2.2 q hq
  have hS2 : va_S (qA G) s.heap (Jvm.Free.Multi.fill (T.setVm vm₁) (qc G 4) (qc G 0) 6 6 (defaultValue .int) 6).heap locs := ⟨by rw [f1]; have : s.heap.size ≤ T.heap.size := hS.1; omega, fun q q1 q2 => (fo q (Nat.lt_of_lt_of_le q1 hS.1)).trans (hS.2.1 q q1 q2), hS.2.2⟩
  obtain ⟨t, a1, b1⟩ := k _ hP hS2 _ rfl X1
  refine ⟨t, stp t ?_, b1⟩
  rw [hz]
  exact a1
theorem p_multi {G : qG} {X : qX} {cc : ByteArray} {own : String} {k1 k2 pc pc' : Nat} {vs : List (Option Value)} {st : List Value} {R0 : Room} {pre Y Y' : List va_E} {idx y : Nat} (hd : In cc pc (.multianewarray idx 2) 4 pc') (hw : Cond.classLink own idx "[[I" ∈ lw_gd) (hov : Cond.arrayOver (.array .int) ∈ lw_tbl) (hw2 : Cond.arrayClass .int ∈ lw_gd) (hR : qR X = R0) (hk1 : k1 + 7 ≤ R0.cells) (hk2 : k2 + 42 ≤ R0.slots) (hl : Y.length = y)
    (hY : Y ++ (.inl (qc G 4, 6, .inr (.inr (.inr (.inr (fun j => some (qB G + (pre.length + y + 1 + 1 * j))))))) :: List.replicate 6 (.inl (qc G 0, 6, .inl (fun _ => 0)))) = Y')
    (kk : ZL G X cc own (pre ++ Y') (k1 + 7) (k2 + 42) pc' vs (.ref (qB G + (pre.length + y)) :: st)) : ZL G X cc own (pre ++ Y) k1 k2 pc vs (.int (nI 6) :: .int (nI 6) :: st) := by
  have hp : pc' = pc + 4 := hd.2
  subst hp
  exact z_multi (y := pre.length + y) hd hw hov hw2 hR hk1 hk2 (by rw [List.length_append, hl]) (by rw [List.append_assoc, hY]) kk

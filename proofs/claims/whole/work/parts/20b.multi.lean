/-! NEW CELLS: a row of rows -/
theorem z_multi {G : qG} {X : qX} {cc : ByteArray} {own : String} {k1 k2 pc : Nat} {vs : List (Option Value)} {st : List Value} {R0 : Room} {L : List va_E} {idx y : Nat} {L' : List va_E} (hd : In cc pc (.multianewarray idx 2) 4 (pc + 4)) (hw : Cond.classLink own idx "[[I" ∈ lw_gd) (hov : Cond.arrayOver (.array .int) ∈ lw_tbl) (hw2 : Cond.arrayClass .int ∈ lw_gd) (hR : qR X = R0) (hk1 : k1 + 7 ≤ R0.cells) (hk2 : k2 + 42 ≤ R0.slots) (hl : L.length = y)
    (hL' : L ++ (.inl (qc G 4, 6, .inr (.inr (.inr (.inr (fun j => some (qB G + (y + 1 + 1 * j))))))) :: List.replicate 6 (.inl (qc G 0, 6, .inl (fun _ => 0)))) = L')
    (kk : ZL G X cc own L' (k1 + 7) (k2 + 42) (pc + 4) vs (.ref (qB G + y) :: st)) : ZL G X cc own L k1 k2 pc vs (.int (nI 6) :: .int (nI 6) :: st) := by
  subst hl hL'
  intro hC H locs ls hH hS hL
  have k := fun H1 q1 q2 => kk hC H1 locs ls q1 q2 hL
  obtain ⟨p, l, e, R, s, m, args, below, meth, c, Q⟩ := X
  have hR : R = R0 := hR
  subst hR
  obtain ⟨hx, hbb, hml, hown, hts, hal, hG, hsz⟩ := hC
  have hK := hG.1.moved hal
  intro T hT XS
  subst hT
  subst hbb
  have hc6 : (nI 6).toNatClampNeg = 6 := nI_clamp (by decide)
  have hover : (Cond.arrayOver (.array .int)).before args s = true := Stand.arrayOver_alikeB hal (hG.2.2 _ hov)
  obtain ⟨vm₁, cA, comp, hW, hfA, hfC, hO, hI, X1, stp⟩ := XS.multianewarray2F hx hown (hts _ hw) hover (hts _ hw2) (g := F0 m pc ls (.int (nI 6) :: .int (nI 6) :: st)) rfl hd.1 rfl (nI_pos (by decide)) (nI_pos (by decide)) (by rw [hc6]; decide) (by rw [hc6]; decide) (by rw [hc6]; decide) rfl rfl (by rw [hc6]; exact hk1) (by rw [hc6]; exact hk2)
  rw [hc6] at X1 stp
  sorry

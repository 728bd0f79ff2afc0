/-! THE LAW: its start -/
def hdZ : Hd := (fun _ => 0, fun _ => 0, fun _ => 0, 0)
def stZ : St := ((0, fun _ => 0), ((0, 0, fun _ => 0, fun _ _ => 0, fun _ => 0, fun _ => 0), hdZ), (0, fun _ => hdZ), (fun _ => false, fun _ => hdZ), (0, fun _ => 0, fun _ => 0), 0)
theorem ok_hdZ : HdOK (sR stZ) hdZ := ⟨fun g h => absurd h (Nat.not_lt_zero _), fun f _ => ⟨Nat.zero_le _, Nat.zero_lt_succ _⟩, fun f _ _ => ⟨rfl, rfl⟩, fun f h => absurd h (Nat.not_lt_zero _)⟩
theorem ok_stZ : SOK stZ := ⟨by decide, fun i h => absurd h (Nat.not_lt_zero _), ⟨by decide, by decide, fun f h => absurd h (Nat.not_lt_zero _), fun f h => absurd h (Nat.not_lt_zero _)⟩, ok_hdZ, by decide, fun k h => absurd h (Nat.not_lt_zero _), fun k _ h => (nomatch (show false = true from h)), by decide, fun k h => absurd h (Nat.not_lt_zero _)⟩
theorem hold_Z (hd : Nat) (h1 : hd = 38) : HoldAt mu0 hd (sR stZ) hdZ := by
  subst h1
  exact ⟨fun g h => absurd h (Nat.not_lt_zero _), fun f _ => rfl, fun f _ => rfl, rfl⟩
theorem perm_Z : PermOK mu0 := ⟨fun k hk => ⟨k, hk, rfl⟩, fun k k' _ _ h => by
  have h : 63 + 4 * k = 63 + 4 * k' := h
  omega⟩
theorem cat_Z : CAt mu0 stZ := ⟨ok_stZ, rfl, fun i h => absurd h (Nat.not_lt_zero _), ⟨rfl, rfl, fun f h => absurd h (Nat.not_lt_zero _), fun f h => absurd h (Nat.not_lt_zero _)⟩, hold_Z 38 rfl, ⟨by decide, rfl, perm_Z, fun k h => absurd h (Nat.not_lt_zero _)⟩, fun k hk => ⟨rfl, fun h => (nomatch (show false = true from h))⟩, ⟨by decide, rfl, fun k h => absurd h (Nat.not_lt_zero _)⟩, rfl, rfl⟩
theorem mat_Z : MAt mu0 stZ := ⟨⟨rfl, rfl, fun f h => absurd h (Nat.not_lt_zero _), fun f h => absurd h (Nat.not_lt_zero _)⟩, ⟨fun g h => absurd h (Nat.not_lt_zero _), fun f _ => rfl, fun f _ => rfl, rfl⟩, ⟨rfl, fun i h => absurd h (Nat.not_lt_zero _)⟩, ⟨rfl, 0, by decide, rfl, fun k h => absurd h (Nat.not_lt_zero _)⟩, fun k hk => ⟨rfl, fun h => (nomatch (show false = true from h))⟩, ⟨rfl, fun k h => absurd h (Nat.not_lt_zero _)⟩, rfl, rfl⟩
/-- the ground at the law's start -/
theorem lw_ground {s : State} {b : Nat} (hts : ∀ w ∈ lw_tbl, w.before #[Value.ref b] s = true) (hgv : (Jvm.Cond.and given_1 narrow_1).before #[Value.ref b] s = true) : ∃ G : qG, G.1 = s ∧ qOK G := by
  have htg : ∀ w ∈ lw_gd, w.before #[Value.ref b] s = true := fun w hw => hts w (List.mem_filter.mp hw).1
  have hch : ∀ ci, ∃ q : ClassId × (Nat → Nat), ci < 12 → u_Kn s (cT ci).1 (cT ci).2.1 (cT ci).2.2 q.1 q.2 := by
    intro ci
    by_cases h : ci < 12
    · obtain ⟨c1, c2, c3, c4, c5, c6⟩ := q_cls ci h
      obtain ⟨cC, iS, hk⟩ := u_known htg c2 (htg _ c5)
      exact ⟨(cC, iS), fun _ => hk⟩
    · exact ⟨(0, fun _ => 0), fun q => absurd q h⟩
  obtain ⟨f, hf⟩ := Classical.axiomOfChoice hch
  obtain ⟨a0, k0, p0, e0, g0, z0⟩ := Cond.arrayClass_spec (htg (Cond.arrayClass .int) (by decide +kernel))
  obtain ⟨a1, k1, p1, e1, g1, z1⟩ := Cond.arrayClass_spec (htg (Cond.arrayClass .boolean) (by decide +kernel))
  obtain ⟨p2, a2, k2, e2, -, g2, z2, n2⟩ := Cond.arrayOver_spec (hts (Cond.arrayOver (.object RX4)) mt_over_4)
  obtain ⟨p3, a3, k3, e3, -, g3, z3, n3⟩ := Cond.arrayOver_spec (hts (Cond.arrayOver (.object RX5)) mt_over_5)
  obtain ⟨p4, a4, k4, e4, -, g4, z4, n4⟩ := arrayOverA_spec (hts (Cond.arrayOver (.array .int)) mt_over_ii)
  have hs := flat_of_before _ hgv
  have hel : ∀ j : Nat, j < 5 → (Term.elem (.static "FoilBazaar" "DOING_UNITS" "[J") (.int (Int32.ofNat j))).eval #[Value.ref b] s none [] s = some (.long (qUnits j)) := by
    intro j hj
    rcases (show j = 0 ∨ j = 1 ∨ j = 2 ∨ j = 3 ∨ j = 4 by omega) with rfl | rfl | rfl | rfl | rfl
    · exact va_eqtl (z := 1) (hs (Cond.eq (.elem (.static "FoilBazaar" "DOING_UNITS" "[J") (.int 0)) (.long 1)) (by decide +kernel))
    · exact va_eqtl (z := 1000) (hs (Cond.eq (.elem (.static "FoilBazaar" "DOING_UNITS" "[J") (.int 1)) (.long 1000)) (by decide +kernel))
    · exact va_eqtl (z := 1000000) (hs (Cond.eq (.elem (.static "FoilBazaar" "DOING_UNITS" "[J") (.int 2)) (.long 1000000)) (by decide +kernel))
    · exact va_eqtl (z := 1000000000) (hs (Cond.eq (.elem (.static "FoilBazaar" "DOING_UNITS" "[J") (.int 3)) (.long 1000000000)) (by decide +kernel))
    · exact va_eqtl (z := 1000000000000) (hs (Cond.eq (.elem (.static "FoilBazaar" "DOING_UNITS" "[J") (.int 4)) (.long 1000000000000)) (by decide +kernel))
  have hA : ∀ a : Nat, a < s.heap.size → ¬ s.heap.size ≤ a := fun a h => Nat.not_le.mpr h
  obtain ⟨t, ht, hT⟩ := va_Tof (A := fun q => s.heap.size ≤ q) (N := 5) (by decide) (hs (Cond.arrayOf (.static "FoilBazaar" "DOING_UNITS" "[J") .long) (by decide +kernel)) (va_eqt (z := 5) (hs (Cond.eq (.length (.static "FoilBazaar" "DOING_UNITS" "[J")) (.int 5)) (by decide +kernel))) hel hA
  have hZ := va_Zref (A := fun q => s.heap.size ≤ q) (hts (Cond.laysStatic "FoilBazaar" "DOING_UNITS" "[J") (by decide +kernel)) (hts (Cond.initialized "FoilBazaar") (by decide +kernel)) ht hA
  refine ⟨(s, fun ci => (f ci).1, fun ci => (f ci).2, fun k => match k with | 0 => a0 | 1 => a1 | 2 => a2 | 3 => a3 | _ => a4), rfl, ⟨fun ci q hq => ?_, fun k q hq => ?_⟩, ⟨t, hZ, hT⟩, fun ty h => hts _ h⟩
  · have hlt : ci < 12 := (List.getElem?_eq_some_iff.mp hq).1
    have := (q_cls ci hlt).1.symm.trans hq
    cases this
    exact hf ci hlt
  · have hlt : k < 5 := (List.getElem?_eq_some_iff.mp hq).1
    rcases (show k = 0 ∨ k = 1 ∨ k = 2 ∨ k = 3 ∨ k = 4 by omega) with rfl | rfl | rfl | rfl | rfl
    · cases hq; exact ⟨fun n z => ⟨fun k h => (by cases h), k0, g0, p0, z0⟩, e0⟩
    · cases hq; exact ⟨fun n z => ⟨fun k h => (by cases h), k1, g1, p1, z1⟩, e1⟩
    · cases hq; exact ⟨fun n z => ⟨fun k h => (by cases h), k2, g2, p2, z2⟩, k2, p2, g2, z2, e2, n2⟩
    · cases hq; exact ⟨fun n z => ⟨fun k h => (by cases h), k3, g3, p3, z3⟩, k3, p3, g3, z3, e3, n3⟩
    · cases hq; exact ⟨fun n z => ⟨fun k h => (by cases h), k4, g4, p4, z4⟩, n4⟩
/-- from the entry to the loop -/
theorem lw_made {G : qG} {X : qX} {b L : Nat} {xs : Nat → Int32} (hX : LwX G X b L xs) (kk : Zw G X mu0 18 [some (.ref b), some (.ref (qB G + 0)), some (.ref (qB G + 140)), some (.int (nI 0))] []) : ZL G X cL_law RL [] 0 0 0 [some (.ref b), none, none, none] [] := by
  have hR : qR X = room_1 := hX.1
  refine l_newc (ci := 10) (nf := 15) (y := 0) (fs := [.null, .int 0, .null, .null, .null, .null, .null, .null, .null, .null, .null, .null, .null, .null, .long 0]) iL_law_0 (by decide) n_L_7 rfl df_10 hR (by decide) (by decide) rfl rfl ?_
  refine z_dup iL_law_3 rfl ?_
  refine l_call (a := 0) (c1 := 139) (c2 := 781) (L' := bX G 0) iL_law_4 l_L_9 f_X10_init (c_X10_init G _ []) rfl rfl (Nat.le_of_ble_eq_true rfl) hR ⟨Nat.le_of_ble_eq_true rfl, Nat.le_of_ble_eq_true rfl⟩ rfl rfl (by decide) (by decide) ?_
  refine z_astore_1 iL_law_7 rfl ?_
  refine l_newc (ci := 11) (nf := 32) (y := 140) (fs := [.int 0, .int 0, .null, .null, .null, .null, .null, .null, .null, .int 0, .int 0, .null, .int 0, .int 0, .int 0, .int 0, .int 0, .int 0, .int 0, .int 0, .int 0, .int 0, .null, .null, .null, .null, .int 0, .null, .null, .long 0, .null, .null]) iL_law_8 (by decide) n_L_10 rfl df_11 hR (by decide) (by decide) (lw_lenX G) rfl ?_
  refine z_dup iL_law_11 rfl ?_
  have hcy : CtrX G (qL X) M_X11_init (.ref (qB G + 140) :: []) (bX G 0 ++ [.inr (11, [.int 0, .int 0, .null, .null, .null, .null, .null, .null, .null, .int 0, .int 0, .null, .int 0, .int 0, .int 0, .int 0, .int 0, .int 0, .int 0, .int 0, .int 0, .int 0, .null, .null, .null, .null, .int 0, .null, .null, .long 0, .null, .null])]) (bX G 0 ++ bY G 140) := by
    have := c_X11_init G (qL X) (bX G 0)
    rw [lw_lenX] at this
    exact this
  refine l_call (a := 140) (c1 := 16) (c2 := 480) iL_law_12 l_L_12 f_X11_init hcy rfl rfl (Nat.le_of_ble_eq_true rfl) hR ⟨Nat.le_of_ble_eq_true rfl, Nat.le_of_ble_eq_true rfl⟩ rfl rfl (by decide) (by decide) ?_
  refine z_astore_2 iL_law_15 rfl ?_
  refine z_iconst iL_law_16 kI_0 ?_
  refine z_istore_3 iL_law_17 rfl ?_
  have hlen : (bX G 0 ++ bY G 140).length = 157 := by rw [List.length_append, lw_lenX]; rfl
  show Z G X cL_law RL (bX G 0 ++ bY G 140).length (hL (bX G 0 ++ bY G 140)) 157 1308 18 _ _
  rw [hlen]
  exact Z.conv (fun i hi => by rw [lw_h0 G i hi]; exact qEq.rf G _) kk
theorem whole_start {p : Program} {e : Env} {s : State} {m : MethodId} {below : List Frame} {meth : Method} {c : Code} (l : Launch) {b L : Nat} {xs : Nat → Int32} (hL : L ≤ 320) (C0 : lw_At p s m meth c b L xs) : W p l e room_1 s m #[Value.ref b] below meth c s.heap [] 0 0 (lw_Z below #[Value.ref b] s) (entryFrame m ([Value.ref b] : List Value).toArray 4) := by
  obtain ⟨hx, hb, hr, hml, hown, hts, hX, hbl, hlocks, hgv⟩ := id C0
  obtain ⟨G, hG1, hOK⟩ := lw_ground hts hgv
  have hB : qB G = s.heap.size := by unfold qB; rw [hG1]
  have hXX : LwX G (p, l, e, room_1, s, m, #[Value.ref b], below, meth, c, lw_Z below #[Value.ref b] s) b L xs := ⟨rfl, hX, by rw [hB]; exact hbl, by rw [hB]; exact Nat.le_refl _⟩
  have hEnd : ∀ (μ : Mem) (vs : List (Option Value)), vs.length = 4 → Zw G (p, l, e, room_1, s, m, #[Value.ref b], below, meth, c, lw_Z below #[Value.ref b] s) μ 970 vs [.int (nI 1)] := by
    intro μ vs _ hC H locs ls hH hS hLv
    show W p l e room_1 s m #[Value.ref b] below meth c H locs 157 1308 (lw_Z below #[Value.ref b] s) (F0 m 970 ls [.int (nI 1)])
    refine va_forget (fun q hq => by have := hS.2.2 q hq; unfold qA at this; rw [hB] at this; exact this) ?_
    exact W.widen (k := 600000) (n := 7302250) (by decide) (by decide) (lw_ret hx hb hr hlocks iL_law_970.1)
  have key := lw_made hXX (lw_loop hXX hL hEnd L 0 mu0 stZ (by omega) (by omega) cat_Z mat_Z)
  have hnw : qNw s := fun a i y hs hm => va_Nw.of rfl (hts _ hm)
  have hC : qC G (p, l, e, room_1, s, m, #[Value.ref b], below, meth, c, lw_Z below #[Value.ref b] s) cL_law RL 4 := ⟨hx, hb, hml, hown, fun w hw => hts w (List.mem_filter.mp hw).1, by rw [hG1]; exact Vm.Alike.refl _, hOK, by rw [hB]; exact Nat.le_refl _, hnw⟩
  have hl := lv_entry ([.ref b]) (n := 4) (Nat.le_of_ble_eq_true rfl)
  rw [lg_entry_eq]
  refine key hC s.heap [] _ ⟨by rw [hB]; rfl, fun i h => absurd h (Nat.not_lt_zero _), fun q _ => by rw [hG1]⟩ va_S.rf ?_
  refine LV.of (l := lv_args 0 [.ref b]) hl ?_
  intro i v hv
  rcases (show i = 0 ∨ i = 1 ∨ i = 2 ∨ i = 3 ∨ 4 ≤ i by omega) with rfl | rfl | rfl | rfl | h4
  · cases hv; exact List.mem_cons_self
  · cases hv
  · cases hv
  · cases hv
  · rw [List.getElem?_eq_none (by exact h4)] at hv
    cases hv

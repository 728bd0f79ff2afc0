/-! THE TEXT, kinds, moves, owners, prices; its fault -/
theorem c_X6_takesKind (G : qG) (l : Launch) {μ : Mem} {s : Rd} {c : Nat} {x : Int32} (hO : RdOK s) (hs : RdAt μ s) (hp : s.1 = 2) (hc : c < 256) (hx : (x < 0 ∧ c < 48) ∨ (48 ≤ c ∧ x = nI (c - 48))) : CtrI G l M_X6_takesKind [.ref (qB G + 18), .int x] μ (tkP s c μ) := by
  refine m_enterI [some (.ref (qB G + 18)), some (.int x)] (by decide +kernel) rfl (Nat.le_of_ble_eq_true rfl) (fun X hE hR => ?_)
  have hR : qR X = rm_X6_takesKind := hR
  have hE : EI G X _ (some .boolean) := hE
  show Zm G X cX6_takesKind RX6 _ 0 [some (.ref (qB G + 18)), some (.int x)] []
  obtain ⟨e1, ⟨d1, d2, d3, d4⟩, e3, e5⟩ := id hs
  have hf6 := hO.2.2.1 hp
  have eN : ¬ (48 ≤ c ∧ c - 48 ≤ 3) → rdStep s c = none := fun no => by unfold rdStep; rw [if_neg (by omega), if_neg (by omega), if_pos hp, if_neg no]
  refine z_iload_1 iX6_takesKind_0 ?_
  refine z_if_lt iX6_takesKind_1 (fun h0 => ?_) (fun h0 => ?_)
  · refine z_iconst iX6_takesKind_21 kI_0 ?_
    exact m_zret hE iX6_takesKind_22 rfl ⟨Fr.rf, Or.inr ⟨rfl, eN (fun z => by rcases hx with hx | hx; omega; exact nI_pos (n := c - 48) (by omega) (by rw [← hx.2]; exact h0))⟩⟩
  · obtain ⟨h48, rfl⟩ : 48 ≤ c ∧ x = nI (c - 48) := hx.elim (fun z => absurd z.1 h0) id
    refine z_iload_1 iX6_takesKind_4 ?_
    refine z_iconst iX6_takesKind_5 kI_3 ?_
    refine z_icmp_gtN iX6_takesKind_6 (by omega) (by omega) (fun q1 => ?_) (fun q1 => ?_)
    · refine z_iconst iX6_takesKind_21 kI_0 ?_
      exact m_zret hE iX6_takesKind_22 rfl ⟨Fr.rf, Or.inr ⟨rfl, eN (by omega)⟩⟩
    · refine z_aload_0 iX6_takesKind_9 ?_
      refine m_getR iX6_takesKind_10 g_6_9 rfl ?_
      refine m_getI iX6_takesKind_13 g_6_19 rfl ?_
      refine z_top (d1) ?_
      refine z_bipush iX6_takesKind_16 kB_6 ?_
      refine z_icmp_ltN iX6_takesKind_18 (by omega) (by omega) (fun q2 => ?_) (fun q2 => ?_)
      · have hfn := isFen_draft _ hf6
        refine z_aload_0 iX6_takesKind_23 ?_
        refine m_getR iX6_takesKind_24 g_6_9 rfl ?_
        refine m_getR iX6_takesKind_27 g_6_50 rfl ?_
        refine z_aload_0 iX6_takesKind_30 ?_
        refine m_getR iX6_takesKind_31 g_6_9 rfl ?_
        refine m_getI iX6_takesKind_34 g_6_19 rfl ?_
        refine z_top (d1) ?_
        refine m_aaldN iX6_takesKind_37 rfl (by decide) hf6 ?_
        refine z_iload_1 iX6_takesKind_38 ?_
        refine m_putI iX6_takesKind_39 p_6_54 hfn.1 ?_
        refine z_aload_0 iX6_takesKind_42 ?_
        refine z_iconst iX6_takesKind_43 kI_3 ?_
        refine m_putI iX6_takesKind_44 p_6_15 rfl ?_
        refine z_aload_0 iX6_takesKind_47 ?_
        refine z_iconst iX6_takesKind_48 kI_0 ?_
        refine m_putI iX6_takesKind_49 p_6_59 rfl ?_
        refine z_iconst iX6_takesKind_52 kI_1 ?_
        refine m_zret hE iX6_takesKind_53 rfl ⟨((Fr.rf.mw _ _ (dS_in (by omega))).mw _ _ (by decide)).mw _ _ (by decide), Or.inl ⟨rfl, _, by unfold rdStep; rw [if_neg (by omega), if_neg (by omega), if_pos hp, if_pos ⟨h48, q1⟩], ?_⟩⟩
        refine ⟨?_, ?_, fun _ => ⟨mw_same _ _ _ _, ?_, fun j hj => absurd hj (Nat.not_lt_zero j)⟩, fun z => by simp at z⟩
        · rw [mw_ne _ _ (Or.inr (by decide)), mw_same]
        · refine ⟨?_, ?_, fun f hf => ⟨?_, fun j hj => ?_⟩, fun g hg => ⟨?_, ?_⟩⟩
          · rw [mw_ne _ _ (Or.inl (by decide)), mw_ne _ _ (Or.inl (by decide)), mw_ne _ _ (Or.inl (by omega))]; exact d1
          · rw [mw_ne _ _ (Or.inl (by decide)), mw_ne _ _ (Or.inl (by decide)), mw_ne _ _ (Or.inl (by omega))]; exact d2
          · have hff : f < rFc s.2.2 := hf
            rw [mw_ne _ _ (Or.inl (by omega)), mw_ne _ _ (Or.inl (by omega)), mw_ne _ _ (Or.inl (by omega)), (d3 f hf).1]
            show _ = nI (updN (rKd s.2.2) (rFc s.2.2) (c - 48) f)
            unfold updN; rw [if_neg (by omega)]
          · rw [mw_ne _ _ (Or.inl (by omega)), mw_ne _ _ (Or.inl (by omega)), mw_ne _ _ (Or.inl (by omega))]; exact (d3 f hf).2 j hj
          · rw [mw_ne _ _ (Or.inl (by decide)), mw_ne _ _ (Or.inl (by decide)), mw_ne _ _ (Or.inl (by omega))]; exact (d4 g hg).1
          · rw [mw_ne _ _ (Or.inl (by decide)), mw_ne _ _ (Or.inl (by decide)), mw_ne _ _ (Or.inl (by omega))]; exact (d4 g hg).2
        · show (mw (mw (mw μ (6 + 2 * rFc s.2.2) 0 (nI (c - 48))) 18 1 (nI 3)) 18 2 (nI 0)).1 (6 + 2 * rFc s.2.2) 0 = nI (updN (rKd s.2.2) (rFc s.2.2) (c - 48) (rFc s.2.2))
          rw [mw_ne _ _ (Or.inl (by omega)), mw_ne _ _ (Or.inl (by omega)), mw_same]
          simp [updN]
      · omega
theorem c_X6_takesMove (G : qG) (l : Launch) {μ : Mem} {s : Rd} {c : Nat} (hO : RdOK s) (hs : RdAt μ s) (hp : s.1 = 3) (hc : c < 256) : CtrI G l M_X6_takesMove [.ref (qB G + 18), .int (nI (mvOf c))] μ (tkP s c μ) := by
  refine m_enterI [some (.ref (qB G + 18)), some (.int (nI (mvOf c)))] (by decide +kernel) rfl (Nat.le_of_ble_eq_true rfl) (fun X hE hR => ?_)
  have hR : qR X = rm_X6_takesMove := hR
  have hE : EI G X _ (some .boolean) := hE
  show Zm G X cX6_takesMove RX6 _ 0 [some (.ref (qB G + 18)), some (.int (nI (mvOf c)))] []
  obtain ⟨e1, ⟨d1, d2, d3, d4⟩, e3, e5⟩ := id hs
  obtain ⟨hf6, hm3, hk4, hmj⟩ := hO.2.2.2.1 hp
  obtain ⟨m1, m2, m3⟩ := e3 hp
  have hfn := isFen_draft _ hf6
  have hml := mvOf_lt c
  refine z_iload_1 iX6_takesMove_0 ?_
  refine z_if_eqN iX6_takesMove_1 (by omega) (fun q => ?_) (fun q => ?_)
  · refine z_iconst iX6_takesMove_24 kI_0 ?_
    exact m_zret hE iX6_takesMove_25 rfl ⟨Fr.rf, Or.inr ⟨rfl, by unfold rdStep; rw [if_neg (by omega), if_neg (by omega), if_neg (by omega), if_pos hp, if_neg (by omega)]⟩⟩
  · refine z_aload_0 iX6_takesMove_4 ?_
    refine m_getR iX6_takesMove_5 g_6_9 rfl ?_
    refine m_getI iX6_takesMove_8 g_6_19 rfl ?_
    refine z_top (d1) ?_
    refine z_bipush iX6_takesMove_11 kB_6 ?_
    refine z_icmp_geN iX6_takesMove_13 (by omega) (by omega) (fun q2 => ?_) (fun q2 => ?_)
    · omega
    · refine z_aload_0 iX6_takesMove_16 ?_
      refine m_getI iX6_takesMove_17 g_6_59 rfl ?_
      refine z_top (m1) ?_
      refine z_iconst iX6_takesMove_20 kI_3 ?_
      refine z_icmp_ltN iX6_takesMove_21 (by omega) (by omega) (fun q3 => ?_) (fun q3 => ?_)
      · refine z_aload_0 iX6_takesMove_26 ?_
        refine m_getR iX6_takesMove_27 g_6_9 rfl ?_
        refine m_getR iX6_takesMove_30 g_6_50 rfl ?_
        refine z_aload_0 iX6_takesMove_33 ?_
        refine m_getR iX6_takesMove_34 g_6_9 rfl ?_
        refine m_getI iX6_takesMove_37 g_6_19 rfl ?_
        refine z_top (d1) ?_
        refine m_aaldN iX6_takesMove_40 rfl (by decide) hf6 ?_
        refine m_getR iX6_takesMove_41 g_6_62 hfn.2.1 ?_
        refine z_aload_0 iX6_takesMove_44 ?_
        refine m_getI iX6_takesMove_45 g_6_59 rfl ?_
        refine z_top (m1) ?_
        refine z_iload_1 iX6_takesMove_48 ?_
        refine m_iastN iX6_takesMove_49 hfn.2.2.1 hm3 ?_
        refine z_aload_0 iX6_takesMove_50 ?_
        refine z_dup iX6_takesMove_51 rfl ?_
        refine m_getI iX6_takesMove_52 g_6_59 rfl ?_
        refine z_top ((mw_ne _ _ (Or.inl (by omega))).trans m1) ?_
        refine z_iconst iX6_takesMove_55 kI_1 ?_
        refine z_iaddN iX6_takesMove_56 ?_
        refine m_putI iX6_takesMove_57 p_6_59 rfl ?_
        refine z_aload_0 iX6_takesMove_60 ?_
        refine m_getI iX6_takesMove_61 g_6_59 rfl ?_
        refine z_top (mw_same _ _ _ _) ?_
        refine z_iconst iX6_takesMove_64 kI_3 ?_
        have rowOld : ∀ f, f < rFc s.2.2 → ∀ (μ2 : Mem), (∀ a, 6 ≤ a → a ≤ 17 → μ2.1 a = (mw (mw μ (6 + 2 * rFc s.2.2 + 1) s.2.1 (nI (mvOf c))) 18 2 (nI (s.2.1 + 1))).1 a) → μ2.1 (6 + 2 * f) 0 = nI (rKd s.2.2 f) ∧ ∀ j, j < 3 → μ2.1 (6 + 2 * f + 1) j = nI (if f = rFc s.2.2 ∧ j = s.2.1 then mvOf c else rMv s.2.2 f j) := by
          intro f hf μ2 h2
          refine ⟨?_, fun j hj => ?_⟩
          · rw [h2 _ (by omega) (by omega), mw_ne _ _ (Or.inl (by omega)), mw_ne _ _ (Or.inl (by omega))]; exact (d3 f hf).1
          · rw [h2 _ (by omega) (by omega), mw_ne _ _ (Or.inl (by omega)), mw_ne _ _ (Or.inl (by omega)), (d3 f hf).2 j hj, if_neg (fun z => by omega)]
        have rowNew : ∀ (μ2 : Mem), (∀ a, 6 ≤ a → a ≤ 17 → μ2.1 a = (mw (mw μ (6 + 2 * rFc s.2.2 + 1) s.2.1 (nI (mvOf c))) 18 2 (nI (s.2.1 + 1))).1 a) → μ2.1 (6 + 2 * rFc s.2.2) 0 = nI (rKd s.2.2 (rFc s.2.2)) ∧ ∀ j, j < s.2.1 + 1 → μ2.1 (6 + 2 * rFc s.2.2 + 1) j = nI (if rFc s.2.2 = rFc s.2.2 ∧ j = s.2.1 then mvOf c else rMv s.2.2 (rFc s.2.2) j) := by
          intro μ2 h2
          refine ⟨?_, fun j hj => ?_⟩
          · rw [h2 _ (by omega) (by omega), mw_ne _ _ (Or.inl (by omega)), mw_ne _ _ (Or.inl (by omega))]; exact m2
          · rw [h2 _ (by omega) (by omega), mw_ne _ _ (Or.inl (by omega))]
            by_cases e : j = s.2.1
            · rw [e, mw_same, if_pos ⟨rfl, rfl⟩]
            · rw [mw_ne _ _ (Or.inr e), if_neg (fun z => e z.2)]; exact m3 j (by omega)
        refine z_icmp_neN iX6_takesMove_65 (by omega) (by omega) (fun q4 => ?_) (fun q4 => ?_)
        · refine z_iconst iX6_takesMove_86 kI_1 ?_
          refine m_zret hE iX6_takesMove_87 rfl ⟨(Fr.rf.mw _ _ (dS_in (by omega))).mw _ _ (by decide), Or.inl ⟨rfl, _, by unfold rdStep; rw [if_neg (by omega), if_neg (by omega), if_neg (by omega), if_pos hp, if_pos q, if_neg (by omega)], ?_⟩⟩
          refine ⟨?_, ⟨?_, ?_, fun f hf => rowOld f hf _ (fun a _ _ => rfl), fun g hg => ⟨?_, ?_⟩⟩, fun _ => ⟨mw_same _ _ _ _, rowNew _ (fun a _ _ => rfl)⟩, fun z => by simp at z⟩
          · rw [mw_ne _ _ (Or.inr (by decide)), mw_ne _ _ (Or.inl (by omega)), e1, hp]
          · rw [mw_ne _ _ (Or.inl (by decide)), mw_ne _ _ (Or.inl (by omega))]; exact d1
          · rw [mw_ne _ _ (Or.inl (by decide)), mw_ne _ _ (Or.inl (by omega))]; exact d2
          · rw [mw_ne _ _ (Or.inl (by decide)), mw_ne _ _ (Or.inl (by omega))]; exact (d4 g hg).1
          · rw [mw_ne _ _ (Or.inl (by decide)), mw_ne _ _ (Or.inl (by omega))]; exact (d4 g hg).2
        · refine z_aload_0 iX6_takesMove_68 ?_
          refine m_getR iX6_takesMove_69 g_6_9 rfl ?_
          refine z_dup iX6_takesMove_72 rfl ?_
          refine m_getI iX6_takesMove_73 g_6_19 rfl ?_
          refine z_top ((mw_ne _ _ (Or.inl (by decide))).trans ((mw_ne _ _ (Or.inl (by omega))).trans d1)) ?_
          refine z_iconst iX6_takesMove_76 kI_1 ?_
          refine z_iaddN iX6_takesMove_77 ?_
          refine m_putI iX6_takesMove_78 p_6_19 rfl ?_
          refine z_aload_0 iX6_takesMove_81 ?_
          refine z_iconst iX6_takesMove_82 kI_1 ?_
          refine m_putI iX6_takesMove_83 p_6_15 rfl ?_
          refine z_iconst iX6_takesMove_86 kI_1 ?_
          refine m_zret hE iX6_takesMove_87 rfl ⟨(((Fr.rf.mw _ _ (dS_in (by omega))).mw _ _ (by decide)).mw _ _ (by decide)).mw _ _ (by decide), Or.inl ⟨rfl, _, by unfold rdStep; rw [if_neg (by omega), if_neg (by omega), if_neg (by omega), if_pos hp, if_pos q, if_pos (by omega)], ?_⟩⟩
          have hrow : ∀ a, 6 ≤ a → a ≤ 17 → (mw (mw (mw (mw μ (6 + 2 * rFc s.2.2 + 1) s.2.1 (nI (mvOf c))) 18 2 (nI (s.2.1 + 1))) 2 3 (nI (rFc s.2.2 + 1))) 18 1 (nI 1)).1 a = (mw (mw μ (6 + 2 * rFc s.2.2 + 1) s.2.1 (nI (mvOf c))) 18 2 (nI (s.2.1 + 1))).1 a := fun a g1 g2 => by rw [mw_other _ _ (by omega), mw_other _ _ (by omega)]
          refine ⟨mw_same _ _ _ _, ⟨?_, ?_, fun f hf => ?_, fun g hg => ⟨?_, ?_⟩⟩, fun z => by simp at z, fun z => by simp at z⟩
          · rw [mw_ne _ _ (Or.inl (by decide)), mw_same]; rfl
          · rw [mw_ne _ _ (Or.inl (by decide)), mw_ne _ _ (Or.inr (by decide)), mw_ne _ _ (Or.inl (by decide)), mw_ne _ _ (Or.inl (by omega))]; exact d2
          · have hff : f < rFc s.2.2 + 1 := hf
            by_cases e : f = rFc s.2.2
            · subst e
              have := rowNew _ hrow
              exact ⟨this.1, fun j hj => this.2 j (by omega)⟩
            · exact rowOld f (by omega) _ hrow
          · rw [mw_ne _ _ (Or.inl (by decide)), mw_ne _ _ (Or.inl (by decide)), mw_ne _ _ (Or.inl (by decide)), mw_ne _ _ (Or.inl (by omega))]; exact (d4 g hg).1
          · rw [mw_ne _ _ (Or.inl (by decide)), mw_ne _ _ (Or.inl (by decide)), mw_ne _ _ (Or.inl (by decide)), mw_ne _ _ (Or.inl (by omega))]; exact (d4 g hg).2
      · omega
theorem c_X6_takesOwner (G : qG) (l : Launch) {μ : Mem} {s : Rd} {c : Nat} {x : Int32} (hO : RdOK s) (hs : RdAt μ s) (hp : s.1 = 4) (hc : c < 256) (hx : (x < 0 ∧ c < 48) ∨ (48 ≤ c ∧ x = nI (c - 48))) : CtrI G l M_X6_takesOwner [.ref (qB G + 18), .int x] μ (tkP s c μ) := by
  refine m_enterI [some (.ref (qB G + 18)), some (.int x)] (by decide +kernel) rfl (Nat.le_of_ble_eq_true rfl) (fun X hE hR => ?_)
  have hR : qR X = rm_X6_takesOwner := hR
  have hE : EI G X _ (some .boolean) := hE
  show Zm G X cX6_takesOwner RX6 _ 0 [some (.ref (qB G + 18)), some (.int x)] []
  obtain ⟨e1, ⟨d1, d2, d3, d4⟩, e3, e5⟩ := id hs
  obtain ⟨hg5, hf0⟩ := hO.2.2.2.2.1 hp
  have h6 := hO.2.1.1
  have eN : ¬ (48 ≤ c ∧ c - 48 < rFc s.2.2) → rdStep s c = none := fun no => by unfold rdStep; rw [if_neg (by omega), if_neg (by omega), if_neg (by omega), if_neg (by omega), if_pos hp, if_neg no]
  refine z_aload_0 iX6_takesOwner_0 ?_
  refine m_getR iX6_takesOwner_1 g_6_9 rfl ?_
  refine z_iload_1 iX6_takesOwner_4 ?_
  refine m_callVi iX6_takesOwner_5 l_6_66 f_X7_hasFencer (c_X7_hasFencer G _ rfl d1 (by omega) x) rfl rfl rfl (Nat.le_of_ble_eq_true rfl) hR ft_X6_takesOwner_X7_hasFencer ⟨rfl, rfl⟩ ?_
  rintro r μ1 ⟨rfl, h | h⟩
  · obtain ⟨rfl, f, hf, rfl⟩ := h
    obtain ⟨h48, hxe⟩ : 48 ≤ c ∧ nI f = nI (c - 48) := hx.elim (fun z => absurd z.1 (nI_pos (by omega))) id
    have hfe : f = c - 48 := (nI_eq (by omega) (by omega)).mp hxe
    subst hfe
    refine z_if_eq iX6_takesOwner_8 (fun q => ?_) (fun q => ?_)
    · exact absurd q nI10
    · refine z_aload_0 iX6_takesOwner_11 ?_
      refine m_getR iX6_takesOwner_12 g_6_9 rfl ?_
      refine m_getI iX6_takesOwner_15 g_6_24 rfl ?_
      refine z_top (d2) ?_
      refine z_iconst iX6_takesOwner_18 kI_5 ?_
      refine z_icmp_ltN iX6_takesOwner_19 (by omega) (by omega) (fun q2 => ?_) (fun q2 => ?_)
      · refine z_aload_0 iX6_takesOwner_24 ?_
        refine m_getR iX6_takesOwner_25 g_6_9 rfl ?_
        refine m_getR iX6_takesOwner_28 g_6_69 rfl ?_
        refine z_aload_0 iX6_takesOwner_31 ?_
        refine m_getR iX6_takesOwner_32 g_6_9 rfl ?_
        refine m_getI iX6_takesOwner_35 g_6_24 rfl ?_
        refine z_top (d2) ?_
        refine z_iload_1 iX6_takesOwner_38 ?_
        refine m_iastN iX6_takesOwner_39 rfl hg5 ?_
        refine z_aload_0 iX6_takesOwner_40 ?_
        refine z_iconst iX6_takesOwner_41 kI_5 ?_
        refine m_putI iX6_takesOwner_42 p_6_15 rfl ?_
        refine z_iconst iX6_takesOwner_45 kI_1 ?_
        refine m_zret hE iX6_takesOwner_46 rfl ⟨(Fr.rf.mw _ _ (by decide)).mw _ _ (by decide), Or.inl ⟨rfl, _, by unfold rdStep; rw [if_neg (by omega), if_neg (by omega), if_neg (by omega), if_neg (by omega), if_pos hp, if_pos ⟨h48, hf⟩], ?_⟩⟩
        refine ⟨mw_same _ _ _ _, ⟨?_, ?_, fun f hf => ⟨?_, fun j hj => ?_⟩, fun g hg => ⟨?_, ?_⟩⟩, fun z => by simp at z, fun _ => ?_⟩
        · rw [mw_ne _ _ (Or.inl (by decide)), mw_ne _ _ (Or.inl (by decide))]; exact d1
        · rw [mw_ne _ _ (Or.inl (by decide)), mw_ne _ _ (Or.inl (by decide))]; exact d2
        · have hff : f < rFc s.2.2 := hf
          rw [mw_ne _ _ (Or.inl (by omega)), mw_ne _ _ (Or.inl (by omega))]; exact (d3 f hf).1
        · have hff : f < rFc s.2.2 := hf
          rw [mw_ne _ _ (Or.inl (by omega)), mw_ne _ _ (Or.inl (by omega))]; exact (d3 f hf).2 j hj
        · rw [mw_ne _ _ (Or.inl (by decide)), mw_ne _ _ (Or.inl (by decide))]; exact (d4 g hg).1
        · have hgg : g < rGc s.2.2 := hg
          rw [mw_ne _ _ (Or.inl (by decide)), mw_ne _ _ (Or.inr (by omega)), (d4 g hg).2]
          show _ = nI (updN (rTl s.2.2) (rGc s.2.2) (c - 48) g)
          unfold updN; rw [if_neg (by omega)]
        · show (mw (mw μ1 5 (rGc s.2.2) (nI (c - 48))) 18 1 (nI 5)).1 5 (rGc s.2.2) = nI (updN (rTl s.2.2) (rGc s.2.2) (c - 48) (rGc s.2.2))
          rw [mw_ne _ _ (Or.inl (by decide)), mw_same]
          simp [updN]
      · omega
  · obtain ⟨rfl, h⟩ := h
    refine z_if_eq iX6_takesOwner_8 (fun q => ?_) (fun q => ?_)
    · refine z_iconst iX6_takesOwner_22 kI_0 ?_
      exact m_zret hE iX6_takesOwner_23 rfl ⟨Fr.rf, Or.inr ⟨rfl, eN (fun z => hx.elim (fun w => by omega) (fun w => h _ z.2 w.2))⟩⟩
    · exact absurd nI00 q
theorem c_X6_takesPrice (G : qG) (l : Launch) {μ : Mem} {s : Rd} {c : Nat} {x : Int32} (hO : RdOK s) (hs : RdAt μ s) (hp : s.1 = 5) (hc : c < 256) (hx : (x < 0 ∧ c < 48) ∨ (48 ≤ c ∧ x = nI (c - 48))) : CtrI G l M_X6_takesPrice [.ref (qB G + 18), .int x] μ (tkP s c μ) := by
  refine m_enterI [some (.ref (qB G + 18)), some (.int x)] (by decide +kernel) rfl (Nat.le_of_ble_eq_true rfl) (fun X hE hR => ?_)
  have hR : qR X = rm_X6_takesPrice := hR
  have hE : EI G X _ (some .boolean) := hE
  show Zm G X cX6_takesPrice RX6 _ 0 [some (.ref (qB G + 18)), some (.int x)] []
  obtain ⟨e1, ⟨d1, d2, d3, d4⟩, e3, e5⟩ := id hs
  obtain ⟨hg5, hf0⟩ := hO.2.2.2.2.2 hp
  have h6 := hO.2.1.1
  have eN : ¬ (48 ≤ c ∧ c - 48 ≤ 9) → rdStep s c = none := fun no => by unfold rdStep; rw [if_neg (by omega), if_neg (by omega), if_neg (by omega), if_neg (by omega), if_neg (by omega), if_neg no]
  refine z_iload_1 iX6_takesPrice_0 ?_
  refine z_if_lt iX6_takesPrice_1 (fun h0 => ?_) (fun h0 => ?_)
  · refine z_iconst iX6_takesPrice_21 kI_0 ?_
    exact m_zret hE iX6_takesPrice_22 rfl ⟨Fr.rf, Or.inr ⟨rfl, eN (fun z => by rcases hx with hx | hx; omega; exact nI_pos (n := c - 48) (by omega) (by rw [← hx.2]; exact h0))⟩⟩
  · obtain ⟨h48, rfl⟩ : 48 ≤ c ∧ x = nI (c - 48) := hx.elim (fun z => absurd z.1 h0) id
    refine z_iload_1 iX6_takesPrice_4 ?_
    refine z_bipush iX6_takesPrice_5 kB_9 ?_
    refine z_icmp_gtN iX6_takesPrice_7 (by omega) (by omega) (fun q1 => ?_) (fun q1 => ?_)
    · refine z_iconst iX6_takesPrice_21 kI_0 ?_
      exact m_zret hE iX6_takesPrice_22 rfl ⟨Fr.rf, Or.inr ⟨rfl, eN (by omega)⟩⟩
    · refine z_aload_0 iX6_takesPrice_10 ?_
      refine m_getR iX6_takesPrice_11 g_6_9 rfl ?_
      refine m_getI iX6_takesPrice_14 g_6_24 rfl ?_
      refine z_top (d2) ?_
      refine z_iconst iX6_takesPrice_17 kI_5 ?_
      refine z_icmp_ltN iX6_takesPrice_18 (by omega) (by omega) (fun q2 => ?_) (fun q2 => ?_)
      · refine z_aload_0 iX6_takesPrice_23 ?_
        refine m_getR iX6_takesPrice_24 g_6_9 rfl ?_
        refine m_getR iX6_takesPrice_27 g_6_72 rfl ?_
        refine z_aload_0 iX6_takesPrice_30 ?_
        refine m_getR iX6_takesPrice_31 g_6_9 rfl ?_
        refine m_getI iX6_takesPrice_34 g_6_24 rfl ?_
        refine z_top (d2) ?_
        refine z_iload_1 iX6_takesPrice_37 ?_
        refine m_iastN iX6_takesPrice_38 rfl hg5 ?_
        refine z_aload_0 iX6_takesPrice_39 ?_
        refine m_getR iX6_takesPrice_40 g_6_9 rfl ?_
        refine z_dup iX6_takesPrice_43 rfl ?_
        refine m_getI iX6_takesPrice_44 g_6_24 rfl ?_
        refine z_top ((mw_ne _ _ (Or.inl (by decide))).trans d2) ?_
        refine z_iconst iX6_takesPrice_47 kI_1 ?_
        refine z_iaddN iX6_takesPrice_48 ?_
        refine m_putI iX6_takesPrice_49 p_6_24 rfl ?_
        refine z_aload_0 iX6_takesPrice_52 ?_
        refine z_iconst iX6_takesPrice_53 kI_1 ?_
        refine m_putI iX6_takesPrice_54 p_6_15 rfl ?_
        refine z_iconst iX6_takesPrice_57 kI_1 ?_
        refine m_zret hE iX6_takesPrice_58 rfl ⟨((Fr.rf.mw _ _ (by decide)).mw _ _ (by decide)).mw _ _ (by decide), Or.inl ⟨rfl, _, by unfold rdStep; rw [if_neg (by omega), if_neg (by omega), if_neg (by omega), if_neg (by omega), if_neg (by omega), if_pos ⟨h48, q1⟩], ?_⟩⟩
        refine ⟨mw_same _ _ _ _, ⟨?_, ?_, fun f hf => ⟨?_, fun j hj => ?_⟩, fun g hg => ?_⟩, fun z => by simp at z, fun z => by simp at z⟩
        · rw [mw_ne _ _ (Or.inl (by decide)), mw_ne _ _ (Or.inr (by decide)), mw_ne _ _ (Or.inl (by decide))]; exact d1
        · rw [mw_ne _ _ (Or.inl (by decide)), mw_same]; rfl
        · have hff : f < rFc s.2.2 := hf
          rw [mw_ne _ _ (Or.inl (by omega)), mw_ne _ _ (Or.inl (by omega)), mw_ne _ _ (Or.inl (by omega))]; exact (d3 f hf).1
        · have hff : f < rFc s.2.2 := hf
          rw [mw_ne _ _ (Or.inl (by omega)), mw_ne _ _ (Or.inl (by omega)), mw_ne _ _ (Or.inl (by omega))]; exact (d3 f hf).2 j hj
        · have hgg : g < rGc s.2.2 + 1 := hg
          show _ = nI (updN (rPr s.2.2) (rGc s.2.2) (c - 48) g) ∧ _ = nI (rTl s.2.2 g)
          refine ⟨?_, ?_⟩
          · rw [mw_ne _ _ (Or.inl (by decide)), mw_ne _ _ (Or.inl (by decide))]
            by_cases e : g = rGc s.2.2
            · rw [e, mw_same]; simp [updN]
            · rw [mw_ne _ _ (Or.inr e), (d4 g (by omega)).1]; simp [updN, e]
          · rw [mw_ne _ _ (Or.inl (by decide)), mw_ne _ _ (Or.inl (by decide)), mw_ne _ _ (Or.inl (by decide))]
            by_cases e : g = rGc s.2.2
            · rw [e]; exact e5 hp
            · exact (d4 g (by omega)).2
      · omega
theorem q_m48 {c : Nat} (hc : c < 256) : (nI c - nI 48 < 0 ∧ c < 48) ∨ (48 ≤ c ∧ nI c - nI 48 = nI (c - 48)) := by
  by_cases h : 48 ≤ c
  · exact Or.inr ⟨h, pk_sub h⟩
  · exact Or.inl ⟨pk_sneg (by decide) (by omega), by omega⟩
/-- Reader.takes -/
theorem c_X6_takes (G : qG) (l : Launch) {μ : Mem} {s : Rd} {c : Nat} (hO : RdOK s) (hs : RdAt μ s) (hc : c < 256) : CtrI G l M_X6_takes [.ref (qB G + 18), .int (nI c)] μ (tkP s c μ) := by
  refine m_enterI [some (.ref (qB G + 18)), some (.int (nI c))] (by decide +kernel) rfl (Nat.le_of_ble_eq_true rfl) (fun X hE hR => ?_)
  have hR : qR X = rm_X6_takes := hR
  have hE : EI G X _ (some .boolean) := hE
  show Zm G X cX6_takes RX6 _ 0 [some (.ref (qB G + 18)), some (.int (nI c))] []
  obtain ⟨e1, ⟨d1, d2, d3, d4⟩, e3, e5⟩ := id hs
  have h0 := hO.1
  refine z_aload_0 iX6_takes_0 ?_
  refine m_getI iX6_takes_1 g_6_15 rfl ?_
  refine z_top (e1) ?_
  have b01 : narrow .boolean (.int (nI 0)) = .int (nI 0) := rfl
  have b11 : narrow .boolean (.int (nI 1)) = .int (nI 1) := rfl
  have fin : ∀ (pc : Nat) (hi : In cX6_takes pc (.ireturn) 1 (pc + 1)) (r : Int32) (μ1 : Mem), tkP s c μ r μ1 → Zm G X cX6_takes RX6 μ1 pc [some (.ref (qB G + 18)), some (.int (nI c))] [.int r] := by
    intro pc hi r μ1 h
    refine m_zret hE hi ?_ h
    rcases h.2 with ⟨rfl, -⟩ | ⟨rfl, -⟩
    · exact b11
    · exact b01
  rcases (show s.1 = 0 ∨ s.1 = 1 ∨ s.1 = 2 ∨ s.1 = 3 ∨ s.1 = 4 ∨ s.1 = 5 by omega) with hp | hp | hp | hp | hp | hp
  · rw [hp]
    refine z_tableIn (off := 36) (tgt := 40) iX6_takes_4 (by decide) (by decide) (by decide) (by decide) ?_
    refine z_aload_0 iX6_takes_40 ?_
    refine z_iconst iX6_takes_41 kI_1 ?_
    refine m_putI iX6_takes_42 p_6_15 rfl ?_
    refine z_iload_1 iX6_takes_45 ?_
    refine z_bipush iX6_takes_46 kB_66 ?_
    refine z_icmp_neN iX6_takes_48 (by omega) (by omega) (fun q => ?_) (fun q => ?_)
    · refine z_iconst iX6_takes_55 kI_0 ?_
      exact m_zret hE iX6_takes_56 rfl ⟨Fr.rf.mw _ _ (by decide), Or.inr ⟨rfl, by unfold rdStep; rw [if_pos hp, if_neg (by omega)]⟩⟩
    · refine z_iconst iX6_takes_51 kI_1 ?_
      refine z_goto iX6_takes_52 ?_
      exact m_zret hE iX6_takes_56 rfl ⟨Fr.rf.mw _ _ (by decide), Or.inl ⟨rfl, (1, s.2.1, s.2.2), by unfold rdStep; rw [if_pos hp, if_pos q], ⟨mw_same _ _ _ _, hs.2.1.kept (mw_ne _ _ (Or.inl (by decide))) (mw_ne _ _ (Or.inl (by decide))) (fun g hg => ⟨mw_ne _ _ (Or.inl (by decide)), mw_ne _ _ (Or.inl (by decide))⟩) (fun f hf => ⟨mw_ne _ _ (Or.inl (by have := hO.2.1.1; omega)), fun j hj => mw_ne _ _ (Or.inl (by have := hO.2.1.1; omega))⟩), fun z => by simp at z, fun z => by simp at z⟩⟩⟩
  · rw [hp]
    refine z_tableIn (off := 53) (tgt := 57) iX6_takes_4 (by decide) (by decide) (by decide) (by decide) ?_
    refine z_aload_0 iX6_takes_57 ?_
    refine z_iload_1 iX6_takes_58 ?_
    refine m_callVi iX6_takes_59 l_6_31 f_X6_takesPart (c_X6_takesPart G _ hO hs hp hc) rfl rfl rfl (Nat.le_of_ble_eq_true rfl) hR ft_X6_takes_X6_takesPart ⟨rfl, rfl⟩ ?_
    intro r μ1 h
    exact fin 62 iX6_takes_62 r μ1 h
  · rw [hp]
    refine z_tableIn (off := 59) (tgt := 63) iX6_takes_4 (by decide) (by decide) (by decide) (by decide) ?_
    refine z_aload_0 iX6_takes_63 ?_
    refine z_iload_1 iX6_takes_64 ?_
    refine z_bipush iX6_takes_65 kB_48 ?_
    refine z_isub iX6_takes_67 ?_
    refine m_callVi iX6_takes_68 l_6_34 f_X6_takesKind (c_X6_takesKind G _ hO hs hp hc (q_m48 hc)) rfl rfl rfl (Nat.le_of_ble_eq_true rfl) hR ft_X6_takes_X6_takesKind ⟨rfl, rfl⟩ ?_
    intro r μ1 h
    exact fin 71 iX6_takes_71 r μ1 h
  · rw [hp]
    refine z_tableIn (off := 68) (tgt := 72) iX6_takes_4 (by decide) (by decide) (by decide) (by decide) ?_
    refine z_aload_0 iX6_takes_72 ?_
    refine z_iload_1 iX6_takes_73 ?_
    refine m_callSi iX6_takes_74 l_6_37 f_X6_moveOf (c_X6_moveOf G _ hc) rfl rfl (Nat.le_of_ble_eq_true rfl) hR ft_X6_takes_X6_moveOf ⟨rfl, rfl⟩ ?_
    rintro r μ1 ⟨rfl, rfl⟩
    refine m_callVi iX6_takes_77 l_6_41 f_X6_takesMove (c_X6_takesMove G _ hO hs hp hc) rfl rfl rfl (Nat.le_of_ble_eq_true rfl) hR ft_X6_takes_X6_takesMove ⟨rfl, rfl⟩ ?_
    intro r μ1 h
    exact fin 80 iX6_takes_80 r μ1 h
  · rw [hp]
    refine z_tableIn (off := 77) (tgt := 81) iX6_takes_4 (by decide) (by decide) (by decide) (by decide) ?_
    refine z_aload_0 iX6_takes_81 ?_
    refine z_iload_1 iX6_takes_82 ?_
    refine z_bipush iX6_takes_83 kB_48 ?_
    refine z_isub iX6_takes_85 ?_
    refine m_callVi iX6_takes_86 l_6_44 f_X6_takesOwner (c_X6_takesOwner G _ hO hs hp hc (q_m48 hc)) rfl rfl rfl (Nat.le_of_ble_eq_true rfl) hR ft_X6_takes_X6_takesOwner ⟨rfl, rfl⟩ ?_
    intro r μ1 h
    exact fin 89 iX6_takes_89 r μ1 h
  · rw [hp]
    refine z_tableOut (tgt := 90) iX6_takes_4 (by decide) (by decide) ?_
    refine z_aload_0 iX6_takes_90 ?_
    refine z_iload_1 iX6_takes_91 ?_
    refine z_bipush iX6_takes_92 kB_48 ?_
    refine z_isub iX6_takes_94 ?_
    refine m_callVi iX6_takes_95 l_6_47 f_X6_takesPrice (c_X6_takesPrice G _ hO hs hp hc (q_m48 hc)) rfl rfl rfl (Nat.le_of_ble_eq_true rfl) hR ft_X6_takes_X6_takesPrice ⟨rfl, rfl⟩ ?_
    intro r μ1 h
    exact fin 98 iX6_takes_98 r μ1 h
/-- the text read on from letter i: the place of the fault (none: a bazaar), and the state -/
def rdRun (tx : Nat → Nat) : Nat → Nat → Rd → Option Nat × Rd
  | 0, i, s => (if s.1 = 1 then none else some i, s)
  | n + 1, i, s => match rdStep s (tx i) with
    | none => (some i, s)
    | some s' => rdRun tx n (i + 1) s'
def rd0 : Rd := (0, 0, (0, 0, fun _ => 0, fun _ _ => 0, fun _ => 0, fun _ => 0))
def faultI (o : Option Nat) : Int32 := match o with
  | none => -9
  | some i => nI i
theorem rd0_ok : RdOK rd0 := ⟨by decide, ⟨by decide, by decide, fun f hf => absurd hf (Nat.not_lt_zero f), fun g hg => absurd hg (Nat.not_lt_zero g)⟩, by decide, by decide, by decide, by decide⟩
/-- Reader.faultOf -/
theorem c_X6_faultOf (G : qG) (l : Launch) {μ : Mem} {tx : Nat → Nat} {ln : Nat} (hln : ln ≤ 52) (ht : ∀ i, i < ln → μ.1 1 i = nI (tx i) ∧ tx i < 256) : CtrI G l M_X6_faultOf [.ref (qB G + 18), .ref (qB G + 1), .int (nI ln)] μ (fun r μ' => Fr dS μ μ' ∧ r = faultI (rdRun tx ln 0 rd0).1 ∧ ((rdRun tx ln 0 rd0).1 = none → RlOK (rdRun tx ln 0 rd0).2.2.2 ∧ DraftAt μ' (rdRun tx ln 0 rd0).2.2.2)) := by
  refine m_enterI [some (.ref (qB G + 18)), some (.ref (qB G + 1)), some (.int (nI ln)), none] (by decide +kernel) rfl (Nat.le_of_ble_eq_true rfl) (fun X hE hR => ?_)
  have hR : qR X = rm_X6_faultOf := hR
  have hE : EI G X _ (some .int) := hE
  show Zm G X cX6_faultOf RX6 _ 0 [some (.ref (qB G + 18)), some (.ref (qB G + 1)), some (.int (nI ln)), none] []
  have loop : ∀ (n i : Nat) (s : Rd) (μ1 : Mem), n + i = ln → RdOK s → RdAt μ1 s → Fr dS μ μ1 → rdRun tx n i s = rdRun tx ln 0 rd0 → Zm G X cX6_faultOf RX6 μ1 23 [some (.ref (qB G + 18)), some (.ref (qB G + 1)), some (.int (nI ln)), some (.int (nI i))] [] := by
    intro n
    induction n with
    | zero =>
      intro i s μ1 hi hO hs hF he
      refine z_iload_3 iX6_faultOf_23 ?_
      refine z_iload_2 iX6_faultOf_24 ?_
      refine z_icmp_geN iX6_faultOf_25 (by omega) (by omega) (fun q => ?_) (fun q => ?_)
      · have h0 := hO.1
        refine z_aload_0 iX6_faultOf_52 ?_
        refine m_getI iX6_faultOf_53 g_6_15 rfl ?_
        refine z_top (hs.1) ?_
        refine z_iconst iX6_faultOf_56 kI_1 ?_
        refine z_icmp_neN iX6_faultOf_57 (by omega) (by omega) (fun q2 => ?_) (fun q2 => ?_)
        · refine z_iload_2 iX6_faultOf_65 ?_
          have e1 : rdRun tx 0 i s = (some i, s) := by unfold rdRun; rw [if_neg q2]
          refine m_iret hE iX6_faultOf_66 ⟨hF, by rw [← he, e1, show ln = i by omega]; rfl, fun z => by rw [← he, e1] at z; cases z⟩
        · refine z_bipush (x := -9) iX6_faultOf_60 (by decide) ?_
          refine z_goto iX6_faultOf_62 ?_
          have e1 : rdRun tx 0 i s = (none, s) := by unfold rdRun; rw [if_pos q2]
          refine m_iret hE iX6_faultOf_66 ⟨hF, by rw [← he, e1]; rfl, fun _ => by rw [← he, e1]; exact ⟨hO.2.1, hs.2.1⟩⟩
      · omega
    | succ n ih =>
      intro i s μ1 hi hO hs hF he
      have hi' := ht i (by omega)
      refine z_iload_3 iX6_faultOf_23 ?_
      refine z_iload_2 iX6_faultOf_24 ?_
      refine z_icmp_geN iX6_faultOf_25 (by omega) (by omega) (fun q => ?_) (fun q => ?_)
      · omega
      · refine z_iload_3 iX6_faultOf_28 ?_
        refine z_aload_1 iX6_faultOf_29 ?_
        refine m_alen (k := 0) iX6_faultOf_30 rfl ?_
        refine z_icmp_geN iX6_faultOf_31 (by omega) (by omega) (fun q2 => ?_) (fun q2 => ?_)
        · omega
        · refine z_aload_0 iX6_faultOf_34 ?_
          refine z_aload_1 iX6_faultOf_35 ?_
          refine z_iload_3 iX6_faultOf_36 ?_
          refine m_ialdN iX6_faultOf_37 rfl (by omega) ?_
          refine z_top ((show _ = nI (tx i) from by rw [hF.1 1 (by decide)]; exact hi'.1)) ?_
          refine m_callVi iX6_faultOf_38 l_6_27 f_X6_takes (c_X6_takes G _ hO hs hi'.2) rfl rfl rfl (Nat.le_of_ble_eq_true rfl) hR ft_X6_faultOf_X6_takes ⟨rfl, rfl⟩ ?_
          rintro r μ2 ⟨hF2, ⟨rfl, s', e1, hs'⟩ | ⟨rfl, e1⟩⟩
          · refine z_if_ne iX6_faultOf_41 (fun q3 => ?_) (fun q3 => ?_)
            · refine z_iinc_3N iX6_faultOf_46 rfl ?_
              refine z_goto iX6_faultOf_49 ?_
              refine ih (i + 1) s' μ2 (by omega) (rdStep_ok hO e1) hs' (hF.trans hF2) ?_
              rw [← he]
              simp only [rdRun, e1]
            · exact absurd q3 nI10
          · refine z_if_ne iX6_faultOf_41 (fun q3 => ?_) (fun q3 => ?_)
            · exact absurd nI00 q3
            · have e2 : rdRun tx (n + 1) i s = (some i, s) := by simp only [rdRun, e1]
              refine z_iload_3 iX6_faultOf_44 ?_
              refine m_iret hE iX6_faultOf_45 ⟨hF.trans hF2, by rw [← he, e2]; rfl, fun z => by rw [← he, e2] at z; cases z⟩
  refine z_aload_0 iX6_faultOf_0 ?_
  refine z_iconst iX6_faultOf_1 kI_0 ?_
  refine m_putI iX6_faultOf_2 p_6_15 rfl ?_
  refine z_aload_0 iX6_faultOf_5 ?_
  refine m_getR iX6_faultOf_6 g_6_9 rfl ?_
  refine z_iconst iX6_faultOf_9 kI_0 ?_
  refine m_putI iX6_faultOf_10 p_6_19 rfl ?_
  refine z_aload_0 iX6_faultOf_13 ?_
  refine m_getR iX6_faultOf_14 g_6_9 rfl ?_
  refine z_iconst iX6_faultOf_17 kI_0 ?_
  refine m_putI iX6_faultOf_18 p_6_24 rfl ?_
  refine z_iconst iX6_faultOf_21 kI_0 ?_
  refine z_istore_3 iX6_faultOf_22 rfl ?_
  refine loop ln 0 rd0 _ (by omega) rd0_ok ⟨?_, ⟨?_, ?_, fun f hf => absurd hf (Nat.not_lt_zero f), fun g hg => absurd hg (Nat.not_lt_zero g)⟩, (fun z => by cases z), (fun z => by cases z)⟩ (((Fr.rf.mw _ _ (by decide)).mw _ _ (by decide)).mw _ _ (by decide)) rfl
  · rw [mw_ne _ _ (Or.inl (by decide)), mw_ne _ _ (Or.inl (by decide)), mw_same]; rfl
  · rw [mw_ne _ _ (Or.inr (by decide)), mw_same]; rfl
  · rw [mw_same]; rfl

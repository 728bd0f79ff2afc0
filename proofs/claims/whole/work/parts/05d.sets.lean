/-! sets as bits; leads of all over all -/
def bset (p : Nat → Bool) : Nat → Nat
  | 0 => 0
  | n + 1 => bset p n + (if p n then 2 ^ n else 0)
theorem bset_lt (p : Nat → Bool) : ∀ n, bset p n < 2 ^ n
  | 0 => by show 0 < 1; decide
  | n + 1 => by
    have := bset_lt p n
    unfold bset
    rw [Nat.pow_succ]
    split <;> omega
theorem q_or : ∀ g, g < 6 → ∀ b, b < 64 → b < 2 ^ g → nI b ||| (nI 1 <<< (nI g &&& 31)) = nI (b + 2 ^ g) := by decide +kernel
theorem bset_or {p : Nat → Bool} {g : Nat} (hg : g < 6) (hp : p g = true) : nI (bset p g) ||| (nI 1 <<< (nI g &&& 31)) = nI (bset p (g + 1)) := by
  have h := bset_lt p g
  have h64 : (2 : Nat) ^ g ≤ 64 := by
    have : (2 : Nat) ^ g ≤ 2 ^ 6 := Nat.pow_le_pow_right (by decide) (by omega)
    omega
  rw [q_or g hg _ (by omega) h]
  simp [bset, hp]
theorem bset_no {p : Nat → Bool} {g : Nat} (hp : p g = false) : bset p (g + 1) = bset p g := by simp [bset, hp]
theorem fIt_sw (F1 F2 : Fe) : ∀ p, fIt F2 F1 p = ((fIt F1 F2 p).2.1, (fIt F1 F2 p).1, (fIt F1 F2 p).2.2.2, (fIt F1 F2 p).2.2.1)
  | 0 => rfl
  | p + 1 => by
    show fNext F2 F1 p (fIt F2 F1 p) = _
    rw [fIt_sw F1 F2 p]
    rfl
theorem fLen_sw (F1 F2 : Fe) (en : Nat) : ∀ n p, fLen F2 F1 en n p = fLen F1 F2 en n p
  | 0, _ => rfl
  | n + 1, p => by
    unfold fLen
    rw [fIt_sw F1 F2 p, fLen_sw F1 F2 en n (p + 1)]
    by_cases h1 : en ≤ (fIt F1 F2 p).2.2.1 <;> by_cases h2 : en ≤ (fIt F1 F2 p).2.2.2 <;> simp [h1, h2]
theorem bLen_sw (F1 F2 : Fe) : bLen F2 F1 = bLen F1 F2 := fLen_sw F1 F2 3 9 0
theorem bH1_sw (F1 F2 : Fe) : bH1 F2 F1 = bH2 F1 F2 := by unfold bH1 bH2; rw [bLen_sw F1 F2, fIt_sw F1 F2]
theorem bH2_sw (F1 F2 : Fe) : bH2 F2 F1 = bH1 F1 F2 := by unfold bH1 bH2; rw [bLen_sw F1 F2, fIt_sw F1 F2]
/-- the lead of one over another, as an int -/
def ld (R : Rl) (H : Hd) (i j : Nat) : Int32 := nI (bH1 (feOf R H i) (feOf R H j)) - nI (bH2 (feOf R H i) (feOf R H j))
theorem ld_self (R : Rl) (H : Hd) (i : Nat) : ld R H i i = nI 0 := by
  unfold ld
  rw [← bH1_sw (feOf R H i) (feOf R H i), pk_sub (Nat.le_refl _), Nat.sub_self]
theorem ld_neg (R : Rl) (H : Hd) (i j : Nat) : - ld R H i j = ld R H j i := by
  unfold ld
  rw [bH1_sw (feOf R H i) (feOf R H j), bH2_sw (feOf R H i) (feOf R H j)]
  grind
theorem ld_le {R : Rl} {H : Hd} {i j : Nat} : ld R H i j ≤ 0 ↔ ¬ bt R H i j := by
  have h := bH_le (feOf R H i) (feOf R H j)
  unfold ld bt
  rw [q_sign (by omega) (by omega)]
  omega
def LeadsAt (μ : Mem) (s : Nat) (R : Rl) (H : Hd) : Prop := ∀ i j, i < rFc R → j < rFc R → μ.1 (s + 6 + 1 * i) j = ld R H i j
/-- the rows that comparing changes -/
def cS (s : Nat) : List Nat := [35, 36, s + 6, s + 7, s + 8, s + 9, s + 10, s + 11]
theorem cS_in {s i : Nat} (h : i < 6) : s + 6 + 1 * i ∈ cS s := by
  unfold cS
  rcases (show i = 0 ∨ i = 1 ∨ i = 2 ∨ i = 3 ∨ i = 4 ∨ i = 5 by omega) with rfl | rfl | rfl | rfl | rfl | rfl <;> simp
/-- Salle.goodsOf -/
theorem c_X8_goodsOf (G : qG) (l : Launch) {μ : Mem} {s f : Nat} {R : Rl} {H : Hd} (hs : isSal s) (hR0 : RlOK R) (hH0 : HdOK R H) (hR1 : RollAt μ R) (hH1 : HoldAt μ (s + 1) R H) (hf : f < 1000) : CtrI G l M_X8_goodsOf [.ref (qB G + s), .int (nI f)] μ (fun r μ' => μ' = μ ∧ r = nI (bset (fun g => decide (hOw H g = f)) (rGc R))) := by
  refine m_enterI [some (.ref (qB G + s)), some (.int (nI f)), none, none] (by decide +kernel) rfl (Nat.le_of_ble_eq_true rfl) (fun X hE hR => ?_)
  have hR : qR X = rm_X8_goodsOf := hR
  have hE : EI G X _ (some .int) := hE
  show Zm G X cX8_goodsOf RX8 _ 0 [some (.ref (qB G + s)), some (.int (nI f)), none, none] []
  obtain ⟨s0, s1, s2, s3, sC, ⟨f0, f1, f2, f3, a1, a2, a3, -⟩, -⟩ := id hs
  have h6 := hR0.1
  have h5 := hR0.2.1
  have loop : ∀ (n g : Nat), n + g = rGc R → Zm G X cX8_goodsOf RX8 μ 4 [some (.ref (qB G + s)), some (.int (nI f)), some (.int (nI (bset (fun g => decide (hOw H g = f)) g))), some (.int (nI g))] [] := by
    intro n
    induction n with
    | zero =>
      intro g hg
      refine z_iload_3 iX8_goodsOf_4 ?_
      refine z_aload_0 iX8_goodsOf_5 ?_
      refine m_getR iX8_goodsOf_6 g_8_23 s0 ?_
      refine m_getI iX8_goodsOf_9 g_8_103 rfl ?_
      refine z_top (hR1.2.1) ?_
      refine z_icmp_geN iX8_goodsOf_12 (by omega) (by omega) (fun q => ?_) (fun q => ?_)
      · refine z_iload_2 iX8_goodsOf_40 ?_
        exact m_iret hE iX8_goodsOf_41 ⟨rfl, by rw [show g = rGc R by omega]⟩
      · omega
    | succ n ih =>
      intro g hg
      have hg' : g < rGc R := by omega
      have ho := hH0.1 g hg'
      refine z_iload_3 iX8_goodsOf_4 ?_
      refine z_aload_0 iX8_goodsOf_5 ?_
      refine m_getR iX8_goodsOf_6 g_8_23 s0 ?_
      refine m_getI iX8_goodsOf_9 g_8_103 rfl ?_
      refine z_top (hR1.2.1) ?_
      refine z_icmp_geN iX8_goodsOf_12 (by omega) (by omega) (fun q => ?_) (fun q => ?_)
      · omega
      · refine z_aload_0 iX8_goodsOf_15 ?_
        refine m_getR iX8_goodsOf_16 g_8_12 s2 ?_
        refine m_getR iX8_goodsOf_19 g_8_47 f0 ?_
        refine z_iload_3 iX8_goodsOf_22 ?_
        refine m_ialdN iX8_goodsOf_23 a1 (by omega) ?_
        refine z_top (hH1.1 g hg') ?_
        refine z_iload_1 iX8_goodsOf_24 ?_
        refine z_icmp_neN iX8_goodsOf_25 (by omega) (by omega) (fun q2 => ?_) (fun q2 => ?_)
        · refine z_iinc_3N iX8_goodsOf_34 rfl ?_
          refine z_goto iX8_goodsOf_37 ?_
          rw [← bset_no (p := fun g => decide (hOw H g = f)) (g := g) (by simp [q2])]
          exact ih (g + 1) (by omega)
        · refine z_iload_2 iX8_goodsOf_28 ?_
          refine z_iconst iX8_goodsOf_29 kI_1 ?_
          refine z_iload_3 iX8_goodsOf_30 ?_
          refine z_ishl iX8_goodsOf_31 ?_
          refine z_ior iX8_goodsOf_32 ?_
          refine z_top (bset_or (p := fun g => decide (hOw H g = f)) (by omega) (by simp [q2])) ?_
          refine z_istore_2 iX8_goodsOf_33 rfl ?_
          refine z_iinc_3N iX8_goodsOf_34 rfl ?_
          refine z_goto iX8_goodsOf_37 ?_
          exact ih (g + 1) (by omega)
  refine z_iconst iX8_goodsOf_0 kI_0 ?_
  refine z_istore_2 iX8_goodsOf_1 rfl ?_
  refine z_iconst iX8_goodsOf_2 kI_0 ?_
  refine z_istore_3 iX8_goodsOf_3 rfl ?_
  exact loop (rGc R) 0 (by omega)
/-- Salle.goodsAbroad -/
theorem c_X8_goodsAbroad (G : qG) (l : Launch) {μ : Mem} {s : Nat} {R : Rl} {H : Hd} (hs : isSal s) (hR0 : RlOK R) (hH0 : HdOK R H) (hR1 : RollAt μ R) (hH1 : HoldAt μ (s + 1) R H) : CtrI G l M_X8_goodsAbroad [.ref (qB G + s)] μ (fun r μ' => μ' = μ ∧ r = nI (bset (fun g => decide (hOw H g ≠ rTl R g)) (rGc R))) := by
  refine m_enterI [some (.ref (qB G + s)), none, none] (by decide +kernel) rfl (Nat.le_of_ble_eq_true rfl) (fun X hE hR => ?_)
  have hR : qR X = rm_X8_goodsAbroad := hR
  have hE : EI G X _ (some .int) := hE
  show Zm G X cX8_goodsAbroad RX8 _ 0 [some (.ref (qB G + s)), none, none] []
  obtain ⟨s0, s1, s2, s3, sC, ⟨f0, f1, f2, f3, a1, a2, a3, -⟩, -⟩ := id hs
  have h6 := hR0.1
  have h5 := hR0.2.1
  have loop : ∀ (n g : Nat), n + g = rGc R → Zm G X cX8_goodsAbroad RX8 μ 4 [some (.ref (qB G + s)), some (.int (nI (bset (fun g => decide (hOw H g ≠ rTl R g)) g))), some (.int (nI g))] [] := by
    intro n
    induction n with
    | zero =>
      intro g hg
      refine z_iload_2 iX8_goodsAbroad_4 ?_
      refine z_aload_0 iX8_goodsAbroad_5 ?_
      refine m_getR iX8_goodsAbroad_6 g_8_23 s0 ?_
      refine m_getI iX8_goodsAbroad_9 g_8_103 rfl ?_
      refine z_top (hR1.2.1) ?_
      refine z_icmp_geN iX8_goodsAbroad_12 (by omega) (by omega) (fun q => ?_) (fun q => ?_)
      · refine z_iload_1 iX8_goodsAbroad_48 ?_
        exact m_iret hE iX8_goodsAbroad_49 ⟨rfl, by rw [show g = rGc R by omega]⟩
      · omega
    | succ n ih =>
      intro g hg
      have hg' : g < rGc R := by omega
      have ho := hH0.1 g hg'
      have ht := (hR0.2.2.2 g hg').2
      refine z_iload_2 iX8_goodsAbroad_4 ?_
      refine z_aload_0 iX8_goodsAbroad_5 ?_
      refine m_getR iX8_goodsAbroad_6 g_8_23 s0 ?_
      refine m_getI iX8_goodsAbroad_9 g_8_103 rfl ?_
      refine z_top (hR1.2.1) ?_
      refine z_icmp_geN iX8_goodsAbroad_12 (by omega) (by omega) (fun q => ?_) (fun q => ?_)
      · omega
      · refine z_aload_0 iX8_goodsAbroad_15 ?_
        refine m_getR iX8_goodsAbroad_16 g_8_12 s2 ?_
        refine m_getR iX8_goodsAbroad_19 g_8_47 f0 ?_
        refine z_iload_2 iX8_goodsAbroad_22 ?_
        refine m_ialdN iX8_goodsAbroad_23 a1 (by omega) ?_
        refine z_top (hH1.1 g hg') ?_
        refine z_aload_0 iX8_goodsAbroad_24 ?_
        refine m_getR iX8_goodsAbroad_25 g_8_23 s0 ?_
        refine m_getR iX8_goodsAbroad_28 g_8_106 rfl ?_
        refine z_iload_2 iX8_goodsAbroad_31 ?_
        refine m_ialdN iX8_goodsAbroad_32 rfl (by omega) ?_
        refine z_top ((hR1.2.2.2 g hg').2) ?_
        refine z_icmp_eqN iX8_goodsAbroad_33 (by omega) (by omega) (fun q2 => ?_) (fun q2 => ?_)
        · refine z_iinc_2N iX8_goodsAbroad_42 rfl ?_
          refine z_goto iX8_goodsAbroad_45 ?_
          rw [← bset_no (p := fun g => decide (hOw H g ≠ rTl R g)) (g := g) (by simp [q2])]
          exact ih (g + 1) (by omega)
        · refine z_iload_1 iX8_goodsAbroad_36 ?_
          refine z_iconst iX8_goodsAbroad_37 kI_1 ?_
          refine z_iload_2 iX8_goodsAbroad_38 ?_
          refine z_ishl iX8_goodsAbroad_39 ?_
          refine z_ior iX8_goodsAbroad_40 ?_
          refine z_top (bset_or (p := fun g => decide (hOw H g ≠ rTl R g)) (by omega) (by simp [q2])) ?_
          refine z_istore_1 iX8_goodsAbroad_41 rfl ?_
          refine z_iinc_2N iX8_goodsAbroad_42 rfl ?_
          refine z_goto iX8_goodsAbroad_45 ?_
          exact ih (g + 1) (by omega)
  refine z_iconst iX8_goodsAbroad_0 kI_0 ?_
  refine z_istore_1 iX8_goodsAbroad_1 rfl ?_
  refine z_iconst iX8_goodsAbroad_2 kI_0 ?_
  refine z_istore_2 iX8_goodsAbroad_3 rfl ?_
  exact loop (rGc R) 0 (by omega)
/-- Salle.compareAll -/
theorem c_X8_compareAll (G : qG) (l : Launch) {μ : Mem} {s : Nat} {R : Rl} {H : Hd} (hs : isSal s) (hR0 : RlOK R) (hH0 : HdOK R H) (hR1 : RollAt μ R) (hH1 : HoldAt μ (s + 1) R H) : CtrV G l M_X8_compareAll [.ref (qB G + s)] μ (fun μ' => Fr (cS s) μ μ' ∧ LeadsAt μ' s R H) := by
  refine m_enterV [some (.ref (qB G + s)), none, none] (by decide +kernel) rfl (Nat.le_of_ble_eq_true rfl) rfl (fun X hE hR => ?_)
  have hR : qR X = rm_X8_compareAll := hR
  show Zm G X cX8_compareAll RX8 _ 0 [some (.ref (qB G + s)), none, none] []
  obtain ⟨s0, s1, s2, s3, sC, hhd, sL, sRow, sm⟩ := id hs
  have hs37 : 37 ≤ s := by simp only [List.mem_cons, List.not_mem_nil, or_false] at sm; omega
  have h6 := hR0.1
  have sub : ∀ a, a ∈ [35, 36] → a ∈ cS s := fun a h => by unfold cS; simp at h ⊢; omega
  have inner : ∀ (i : Nat) (kk : ∀ (μ1 : Mem), Fr (cS s) μ μ1 → (∀ a b, a < rFc R → b < rFc R → (a < i + 1 ∨ b < i + 1) → μ1.1 (s + 6 + 1 * a) b = ld R H a b) → Zm G X cX8_compareAll RX8 μ1 80 [some (.ref (qB G + s)), some (.int (nI i)), some (.int (nI (rFc R)))] []), i < rFc R → ∀ (n j : Nat) (μ1 : Mem), n + j = rFc R → i < j → Fr (cS s) μ μ1 → (∀ a b, a < rFc R → b < rFc R → (a < i ∨ b < i ∨ (a = i ∧ b < j) ∨ (b = i ∧ a < j)) → μ1.1 (s + 6 + 1 * a) b = ld R H a b) → Zm G X cX8_compareAll RX8 μ1 26 [some (.ref (qB G + s)), some (.int (nI i)), some (.int (nI j))] [] := by
    intro i kk hi n
    induction n with
    | zero =>
      intro j μ1 hn hij hF hL
      have hR2 : RollAt μ1 R := hR1.fr hR0 hF (fun a h => by unfold cS at h; simp at h; omega)
      refine z_iload_2 iX8_compareAll_26 ?_
      refine z_aload_0 iX8_compareAll_27 ?_
      refine m_getR iX8_compareAll_28 g_8_23 s0 ?_
      refine m_getI iX8_compareAll_31 g_8_109 rfl ?_
      refine z_top (hR2.1) ?_
      refine z_icmp_geN iX8_compareAll_34 (by omega) (by omega) (fun q => ?_) (fun q => ?_)
      · rw [show j = rFc R by omega]
        exact kk μ1 hF (fun a b ha hb h => hL a b ha hb (by omega))
      · omega
    | succ n ih =>
      intro j μ1 hn hij hF hL
      have hj : j < rFc R := by omega
      have hR2 : RollAt μ1 R := hR1.fr hR0 hF (fun a h => by unfold cS at h; simp at h; omega)
      have hH2 : HoldAt μ1 (s + 1) R H := hH1.fr hF (fun a h => by unfold cS at h; simp at h; omega)
      refine z_iload_2 iX8_compareAll_26 ?_
      refine z_aload_0 iX8_compareAll_27 ?_
      refine m_getR iX8_compareAll_28 g_8_23 s0 ?_
      refine m_getI iX8_compareAll_31 g_8_109 rfl ?_
      refine z_top (hR2.1) ?_
      refine z_icmp_geN iX8_compareAll_34 (by omega) (by omega) (fun q => ?_) (fun q => ?_)
      · omega
      · refine z_aload_0 iX8_compareAll_37 ?_
        refine z_iload_1 iX8_compareAll_38 ?_
        refine z_iload_2 iX8_compareAll_39 ?_
        refine m_callVv iX8_compareAll_40 l_8_50 f_X8_fightNow (c_X8_fightNow G _ hs hR0 hH0 hR2 hH2 hi hj) sC rfl rfl (Nat.le_of_ble_eq_true rfl) hR ft_X8_compareAll_X8_fightNow ⟨rfl, rfl⟩ ?_
        rintro μ2 ⟨hF2, hB⟩
        have eL : μ2.1 35 0 - μ2.1 35 1 = ld R H i j := by rw [hB.1, hB.2.1]; rfl
        refine z_aload_0 iX8_compareAll_43 ?_
        refine m_getR iX8_compareAll_44 g_8_20 s3 ?_
        refine z_iload_1 iX8_compareAll_47 ?_
        refine m_aaldN iX8_compareAll_48 sL (by decide) (by omega) ?_
        refine z_iload_2 iX8_compareAll_49 ?_
        refine z_aload_0 iX8_compareAll_50 ?_
        refine m_getR iX8_compareAll_51 g_8_27 s1 ?_
        refine m_callVi iX8_compareAll_54 l_8_57 f_X1_lead (c_X1_lead G _) rfl rfl rfl (Nat.le_of_ble_eq_true rfl) hR ft_X8_compareAll_X1_lead ⟨rfl, rfl⟩ ?_
        rintro r μ3 ⟨rfl, rfl⟩
        refine z_top eL ?_
        refine m_iastN iX8_compareAll_57 (sRow i (by omega)) (by omega) ?_
        refine z_aload_0 iX8_compareAll_58 ?_
        refine m_getR iX8_compareAll_59 g_8_20 s3 ?_
        refine z_iload_2 iX8_compareAll_62 ?_
        refine m_aaldN iX8_compareAll_63 sL (by decide) (by omega) ?_
        refine z_iload_1 iX8_compareAll_64 ?_
        refine z_aload_0 iX8_compareAll_65 ?_
        refine m_getR iX8_compareAll_66 g_8_27 s1 ?_
        refine m_callVi iX8_compareAll_69 l_8_57 f_X1_lead (c_X1_lead G _) rfl rfl rfl (Nat.le_of_ble_eq_true rfl) hR ft_X8_compareAll_X1_lead ⟨rfl, rfl⟩ ?_
        rintro r μ3 ⟨rfl, rfl⟩
        refine z_top (show _ = ld R H i j from by rw [mw_ne _ _ (Or.inl (by omega)), mw_ne _ _ (Or.inl (by omega))]; exact eL) ?_
        refine z_ineg iX8_compareAll_72 ?_
        refine z_top (ld_neg R H i j) ?_
        refine m_iastN iX8_compareAll_73 (sRow j (by omega)) (by omega) ?_
        refine z_iinc_2N iX8_compareAll_74 rfl ?_
        refine z_goto iX8_compareAll_77 ?_
        refine ih (j + 1) _ (by omega) (by omega) (((hF.trans (hF2.mono sub)).mw _ _ (cS_in (by omega))).mw _ _ (cS_in (by omega))) ?_
        intro a b ha hb h
        have old : (a < i ∨ b < i ∨ (a = i ∧ b < j) ∨ (b = i ∧ a < j)) → μ3.1 (s + 6 + 1 * a) b = ld R H a b := fun z => by rw [hF2.1 _ (by simp; omega)]; exact hL a b ha hb z
        by_cases c1 : a = j ∧ b = i
        · obtain ⟨rfl, rfl⟩ := c1
          rw [mw_same]
        · rw [mw_ne _ _ (by omega)]
          by_cases c2 : a = i ∧ b = j
          · obtain ⟨rfl, rfl⟩ := c2
            rw [mw_same]
          · rw [mw_ne _ _ (by omega)]
            exact old (by omega)
  have outer : ∀ (n i : Nat) (μ1 : Mem) (w : Option Value), n + i = rFc R → Fr (cS s) μ μ1 → (∀ a b, a < rFc R → b < rFc R → (a < i ∨ b < i) → μ1.1 (s + 6 + 1 * a) b = ld R H a b) → Zm G X cX8_compareAll RX8 μ1 2 [some (.ref (qB G + s)), some (.int (nI i)), w] [] := by
    intro n
    induction n with
    | zero =>
      intro i μ1 w hn hF hL
      have hR2 : RollAt μ1 R := hR1.fr hR0 hF (fun a h => by unfold cS at h; simp at h; omega)
      refine z_iload_1 iX8_compareAll_2 ?_
      refine z_aload_0 iX8_compareAll_3 ?_
      refine m_getR iX8_compareAll_4 g_8_23 s0 ?_
      refine m_getI iX8_compareAll_7 g_8_109 rfl ?_
      refine z_top (hR2.1) ?_
      refine z_icmp_geN iX8_compareAll_10 (by omega) (by omega) (fun q => ?_) (fun q => ?_)
      · exact m_vret hE iX8_compareAll_86 ⟨hF, fun a b ha hb => hL a b ha hb (by omega)⟩
      · omega
    | succ n ih =>
      intro i μ1 w hn hF hL
      have hi : i < rFc R := by omega
      have hR2 : RollAt μ1 R := hR1.fr hR0 hF (fun a h => by unfold cS at h; simp at h; omega)
      refine z_iload_1 iX8_compareAll_2 ?_
      refine z_aload_0 iX8_compareAll_3 ?_
      refine m_getR iX8_compareAll_4 g_8_23 s0 ?_
      refine m_getI iX8_compareAll_7 g_8_109 rfl ?_
      refine z_top (hR2.1) ?_
      refine z_icmp_geN iX8_compareAll_10 (by omega) (by omega) (fun q => ?_) (fun q => ?_)
      · omega
      · refine z_aload_0 iX8_compareAll_13 ?_
        refine m_getR iX8_compareAll_14 g_8_20 s3 ?_
        refine z_iload_1 iX8_compareAll_17 ?_
        refine m_aaldN iX8_compareAll_18 sL (by decide) (by omega) ?_
        refine z_iload_1 iX8_compareAll_19 ?_
        refine z_iconst iX8_compareAll_20 kI_0 ?_
        refine m_iastN iX8_compareAll_21 (sRow i (by omega)) (by omega) ?_
        refine z_iload_1 iX8_compareAll_22 ?_
        refine z_iconst iX8_compareAll_23 kI_1 ?_
        refine z_iaddN iX8_compareAll_24 ?_
        refine z_istore_2 iX8_compareAll_25 rfl ?_
        refine inner i ?_ hi (n) (i + 1) _ (by omega) (by omega) (hF.mw _ _ (cS_in (by omega))) ?_
        · intro μ2 hF2 hL2
          refine z_iinc_1N iX8_compareAll_80 rfl ?_
          refine z_goto iX8_compareAll_83 ?_
          exact ih (i + 1) μ2 _ (by omega) hF2 hL2
        · intro a b ha hb h
          by_cases c1 : a = i ∧ b = i
          · obtain ⟨rfl, rfl⟩ := c1
            rw [mw_same]; exact (ld_self R H _).symm
          · rw [mw_ne _ _ (by omega)]
            exact hL a b ha hb (by omega)
  refine z_iconst iX8_compareAll_0 kI_0 ?_
  refine z_istore_1 iX8_compareAll_1 rfl ?_
  exact outer (rFc R) 0 μ _ (by omega) Fr.rf (fun a b _ _ h => by omega)
/-- Salle.beatenBy: whom a fencer beats -/
theorem c_X8_beatenBy (G : qG) (l : Launch) {μ : Mem} {s f : Nat} {R : Rl} {H : Hd} {p : Nat → Bool} (hs : isSal s) (hR0 : RlOK R) (hR1 : RollAt μ R) (hL : LeadsAt μ s R H) (hf : f < rFc R) (hp : ∀ o, o < rFc R → (p o = true ↔ bt R H f o)) : CtrI G l M_X8_beatenBy [.ref (qB G + s), .int (nI f)] μ (fun r μ' => μ' = μ ∧ r = nI (bset p (rFc R))) := by
  refine m_enterI [some (.ref (qB G + s)), some (.int (nI f)), none, none] (by decide +kernel) rfl (Nat.le_of_ble_eq_true rfl) (fun X hE hR => ?_)
  have hR : qR X = rm_X8_beatenBy := hR
  have hE : EI G X _ (some .int) := hE
  show Zm G X cX8_beatenBy RX8 _ 0 [some (.ref (qB G + s)), some (.int (nI f)), none, none] []
  obtain ⟨s0, s1, s2, s3, sC, hhd, sL, sRow, sm⟩ := id hs
  have h6 := hR0.1
  have loop : ∀ (n o : Nat), n + o = rFc R → Zm G X cX8_beatenBy RX8 μ 4 [some (.ref (qB G + s)), some (.int (nI f)), some (.int (nI (bset p o))), some (.int (nI o))] [] := by
    intro n
    induction n with
    | zero =>
      intro o ho
      refine z_iload_3 iX8_beatenBy_4 ?_
      refine z_aload_0 iX8_beatenBy_5 ?_
      refine m_getR iX8_beatenBy_6 g_8_23 s0 ?_
      refine m_getI iX8_beatenBy_9 g_8_109 rfl ?_
      refine z_top (hR1.1) ?_
      refine z_icmp_geN iX8_beatenBy_12 (by omega) (by omega) (fun q => ?_) (fun q => ?_)
      · refine z_iload_2 iX8_beatenBy_38 ?_
        exact m_iret hE iX8_beatenBy_39 ⟨rfl, by rw [show o = rFc R by omega]⟩
      · omega
    | succ n ih =>
      intro o ho
      have ho' : o < rFc R := by omega
      refine z_iload_3 iX8_beatenBy_4 ?_
      refine z_aload_0 iX8_beatenBy_5 ?_
      refine m_getR iX8_beatenBy_6 g_8_23 s0 ?_
      refine m_getI iX8_beatenBy_9 g_8_109 rfl ?_
      refine z_top (hR1.1) ?_
      refine z_icmp_geN iX8_beatenBy_12 (by omega) (by omega) (fun q => ?_) (fun q => ?_)
      · omega
      · refine z_aload_0 iX8_beatenBy_15 ?_
        refine m_getR iX8_beatenBy_16 g_8_20 s3 ?_
        refine z_iload_1 iX8_beatenBy_19 ?_
        refine m_aaldN iX8_beatenBy_20 sL (by decide) (by omega) ?_
        refine z_iload_3 iX8_beatenBy_21 ?_
        refine m_ialdN iX8_beatenBy_22 (sRow f (by omega)) (by omega) ?_
        refine z_top (hL f o hf ho') ?_
        refine z_if_le iX8_beatenBy_23 (fun q2 => ?_) (fun q2 => ?_)
        · have q3 : p o = false := by have := ld_le.mp q2; rw [← hp o ho'] at this; simpa using this
          refine z_iinc_3N iX8_beatenBy_32 rfl ?_
          refine z_goto iX8_beatenBy_35 ?_
          rw [← bset_no q3]
          exact ih (o + 1) (by omega)
        · have q3 : p o = true := (hp o ho').mpr (by by_cases z : bt R H f o; exact z; exact absurd (ld_le.mpr z) q2)
          refine z_iload_2 iX8_beatenBy_26 ?_
          refine z_iconst iX8_beatenBy_27 kI_1 ?_
          refine z_iload_3 iX8_beatenBy_28 ?_
          refine z_ishl iX8_beatenBy_29 ?_
          refine z_ior iX8_beatenBy_30 ?_
          refine z_top (bset_or (by omega) q3) ?_
          refine z_istore_2 iX8_beatenBy_31 rfl ?_
          refine z_iinc_3N iX8_beatenBy_32 rfl ?_
          refine z_goto iX8_beatenBy_35 ?_
          exact ih (o + 1) (by omega)
  refine z_iconst iX8_beatenBy_0 kI_0 ?_
  refine z_istore_2 iX8_beatenBy_1 rfl ?_
  refine z_iconst iX8_beatenBy_2 kI_0 ?_
  refine z_istore_3 iX8_beatenBy_3 rfl ?_
  exact loop (rFc R) 0 (by omega)
/-- Salle.thoseWhoBeat -/
theorem c_X8_thoseWhoBeat (G : qG) (l : Launch) {μ : Mem} {s f : Nat} {R : Rl} {H : Hd} {p : Nat → Bool} (hs : isSal s) (hR0 : RlOK R) (hR1 : RollAt μ R) (hL : LeadsAt μ s R H) (hf : f < rFc R) (hp : ∀ o, o < rFc R → (p o = true ↔ bt R H o f)) : CtrI G l M_X8_thoseWhoBeat [.ref (qB G + s), .int (nI f)] μ (fun r μ' => μ' = μ ∧ r = nI (bset p (rFc R))) := by
  refine m_enterI [some (.ref (qB G + s)), some (.int (nI f)), none, none] (by decide +kernel) rfl (Nat.le_of_ble_eq_true rfl) (fun X hE hR => ?_)
  have hR : qR X = rm_X8_thoseWhoBeat := hR
  have hE : EI G X _ (some .int) := hE
  show Zm G X cX8_thoseWhoBeat RX8 _ 0 [some (.ref (qB G + s)), some (.int (nI f)), none, none] []
  obtain ⟨s0, s1, s2, s3, sC, hhd, sL, sRow, sm⟩ := id hs
  have h6 := hR0.1
  have loop : ∀ (n o : Nat), n + o = rFc R → Zm G X cX8_thoseWhoBeat RX8 μ 4 [some (.ref (qB G + s)), some (.int (nI f)), some (.int (nI (bset p o))), some (.int (nI o))] [] := by
    intro n
    induction n with
    | zero =>
      intro o ho
      refine z_iload_3 iX8_thoseWhoBeat_4 ?_
      refine z_aload_0 iX8_thoseWhoBeat_5 ?_
      refine m_getR iX8_thoseWhoBeat_6 g_8_23 s0 ?_
      refine m_getI iX8_thoseWhoBeat_9 g_8_109 rfl ?_
      refine z_top (hR1.1) ?_
      refine z_icmp_geN iX8_thoseWhoBeat_12 (by omega) (by omega) (fun q => ?_) (fun q => ?_)
      · refine z_iload_2 iX8_thoseWhoBeat_38 ?_
        exact m_iret hE iX8_thoseWhoBeat_39 ⟨rfl, by rw [show o = rFc R by omega]⟩
      · omega
    | succ n ih =>
      intro o ho
      have ho' : o < rFc R := by omega
      refine z_iload_3 iX8_thoseWhoBeat_4 ?_
      refine z_aload_0 iX8_thoseWhoBeat_5 ?_
      refine m_getR iX8_thoseWhoBeat_6 g_8_23 s0 ?_
      refine m_getI iX8_thoseWhoBeat_9 g_8_109 rfl ?_
      refine z_top (hR1.1) ?_
      refine z_icmp_geN iX8_thoseWhoBeat_12 (by omega) (by omega) (fun q => ?_) (fun q => ?_)
      · omega
      · refine z_aload_0 iX8_thoseWhoBeat_15 ?_
        refine m_getR iX8_thoseWhoBeat_16 g_8_20 s3 ?_
        refine z_iload_3 iX8_thoseWhoBeat_19 ?_
        refine m_aaldN iX8_thoseWhoBeat_20 sL (by decide) (by omega) ?_
        refine z_iload_1 iX8_thoseWhoBeat_21 ?_
        refine m_ialdN iX8_thoseWhoBeat_22 (sRow o (by omega)) (by omega) ?_
        refine z_top (hL o f ho' hf) ?_
        refine z_if_le iX8_thoseWhoBeat_23 (fun q2 => ?_) (fun q2 => ?_)
        · have q3 : p o = false := by have := ld_le.mp q2; rw [← hp o ho'] at this; simpa using this
          refine z_iinc_3N iX8_thoseWhoBeat_32 rfl ?_
          refine z_goto iX8_thoseWhoBeat_35 ?_
          rw [← bset_no q3]
          exact ih (o + 1) (by omega)
        · have q3 : p o = true := (hp o ho').mpr (by by_cases z : bt R H o f; exact z; exact absurd (ld_le.mpr z) q2)
          refine z_iload_2 iX8_thoseWhoBeat_26 ?_
          refine z_iconst iX8_thoseWhoBeat_27 kI_1 ?_
          refine z_iload_3 iX8_thoseWhoBeat_28 ?_
          refine z_ishl iX8_thoseWhoBeat_29 ?_
          refine z_ior iX8_thoseWhoBeat_30 ?_
          refine z_top (bset_or (by omega) q3) ?_
          refine z_istore_2 iX8_thoseWhoBeat_31 rfl ?_
          refine z_iinc_3N iX8_thoseWhoBeat_32 rfl ?_
          refine z_goto iX8_thoseWhoBeat_35 ?_
          exact ih (o + 1) (by omega)
  refine z_iconst iX8_thoseWhoBeat_0 kI_0 ?_
  refine z_istore_2 iX8_thoseWhoBeat_1 rfl ?_
  refine z_iconst iX8_thoseWhoBeat_2 kI_0 ?_
  refine z_istore_3 iX8_thoseWhoBeat_3 rfl ?_
  exact loop (rFc R) 0 (by omega)
def orF (v : Nat → Int32) : Nat → Int32
  | 0 => nI 0
  | n + 1 => orF v n ||| v n
/-- whom a fencer beats, as a set -/
def btB (R : Rl) (H : Hd) (i j : Nat) : Bool := decide (bH2 (feOf R H i) (feOf R H j) < bH1 (feOf R H i) (feOf R H j))
theorem btB_iff {R : Rl} {H : Hd} {i j : Nat} : btB R H i j = true ↔ bt R H i j := by unfold btB bt; simp
def btS (R : Rl) (H : Hd) (i : Nat) : Nat := bset (btB R H i) (rFc R)
/-- Salle.beatenByAnybody -/
theorem c_X8_beatenByAnybody (G : qG) (l : Launch) {μ : Mem} {s : Nat} {R : Rl} {H : Hd} (hs : isSal s) (hR0 : RlOK R) (hR1 : RollAt μ R) (hL : LeadsAt μ s R H) : CtrI G l M_X8_beatenByAnybody [.ref (qB G + s)] μ (fun r μ' => μ' = μ ∧ r = orF (fun f => nI (btS R H f)) (rFc R)) := by
  refine m_enterI [some (.ref (qB G + s)), none, none] (by decide +kernel) rfl (Nat.le_of_ble_eq_true rfl) (fun X hE hR => ?_)
  have hR : qR X = rm_X8_beatenByAnybody := hR
  have hE : EI G X _ (some .int) := hE
  show Zm G X cX8_beatenByAnybody RX8 _ 0 [some (.ref (qB G + s)), none, none] []
  obtain ⟨s0, s1, s2, s3, sC, hhd, sL, sRow, sm⟩ := id hs
  have h6 := hR0.1
  have loop : ∀ (n o : Nat), n + o = rFc R → Zm G X cX8_beatenByAnybody RX8 μ 4 [some (.ref (qB G + s)), some (.int (orF (fun f => nI (btS R H f)) o)), some (.int (nI o))] [] := by
    intro n
    induction n with
    | zero =>
      intro o ho
      refine z_iload_2 iX8_beatenByAnybody_4 ?_
      refine z_aload_0 iX8_beatenByAnybody_5 ?_
      refine m_getR iX8_beatenByAnybody_6 g_8_23 s0 ?_
      refine m_getI iX8_beatenByAnybody_9 g_8_109 rfl ?_
      refine z_top (hR1.1) ?_
      refine z_icmp_geN iX8_beatenByAnybody_12 (by omega) (by omega) (fun q => ?_) (fun q => ?_)
      · refine z_iload_1 iX8_beatenByAnybody_29 ?_
        exact m_iret hE iX8_beatenByAnybody_30 ⟨rfl, by rw [show o = rFc R by omega]⟩
      · omega
    | succ n ih =>
      intro o ho
      have ho' : o < rFc R := by omega
      refine z_iload_2 iX8_beatenByAnybody_4 ?_
      refine z_aload_0 iX8_beatenByAnybody_5 ?_
      refine m_getR iX8_beatenByAnybody_6 g_8_23 s0 ?_
      refine m_getI iX8_beatenByAnybody_9 g_8_109 rfl ?_
      refine z_top (hR1.1) ?_
      refine z_icmp_geN iX8_beatenByAnybody_12 (by omega) (by omega) (fun q => ?_) (fun q => ?_)
      · omega
      · refine z_iload_1 iX8_beatenByAnybody_15 ?_
        refine z_aload_0 iX8_beatenByAnybody_16 ?_
        refine z_iload_2 iX8_beatenByAnybody_17 ?_
        refine m_callVi iX8_beatenByAnybody_18 l_8_112 f_X8_beatenBy (c_X8_beatenBy (p := btB R H o) G _ hs hR0 hR1 hL ho' (fun _ _ => btB_iff)) sC rfl rfl (Nat.le_of_ble_eq_true rfl) hR ft_X8_beatenByAnybody_X8_beatenBy ⟨rfl, rfl⟩ ?_
        rintro r μ1 ⟨rfl, rfl⟩
        refine z_ior iX8_beatenByAnybody_21 ?_
        refine z_istore_1 iX8_beatenByAnybody_22 rfl ?_
        refine z_iinc_2N iX8_beatenByAnybody_23 rfl ?_
        refine z_goto iX8_beatenByAnybody_26 ?_
        exact ih (o + 1) (by omega)
  refine z_iconst iX8_beatenByAnybody_0 kI_0 ?_
  refine z_istore_1 iX8_beatenByAnybody_1 rfl ?_
  refine z_iconst iX8_beatenByAnybody_2 kI_0 ?_
  refine z_istore_2 iX8_beatenByAnybody_3 rfl ?_
  exact loop (rFc R) 0 (by omega)

/-! CHANCES: bits, sums, fractions -/
def sumN (f : Nat → Nat) : Nat → Nat
  | 0 => 0
  | n + 1 => sumN f n + f n
theorem sumN_congr {f g : Nat → Nat} : ∀ n, (∀ i, i < n → f i = g i) → sumN f n = sumN g n
  | 0, _ => rfl
  | n + 1, h => by simp [sumN, sumN_congr n (fun i hi => h i (by omega)), h n (by omega)]
theorem sumN_le {f g : Nat → Nat} : ∀ n, (∀ i, i < n → f i ≤ g i) → sumN f n ≤ sumN g n
  | 0, _ => Nat.le_refl _
  | n + 1, h => Nat.add_le_add (sumN_le n (fun i hi => h i (by omega))) (h n (by omega))
def bitN (s t : Nat) : Nat := s / 2 ^ t % 2
theorem bitN_lt (s t : Nat) : bitN s t < 2 := Nat.mod_lt _ (by decide)
theorem q_bit : ∀ s, s < 64 → ∀ t, t < 6 → (nI s >>> (nI t &&& 31)) &&& nI 1 = nI (bitN s t) := by decide +kernel
theorem bset_bit {p : Nat → Bool} : ∀ n, ∀ o, o < n → bitN (bset p n) o = if p o then 1 else 0
  | 0, o, h => absurd h (by omega)
  | n + 1, o, h => by
    have hl := bset_lt p n
    unfold bset bitN
    by_cases e : o = n
    · subst e
      by_cases q : p o = true
      · rw [if_pos q, if_pos q]
        have : (bset p o + 2 ^ o) / 2 ^ o = 1 := by
          rw [Nat.add_div_right _ (Nat.two_pow_pos o), Nat.div_eq_of_lt hl]
        rw [this]
      · rw [if_neg q, if_neg q, Nat.add_zero, Nat.div_eq_of_lt hl]
    · have ih := bset_bit (p := p) n o (by omega)
      unfold bitN at ih
      rw [← ih]
      by_cases q : p n = true
      · rw [if_pos q]
        have e2 : (2 : Nat) ^ n = 2 ^ o * (2 * 2 ^ (n - o - 1)) := by
          rw [← Nat.mul_assoc, ← Nat.pow_succ, ← Nat.pow_add]
          congr 1
          omega
        rw [e2, Nat.add_mul_div_left _ _ (Nat.two_pow_pos o)]
        omega
      · rw [if_neg q, Nat.add_zero]
def pcN (b : Nat) : Nat := bitN b 0 + bitN b 1 + bitN b 2 + bitN b 3 + bitN b 4 + bitN b 5
theorem pcN_bset {p : Nat → Bool} {n : Nat} (hn : n ≤ 6) : pcN (bset p n) = cnt p n := by
  have e : ∀ m, m ≤ 6 → bset p m = bset (fun k => decide (k < m) && p k) 6 := by
    intro m hm
    have gen : ∀ k, bset (fun k => decide (k < m) && p k) k = bset p (min k m) := by
      intro k
      induction k with
      | zero => simp [bset]
      | succ k ih =>
        by_cases hk : k < m
        · rw [show min (k + 1) m = k + 1 by omega]
          rw [show min k m = k by omega] at ih
          simp [bset, ih, hk]
        · rw [show min (k + 1) m = min k m by omega]
          simp [bset, ih, hk]
    rw [gen 6, show min 6 m = m by omega]
  have c : ∀ m, m ≤ 6 → cnt p m = cnt (fun k => decide (k < m) && p k) 6 := by
    intro m hm
    have gen : ∀ k, cnt (fun k => decide (k < m) && p k) k = cnt p (min k m) := by
      intro k
      induction k with
      | zero => simp [cnt]
      | succ k ih =>
        by_cases hk : k < m
        · rw [show min (k + 1) m = k + 1 by omega]
          rw [show min k m = k by omega] at ih
          simp [cnt, ih, hk]
        · rw [show min (k + 1) m = min k m by omega]
          simp [cnt, ih, hk]
    rw [gen 6, show min 6 m = m by omega]
  rw [e n hn, c n hn]
  generalize (fun k => decide (k < n) && p k) = r
  unfold pcN
  rw [bset_bit 6 0 (by decide), bset_bit 6 1 (by decide), bset_bit 6 2 (by decide), bset_bit 6 3 (by decide), bset_bit 6 4 (by decide), bset_bit 6 5 (by decide)]
  simp [cnt]
def bcI (x : Int32) : Int32 :=
  let a := x - ((x.toUInt32 >>> ((nI 1).toUInt32 &&& Int32.toUInt32 31)).toInt32 &&& 1431655765)
  let b := (a &&& 858993459) + ((a.toUInt32 >>> ((nI 2).toUInt32 &&& Int32.toUInt32 31)).toInt32 &&& 858993459)
  let c := (b + (b.toUInt32 >>> ((nI 4).toUInt32 &&& Int32.toUInt32 31)).toInt32) &&& 252645135
  let d := c + (c.toUInt32 >>> ((nI 8).toUInt32 &&& Int32.toUInt32 31)).toInt32
  let e := d + (d.toUInt32 >>> ((nI 16).toUInt32 &&& Int32.toUInt32 31)).toInt32
  e &&& nI 63
theorem bcI_all : ∀ b, b < 64 → bcI (nI b) = nI (pcN b) := by decide +kernel
/-- Integer.bitCount -/
theorem c_bitCount (G : qG) (l : Launch) {μ : Mem} {b : Nat} (hb : b < 64) : CtrI G l M_J6_bitCount_0f7a4 [.int (nI b)] μ (fun r μ' => μ' = μ ∧ r = nI (pcN b)) := by
  refine m_enterI [some (.int (nI b))] (by decide +kernel) rfl (Nat.le_of_ble_eq_true rfl) (fun X hE hR => ?_)
  have hR : qR X = rm_J6_bitCount_0f7a4 := hR
  have hE : EI G X _ (some .int) := hE
  show Zm G X cJ6_bitCount_0f7a4 RJ6 _ 0 [some (.int (nI b))] []
  refine z_iload_0 iJ6_bitCount_0f7a4_0 ?_
  refine z_iload_0 iJ6_bitCount_0f7a4_1 ?_
  refine z_iconst iJ6_bitCount_0f7a4_2 kI_1 ?_
  refine z_iushr iJ6_bitCount_0f7a4_3 ?_
  refine z_ldcw iJ6_bitCount_0f7a4_4 k_J6_265 ?_
  refine z_iand iJ6_bitCount_0f7a4_7 ?_
  refine z_isub iJ6_bitCount_0f7a4_8 ?_
  refine z_istore_0 iJ6_bitCount_0f7a4_9 ?_
  refine z_iload_0 iJ6_bitCount_0f7a4_10 ?_
  refine z_ldcw iJ6_bitCount_0f7a4_11 k_J6_266 ?_
  refine z_iand iJ6_bitCount_0f7a4_14 ?_
  refine z_iload_0 iJ6_bitCount_0f7a4_15 ?_
  refine z_iconst iJ6_bitCount_0f7a4_16 kI_2 ?_
  refine z_iushr iJ6_bitCount_0f7a4_17 ?_
  refine z_ldcw iJ6_bitCount_0f7a4_18 k_J6_266 ?_
  refine z_iand iJ6_bitCount_0f7a4_21 ?_
  refine z_iadd iJ6_bitCount_0f7a4_22 ?_
  refine z_istore_0 iJ6_bitCount_0f7a4_23 ?_
  refine z_iload_0 iJ6_bitCount_0f7a4_24 ?_
  refine z_iload_0 iJ6_bitCount_0f7a4_25 ?_
  refine z_iconst iJ6_bitCount_0f7a4_26 kI_4 ?_
  refine z_iushr iJ6_bitCount_0f7a4_27 ?_
  refine z_iadd iJ6_bitCount_0f7a4_28 ?_
  refine z_ldcw iJ6_bitCount_0f7a4_29 k_J6_267 ?_
  refine z_iand iJ6_bitCount_0f7a4_32 ?_
  refine z_istore_0 iJ6_bitCount_0f7a4_33 ?_
  refine z_iload_0 iJ6_bitCount_0f7a4_34 ?_
  refine z_iload_0 iJ6_bitCount_0f7a4_35 ?_
  refine z_bipush iJ6_bitCount_0f7a4_36 kB_8 ?_
  refine z_iushr iJ6_bitCount_0f7a4_38 ?_
  refine z_iadd iJ6_bitCount_0f7a4_39 ?_
  refine z_istore_0 iJ6_bitCount_0f7a4_40 ?_
  refine z_iload_0 iJ6_bitCount_0f7a4_41 ?_
  refine z_iload_0 iJ6_bitCount_0f7a4_42 ?_
  refine z_bipush iJ6_bitCount_0f7a4_43 kB_16 ?_
  refine z_iushr iJ6_bitCount_0f7a4_45 ?_
  refine z_iadd iJ6_bitCount_0f7a4_46 ?_
  refine z_istore_0 iJ6_bitCount_0f7a4_47 ?_
  refine z_iload_0 iJ6_bitCount_0f7a4_48 ?_
  refine z_bipush iJ6_bitCount_0f7a4_49 kB_63 ?_
  refine z_iand iJ6_bitCount_0f7a4_51 ?_
  refine z_top (show _ = bcI (nI b) from rfl) ?_
  refine z_top (bcI_all b hb) ?_
  exact m_iret hE iJ6_bitCount_0f7a4_52 ⟨rfl, rfl⟩
/-- the lead with feet x and y -/
def sl (R : Rl) (i j x y : Nat) : Int32 := nI (bH1 (rKd R i, rMv R i, x) (rKd R j, rMv R j, y)) - nI (bH2 (rKd R i, rMv R i, x) (rKd R j, rMv R j, y))
/-- Chances.fillStanceLeads -/
theorem c_X2_fillStanceLeads (G : qG) (l : Launch) {μ : Mem} {R : Rl} {i j : Nat} (hR0 : RlOK R) (hR1 : RollAt μ R) (hi : i < rFc R) (hj : j < rFc R) : CtrV G l M_X2_fillStanceLeads [.ref (qB G + 123), .ref (qB G + (23 + 2 * i)), .ref (qB G + (23 + 2 * j))] μ (fun μ' => Fr [35, 36, 124] μ μ' ∧ ∀ x y, x < 3 → y < 3 → μ'.1 124 (3 * x + y) = sl R i j x y) := by
  refine m_enterV [some (.ref (qB G + 123)), some (.ref (qB G + (23 + 2 * i))), some (.ref (qB G + (23 + 2 * j))), none, none] (by decide +kernel) rfl (Nat.le_of_ble_eq_true rfl) rfl (fun X hE hR => ?_)
  have hR : qR X = rm_X2_fillStanceLeads := hR
  show Zm G X cX2_fillStanceLeads RX2 _ 0 [some (.ref (qB G + 123)), some (.ref (qB G + (23 + 2 * i))), some (.ref (qB G + (23 + 2 * j))), none, none] []
  have h6 := hR0.1
  have i6 : i < 6 := by omega
  have j6 : j < 6 := by omega
  have inner : ∀ (x : Nat) (kk : ∀ μ1 : Mem, Fr [35, 36, 124] μ μ1 → (∀ x' y, x' < 3 → y < 3 → x' < x + 1 → μ1.1 124 (3 * x' + y) = sl R i j x' y) → Zm G X cX2_fillStanceLeads RX2 μ1 61 [some (.ref (qB G + 123)), some (.ref (qB G + (23 + 2 * i))), some (.ref (qB G + (23 + 2 * j))), some (.int (nI x)), some (.int (nI 3))] []), x < 3 → ∀ (n y : Nat) (μ1 : Mem), n + y = 3 → Fr [35, 36, 124] μ μ1 → (∀ x' y', x' < 3 → y' < 3 → (x' < x ∨ (x' = x ∧ y' < y)) → μ1.1 124 (3 * x' + y') = sl R i j x' y') → Zm G X cX2_fillStanceLeads RX2 μ1 10 [some (.ref (qB G + 123)), some (.ref (qB G + (23 + 2 * i))), some (.ref (qB G + (23 + 2 * j))), some (.int (nI x)), some (.int (nI y))] [] := by
    intro x kk hx n
    induction n with
    | zero =>
      intro y μ1 hn hF hL
      refine z_iload_4 iX2_fillStanceLeads_10 ?_
      refine z_iconst iX2_fillStanceLeads_12 kI_3 ?_
      refine z_icmp_geN iX2_fillStanceLeads_13 (by omega) (by omega) (fun q => ?_) (fun q => ?_)
      · rw [show y = 3 by omega]
        exact kk μ1 hF (fun x' y' h1 h2 h3 => hL x' y' h1 h2 (by omega))
      · omega
    | succ n ih =>
      intro y μ1 hn hF hL
      have hR2 : RollAt μ1 R := hR1.fr hR0 hF (by decide)
      have o1 : FeOK (rKd R i, rMv R i, x) := ⟨(hR0.2.2.1 i hi).1, fun j hj => ((hR0.2.2.1 i hi).2 j hj).1, hx⟩
      have o2 : FeOK (rKd R j, rMv R j, y) := ⟨(hR0.2.2.1 j hj).1, fun k hk => ((hR0.2.2.1 j hj).2 k hk).1, by show y < 3; omega⟩
      refine z_iload_4 iX2_fillStanceLeads_10 ?_
      refine z_iconst iX2_fillStanceLeads_12 kI_3 ?_
      refine z_icmp_geN iX2_fillStanceLeads_13 (by omega) (by omega) (fun q => ?_) (fun q => ?_)
      · omega
      · refine z_aload_0 iX2_fillStanceLeads_16 ?_
        refine m_getR iX2_fillStanceLeads_17 g_2_19 rfl ?_
        refine m_getR iX2_fillStanceLeads_20 g_2_70 rfl ?_
        refine z_aload_1 iX2_fillStanceLeads_23 ?_
        refine z_iload_3 iX2_fillStanceLeads_24 ?_
        refine z_aload_2 iX2_fillStanceLeads_25 ?_
        refine z_iload_4 iX2_fillStanceLeads_26 ?_
        refine z_bipush iX2_fillStanceLeads_28 kB_9 ?_
        refine z_iconst iX2_fillStanceLeads_30 kI_3 ?_
        refine m_callVv iX2_fillStanceLeads_31 l_2_74 f_X1_fight (c_X1_fight (F1 := (rKd R i, rMv R i, x)) (F2 := (rKd R j, rMv R j, y)) (most := 9) (en := 3) G _ (isFen_roll i i6) (isFen_roll j j6) ⟨(hR2.2.2.1 i hi).1, (hR2.2.2.1 i hi).2⟩ ⟨(hR2.2.2.1 j hj).1, (hR2.2.2.1 j hj).2⟩ o1 o2 (by omega) (by omega) (fen_out i6).1 (fen_out i6).2 (fen_out j6).1 (fen_out j6).2) rfl rfl rfl (Nat.le_of_ble_eq_true rfl) hR ft_X2_fillStanceLeads_X1_fight ⟨rfl, rfl⟩ ?_
        rintro μ2 ⟨hF2, hB⟩
        refine z_aload_0 iX2_fillStanceLeads_34 ?_
        refine m_getR iX2_fillStanceLeads_35 g_2_9 rfl ?_
        refine z_iconst iX2_fillStanceLeads_38 kI_3 ?_
        refine z_iload_3 iX2_fillStanceLeads_39 ?_
        refine z_imulN iX2_fillStanceLeads_40 ?_
        refine z_iload_4 iX2_fillStanceLeads_41 ?_
        refine z_iaddN iX2_fillStanceLeads_43 ?_
        refine z_aload_0 iX2_fillStanceLeads_44 ?_
        refine m_getR iX2_fillStanceLeads_45 g_2_19 rfl ?_
        refine m_getR iX2_fillStanceLeads_48 g_2_70 rfl ?_
        refine m_callVi iX2_fillStanceLeads_51 l_2_80 f_X1_lead (c_X1_lead G _) rfl rfl rfl (Nat.le_of_ble_eq_true rfl) hR ft_X2_fillStanceLeads_X1_lead ⟨rfl, rfl⟩ ?_
        rintro r μ3 ⟨rfl, rfl⟩
        refine z_top (show _ = sl R i j x y from by rw [hB.1, hB.2.1]; rfl) ?_
        refine m_iastN iX2_fillStanceLeads_54 rfl (by omega) ?_
        refine z_iinc_4N iX2_fillStanceLeads_55 rfl ?_
        refine z_goto iX2_fillStanceLeads_58 ?_
        refine ih (y + 1) _ (by omega) ((hF.trans (hF2.mono (by decide))).mw _ _ (by decide)) ?_
        intro x' y' h1 h2 h3
        by_cases e : x' = x ∧ y' = y
        · obtain ⟨rfl, rfl⟩ := e
          rw [mw_same]
        · rw [mw_ne _ _ (Or.inr (by omega)), hF2.1 124 (by decide)]
          exact hL x' y' h1 h2 (by omega)
  have outer : ∀ (n x : Nat) (μ1 : Mem) (w : Option Value), n + x = 3 → Fr [35, 36, 124] μ μ1 → (∀ x' y, x' < 3 → y < 3 → x' < x → μ1.1 124 (3 * x' + y) = sl R i j x' y) → Zm G X cX2_fillStanceLeads RX2 μ1 2 [some (.ref (qB G + 123)), some (.ref (qB G + (23 + 2 * i))), some (.ref (qB G + (23 + 2 * j))), some (.int (nI x)), w] [] := by
    intro n
    induction n with
    | zero =>
      intro x μ1 w hn hF hL
      refine z_iload_3 iX2_fillStanceLeads_2 ?_
      refine z_iconst iX2_fillStanceLeads_3 kI_3 ?_
      refine z_icmp_geN iX2_fillStanceLeads_4 (by omega) (by omega) (fun q => ?_) (fun q => ?_)
      · exact m_vret hE iX2_fillStanceLeads_67 ⟨hF, fun x' y h1 h2 => hL x' y h1 h2 (by omega)⟩
      · omega
    | succ n ih =>
      intro x μ1 w hn hF hL
      refine z_iload_3 iX2_fillStanceLeads_2 ?_
      refine z_iconst iX2_fillStanceLeads_3 kI_3 ?_
      refine z_icmp_geN iX2_fillStanceLeads_4 (by omega) (by omega) (fun q => ?_) (fun q => ?_)
      · omega
      · refine z_iconst iX2_fillStanceLeads_7 kI_0 ?_
        refine z_istore_4 iX2_fillStanceLeads_8 rfl ?_
        refine inner x ?_ (by omega) 3 0 μ1 (by omega) hF (fun x' y' h1 h2 h3 => hL x' y' h1 h2 (by omega))
        intro μ2 hF2 hL2
        refine z_iinc_3N iX2_fillStanceLeads_61 rfl ?_
        refine z_goto iX2_fillStanceLeads_64 ?_
        exact ih (x + 1) μ2 _ (by omega) hF2 hL2
  refine z_iconst iX2_fillStanceLeads_0 kI_0 ?_
  refine z_istore_3 iX2_fillStanceLeads_1 rfl ?_
  exact outer 3 0 μ _ (by omega) Fr.rf (fun x' y h1 h2 h3 => absurd h3 (by omega))
def rsP (s : Nat → Nat → Int32) (a b : Nat) : Prop := ∀ t, t < 3 → s t b ≤ s a b ∧ s a b ≤ s a t
/-- Chances.isRest -/
theorem c_X2_isRest (G : qG) (l : Launch) {μ : Mem} {s : Nat → Nat → Int32} {a b : Nat} (hs : ∀ x y, x < 3 → y < 3 → μ.1 124 (3 * x + y) = s x y) (ha : a < 3) (hb : b < 3) : CtrI G l M_X2_isRest [.ref (qB G + 123), .int (nI a), .int (nI b)] μ (fun r μ' => μ' = μ ∧ ((r = nI 1 ∧ rsP s a b) ∨ (r = nI 0 ∧ ¬ rsP s a b))) := by
  refine m_enterI [some (.ref (qB G + 123)), some (.int (nI a)), some (.int (nI b)), none, none] (by decide +kernel) rfl (Nat.le_of_ble_eq_true rfl) (fun X hE hR => ?_)
  have hR : qR X = rm_X2_isRest := hR
  have hE : EI G X _ (some .boolean) := hE
  show Zm G X cX2_isRest RX2 _ 0 [some (.ref (qB G + 123)), some (.int (nI a)), some (.int (nI b)), none, none] []
  have loop : ∀ (n t : Nat), n + t = 3 → (∀ t', t' < t → s t' b ≤ s a b ∧ s a b ≤ s a t') → Zm G X cX2_isRest RX2 μ 14 [some (.ref (qB G + 123)), some (.int (nI a)), some (.int (nI b)), some (.int (s a b)), some (.int (nI t))] [] := by
    intro n
    induction n with
    | zero =>
      intro t hn hP
      refine z_iload_4 iX2_isRest_14 ?_
      refine z_iconst iX2_isRest_16 kI_3 ?_
      refine z_icmp_geN iX2_isRest_17 (by omega) (by omega) (fun q => ?_) (fun q => ?_)
      · refine z_iconst iX2_isRest_58 kI_1 ?_
        exact m_zret hE iX2_isRest_59 rfl ⟨rfl, Or.inl ⟨rfl, fun t' h => hP t' (by omega)⟩⟩
      · omega
    | succ n ih =>
      intro t hn hP
      refine z_iload_4 iX2_isRest_14 ?_
      refine z_iconst iX2_isRest_16 kI_3 ?_
      refine z_icmp_geN iX2_isRest_17 (by omega) (by omega) (fun q => ?_) (fun q => ?_)
      · omega
      · refine z_aload_0 iX2_isRest_20 ?_
        refine m_getR iX2_isRest_21 g_2_9 rfl ?_
        refine z_iconst iX2_isRest_24 kI_3 ?_
        refine z_iload_4 iX2_isRest_25 ?_
        refine z_imulN iX2_isRest_27 ?_
        refine z_iload_2 iX2_isRest_28 ?_
        refine z_iaddN iX2_isRest_29 ?_
        refine m_ialdN iX2_isRest_30 rfl (by omega) ?_
        refine z_top (hs t b (by omega) hb) ?_
        refine z_iload_3 iX2_isRest_31 ?_
        refine z_icmp_gt iX2_isRest_32 (fun q2 => ?_) (fun q2 => ?_)
        · refine z_iconst iX2_isRest_50 kI_0 ?_
          exact m_zret hE iX2_isRest_51 rfl ⟨rfl, Or.inr ⟨rfl, fun z => absurd (z t (by omega)).1 (Int32.not_le.mpr q2)⟩⟩
        · refine z_aload_0 iX2_isRest_35 ?_
          refine m_getR iX2_isRest_36 g_2_9 rfl ?_
          refine z_iconst iX2_isRest_39 kI_3 ?_
          refine z_iload_1 iX2_isRest_40 ?_
          refine z_imulN iX2_isRest_41 ?_
          refine z_iload_4 iX2_isRest_42 ?_
          refine z_iaddN iX2_isRest_44 ?_
          refine m_ialdN iX2_isRest_45 rfl (by omega) ?_
          refine z_top (hs a t ha (by omega)) ?_
          refine z_iload_3 iX2_isRest_46 ?_
          refine z_icmp_ge iX2_isRest_47 (fun q3 => ?_) (fun q3 => ?_)
          · refine z_iinc_4N iX2_isRest_52 rfl ?_
            refine z_goto iX2_isRest_55 ?_
            refine ih (t + 1) (by omega) (fun t' h => ?_)
            by_cases e : t' = t
            · subst e; exact ⟨Int32.not_lt.mp q2, q3⟩
            · exact hP t' (by omega)
          · refine z_iconst iX2_isRest_50 kI_0 ?_
            exact m_zret hE iX2_isRest_51 rfl ⟨rfl, Or.inr ⟨rfl, fun z => q3 (z t (by omega)).2⟩⟩
  refine z_aload_0 iX2_isRest_0 ?_
  refine m_getR iX2_isRest_1 g_2_9 rfl ?_
  refine z_iconst iX2_isRest_4 kI_3 ?_
  refine z_iload_1 iX2_isRest_5 ?_
  refine z_imulN iX2_isRest_6 ?_
  refine z_iload_2 iX2_isRest_7 ?_
  refine z_iaddN iX2_isRest_8 ?_
  refine m_ialdN iX2_isRest_9 rfl (by omega) ?_
  refine z_top (hs a b ha hb) ?_
  refine z_istore_3 iX2_isRest_10 rfl ?_
  refine z_iconst iX2_isRest_11 kI_0 ?_
  refine z_istore_4 iX2_isRest_12 rfl ?_
  exact loop 3 0 (by omega) (fun t' h => absurd h (by omega))
/-- Chances.findRests -/
theorem c_X2_findRests (G : qG) (l : Launch) {μ : Mem} {R : Rl} {i j : Nat} {p : Nat → Bool} (hR0 : RlOK R) (hR1 : RollAt μ R) (hi : i < rFc R) (hj : j < rFc R) (hp : ∀ k, k < 9 → (p k = true ↔ rsP (sl R i j) (k / 3) (k % 3))) : CtrV G l M_X2_findRests [.ref (qB G + 123), .int (nI i), .int (nI j)] μ (fun μ' => Fr [35, 36, 123, 124] μ μ' ∧ μ'.1 123 4 = nI (cnt p 9) ∧ μ'.1 123 5 = fstV p (fun k => nI (10 * (k / 3) + k % 3)) 9) := by
  refine m_enterV [some (.ref (qB G + 123)), some (.int (nI i)), some (.int (nI j)), none, none] (by decide +kernel) rfl (Nat.le_of_ble_eq_true rfl) rfl (fun X hE hR => ?_)
  have hR : qR X = rm_X2_findRests := hR
  show Zm G X cX2_findRests RX2 _ 0 [some (.ref (qB G + 123)), some (.int (nI i)), some (.int (nI j)), none, none] []
  have h6 := hR0.1
  refine z_aload_0 iX2_findRests_0 ?_
  refine z_aload_0 iX2_findRests_1 ?_
  refine m_getR iX2_findRests_2 g_2_19 rfl ?_
  refine m_getR iX2_findRests_5 g_2_35 rfl ?_
  refine m_getR iX2_findRests_8 g_2_52 rfl ?_
  refine z_iload_1 iX2_findRests_11 ?_
  refine m_aaldN iX2_findRests_12 rfl (by decide) (by omega) ?_
  refine z_aload_0 iX2_findRests_13 ?_
  refine m_getR iX2_findRests_14 g_2_19 rfl ?_
  refine m_getR iX2_findRests_17 g_2_35 rfl ?_
  refine m_getR iX2_findRests_20 g_2_52 rfl ?_
  refine z_iload_2 iX2_findRests_23 ?_
  refine m_aaldN iX2_findRests_24 rfl (by decide) (by omega) ?_
  refine m_callVv iX2_findRests_25 l_2_56 f_X2_fillStanceLeads (c_X2_fillStanceLeads G _ hR0 hR1 hi hj) rfl rfl rfl (Nat.le_of_ble_eq_true rfl) hR ft_X2_findRests_X2_fillStanceLeads ⟨rfl, rfl⟩ ?_
  rintro μ0 ⟨hF0, hS⟩
  have inner : ∀ (x : Nat) (kk : ∀ μ1 : Mem, Fr [35, 36, 123, 124] μ μ1 → μ1.1 124 = μ0.1 124 → μ1.1 123 4 = nI (cnt p (3 * (x + 1))) → μ1.1 123 5 = fstV p (fun k => nI (10 * (k / 3) + k % 3)) (3 * (x + 1)) → Zm G X cX2_findRests RX2 μ1 106 [some (.ref (qB G + 123)), some (.int (nI i)), some (.int (nI j)), some (.int (nI x)), some (.int (nI 3))] []), x < 3 → ∀ (n y : Nat) (μ1 : Mem), n + y = 3 → Fr [35, 36, 123, 124] μ μ1 → μ1.1 124 = μ0.1 124 → μ1.1 123 4 = nI (cnt p (3 * x + y)) → μ1.1 123 5 = fstV p (fun k => nI (10 * (k / 3) + k % 3)) (3 * x + y) → Zm G X cX2_findRests RX2 μ1 49 [some (.ref (qB G + 123)), some (.int (nI i)), some (.int (nI j)), some (.int (nI x)), some (.int (nI y))] [] := by
    intro x kk hx n
    induction n with
    | zero =>
      intro y μ1 hn hF h24 e4 e5
      refine z_iload_4 iX2_findRests_49 ?_
      refine z_iconst iX2_findRests_51 kI_3 ?_
      refine z_icmp_geN iX2_findRests_52 (by omega) (by omega) (fun q => ?_) (fun q => ?_)
      · rw [show y = 3 by omega]
        exact kk μ1 hF h24 (by rw [e4]; congr 2; omega) (by rw [e5]; congr 1; omega)
      · omega
    | succ n ih =>
      intro y μ1 hn hF h24 e4 e5
      have hc := cnt_le p (3 * x + y)
      have hk1 : (3 * x + y) / 3 = x := by omega
      have hk2 : (3 * x + y) % 3 = y := by omega
      refine z_iload_4 iX2_findRests_49 ?_
      refine z_iconst iX2_findRests_51 kI_3 ?_
      refine z_icmp_geN iX2_findRests_52 (by omega) (by omega) (fun q => ?_) (fun q => ?_)
      · omega
      · refine z_aload_0 iX2_findRests_55 ?_
        refine z_iload_3 iX2_findRests_56 ?_
        refine z_iload_4 iX2_findRests_57 ?_
        refine m_callVi iX2_findRests_59 l_2_66 f_X2_isRest (c_X2_isRest (s := sl R i j) G _ (fun a b h1 h2 => by rw [h24]; exact hS a b h1 h2) hx (by omega)) rfl rfl rfl (Nat.le_of_ble_eq_true rfl) hR ft_X2_findRests_X2_isRest ⟨rfl, rfl⟩ ?_
        rintro r μ2 ⟨rfl, h | h⟩ <;> obtain ⟨rfl, h⟩ := h
        · have hpn : p (3 * x + y) = true := (hp _ (by omega)).mpr (by rw [hk1, hk2]; exact h)
          have fin : ∀ v : Int32, v = fstV p (fun k => nI (10 * (k / 3) + k % 3)) (3 * x + y + 1) → Zm G X cX2_findRests RX2 μ2 87 [some (.ref (qB G + 123)), some (.int (nI i)), some (.int (nI j)), some (.int (nI x)), some (.int (nI y))] [.int v, .ref (qB G + 123)] := by
            intro v hv
            refine m_putI iX2_findRests_87 p_2_63 rfl ?_
            refine z_aload_0 iX2_findRests_90 ?_
            refine z_dup iX2_findRests_91 rfl ?_
            refine m_getI iX2_findRests_92 g_2_60 rfl ?_
            refine z_top ((mw_ne _ _ (Or.inr (by decide))).trans e4) ?_
            refine z_iconst iX2_findRests_95 kI_1 ?_
            refine z_iaddN iX2_findRests_96 ?_
            refine m_putI iX2_findRests_97 p_2_60 rfl ?_
            refine z_iinc_4N iX2_findRests_100 rfl ?_
            refine z_goto iX2_findRests_103 ?_
            refine ih (y + 1) _ (by omega) ((hF.mw _ _ (by decide)).mw _ _ (by decide)) (by rw [mw_other _ _ (by decide), mw_other _ _ (by decide)]; exact h24) ?_ ?_
            · rw [mw_same, ← cnt_t hpn]; rfl
            · rw [mw_ne _ _ (Or.inr (by decide)), mw_same]; exact hv
          refine z_if_eq iX2_findRests_62 (fun q2 => ?_) (fun q2 => ?_)
          · exact absurd q2 nI10
          · refine z_aload_0 iX2_findRests_65 ?_
            refine z_aload_0 iX2_findRests_66 ?_
            refine m_getI iX2_findRests_67 g_2_60 rfl ?_
            refine z_top (e4) ?_
            refine z_if_neN iX2_findRests_70 (by omega) (fun q3 => ?_) (fun q3 => ?_)
            · refine z_aload_0 iX2_findRests_83 ?_
              refine m_getI iX2_findRests_84 g_2_63 rfl ?_
              refine z_top (e5) ?_
              exact fin _ (by rw [fstV_s2 q3])
            · refine z_bipush iX2_findRests_73 kB_10 ?_
              refine z_iload_3 iX2_findRests_75 ?_
              refine z_imulN iX2_findRests_76 ?_
              refine z_iload_4 iX2_findRests_77 ?_
              refine z_iaddN iX2_findRests_79 ?_
              refine z_goto iX2_findRests_80 ?_
              exact fin _ (by rw [fstV_s1 hpn q3, hk1, hk2])
        · have hpn : p (3 * x + y) = false := by
            cases hq : p (3 * x + y) with
            | false => rfl
            | true => exact absurd (by have := (hp _ (by omega)).mp hq; rw [hk1, hk2] at this; exact this) h
          refine z_if_eq iX2_findRests_62 (fun q2 => ?_) (fun q2 => ?_)
          · refine z_iinc_4N iX2_findRests_100 rfl ?_
            refine z_goto iX2_findRests_103 ?_
            exact ih (y + 1) μ2 (by omega) hF h24 (by rw [e4, ← cnt_f hpn]; rfl) (by rw [e5, ← fstV_s3 hpn]; rfl)
          · exact absurd nI00 q2
  have outer : ∀ (n x : Nat) (μ1 : Mem) (w : Option Value), n + x = 3 → Fr [35, 36, 123, 124] μ μ1 → μ1.1 124 = μ0.1 124 → μ1.1 123 4 = nI (cnt p (3 * x)) → μ1.1 123 5 = fstV p (fun k => nI (10 * (k / 3) + k % 3)) (3 * x) → Zm G X cX2_findRests RX2 μ1 41 [some (.ref (qB G + 123)), some (.int (nI i)), some (.int (nI j)), some (.int (nI x)), w] [] := by
    intro n
    induction n with
    | zero =>
      intro x μ1 w hn hF h24 e4 e5
      refine z_iload_3 iX2_findRests_41 ?_
      refine z_iconst iX2_findRests_42 kI_3 ?_
      refine z_icmp_geN iX2_findRests_43 (by omega) (by omega) (fun q => ?_) (fun q => ?_)
      · exact m_vret hE iX2_findRests_112 ⟨hF, by rw [e4, show x = 3 by omega], by rw [e5, show x = 3 by omega]⟩
      · omega
    | succ n ih =>
      intro x μ1 w hn hF h24 e4 e5
      refine z_iload_3 iX2_findRests_41 ?_
      refine z_iconst iX2_findRests_42 kI_3 ?_
      refine z_icmp_geN iX2_findRests_43 (by omega) (by omega) (fun q => ?_) (fun q => ?_)
      · omega
      · refine z_iconst iX2_findRests_46 kI_0 ?_
        refine z_istore_4 iX2_findRests_47 rfl ?_
        refine inner x ?_ (by omega) 3 0 μ1 (by omega) hF h24 e4 e5
        intro μ2 hF2 h242 g4 g5
        refine z_iinc_3N iX2_findRests_106 rfl ?_
        refine z_goto iX2_findRests_109 ?_
        exact ih (x + 1) μ2 _ (by omega) hF2 h242 g4 g5
  refine z_aload_0 iX2_findRests_28 ?_
  refine z_iconst iX2_findRests_29 kI_0 ?_
  refine m_putI iX2_findRests_30 p_2_60 rfl ?_
  refine z_aload_0 iX2_findRests_33 ?_
  refine z_bipush (x := -9) iX2_findRests_34 (by decide) ?_
  refine m_putI iX2_findRests_36 p_2_63 rfl ?_
  refine z_iconst iX2_findRests_39 kI_0 ?_
  refine z_istore_3 iX2_findRests_40 rfl ?_
  refine outer 3 0 _ _ (by omega) (((hF0.mono (by decide)).mw _ _ (by decide)).mw _ _ (by decide)) (by rw [mw_other _ _ (by decide), mw_other _ _ (by decide)]) ?_ ?_
  · rw [mw_ne _ _ (Or.inr (by decide)), mw_same]; rfl
  · rw [mw_same]; rfl

/-! CHANCES: clouded bouts, shares, fractions in least terms -/
def made (F1 F2 : Fe) (t : Nat) : Nat := fHit (fIt F1 F2 (t + 1)).1 (fIt F1 F2 (t + 1)).2.1 F2.1
def takn (F1 F2 : Fe) (t : Nat) : Nat := fHit (fIt F1 F2 (t + 1)).2.1 (fIt F1 F2 (t + 1)).1 F1.1
theorem q_acc {M K b m k : Nat} : nI M - nI K + nI b * (nI m - nI k) = nI (M + b * m) - nI (K + b * k) := by
  rw [← nI_add, ← nI_add, ← pk_mul, ← pk_mul]
  grind
/-- Chances.leadIn -/
theorem c_X2_leadIn (G : qG) (l : Launch) {μ : Mem} {s : Nat} {mk tk : Nat → Nat} (hs : s < 64) (hl : ∀ t, t < 6 → μ.1 36 t = nI (mk t) - nI (tk t)) : CtrI G l M_X2_leadIn [.ref (qB G + 123), .int (nI s)] μ (fun r μ' => μ' = μ ∧ r = nI (sumN (fun t => bitN s t * mk t) 6) - nI (sumN (fun t => bitN s t * tk t) 6)) := by
  refine m_enterI [some (.ref (qB G + 123)), some (.int (nI s)), none, none] (by decide +kernel) rfl (Nat.le_of_ble_eq_true rfl) (fun X hE hR => ?_)
  have hR : qR X = rm_X2_leadIn := hR
  have hE : EI G X _ (some .int) := hE
  show Zm G X cX2_leadIn RX2 _ 0 [some (.ref (qB G + 123)), some (.int (nI s)), none, none] []
  have loop : ∀ (n t : Nat), n + t = 6 → Zm G X cX2_leadIn RX2 μ 4 [some (.ref (qB G + 123)), some (.int (nI s)), some (.int (nI (sumN (fun t => bitN s t * mk t) t) - nI (sumN (fun t => bitN s t * tk t) t))), some (.int (nI t))] [] := by
    intro n
    induction n with
    | zero =>
      intro t hn
      refine z_iload_3 iX2_leadIn_4 ?_
      refine z_bipush iX2_leadIn_5 kB_6 ?_
      refine z_icmp_geN iX2_leadIn_7 (by omega) (by omega) (fun q => ?_) (fun q => ?_)
      · refine z_iload_2 iX2_leadIn_37 ?_
        exact m_iret hE iX2_leadIn_38 ⟨rfl, by rw [show t = 6 by omega]⟩
      · omega
    | succ n ih =>
      intro t hn
      refine z_iload_3 iX2_leadIn_4 ?_
      refine z_bipush iX2_leadIn_5 kB_6 ?_
      refine z_icmp_geN iX2_leadIn_7 (by omega) (by omega) (fun q => ?_) (fun q => ?_)
      · omega
      · refine z_iload_2 iX2_leadIn_10 ?_
        refine z_iload_1 iX2_leadIn_11 ?_
        refine z_iload_3 iX2_leadIn_12 ?_
        refine z_ishr iX2_leadIn_13 ?_
        refine z_iconst iX2_leadIn_14 kI_1 ?_
        refine z_iand iX2_leadIn_15 ?_
        refine z_top (q_bit s hs t (by omega)) ?_
        refine z_aload_0 iX2_leadIn_16 ?_
        refine m_getR iX2_leadIn_17 g_2_19 rfl ?_
        refine m_getR iX2_leadIn_20 g_2_70 rfl ?_
        refine m_getR iX2_leadIn_23 g_2_101 rfl ?_
        refine z_iload_3 iX2_leadIn_26 ?_
        refine m_ialdN iX2_leadIn_27 rfl (by omega) ?_
        refine z_top (hl t (by omega)) ?_
        refine z_imul iX2_leadIn_28 ?_
        refine z_iadd iX2_leadIn_29 ?_
        refine z_top q_acc ?_
        refine z_istore_2 iX2_leadIn_30 rfl ?_
        refine z_iinc_3N iX2_leadIn_31 rfl ?_
        refine z_goto iX2_leadIn_34 ?_
        exact ih (t + 1) (by omega)
  refine z_iconst iX2_leadIn_0 kI_0 ?_
  refine z_top (show nI 0 = nI (sumN (fun t => bitN s t * mk t) 0) - nI (sumN (fun t => bitN s t * tk t) 0) from by show nI 0 = nI 0 - nI 0; decide) ?_
  refine z_istore_2 iX2_leadIn_1 rfl ?_
  refine z_iconst iX2_leadIn_2 kI_0 ?_
  refine z_istore_3 iX2_leadIn_3 rfl ?_
  exact loop 6 0 (by omega)
def prodN (f : Nat → Nat) : Nat → Nat
  | 0 => 1
  | n + 1 => prodN f n * f n
/-- the weight of what was seen -/
def wgt (s x : Nat) : Nat := prodN (fun t => if bitN s t = 1 then 10 - x else x) 6
/-- Chances.weightOf -/
theorem c_X2_weightOf (G : qG) (l : Launch) {μ : Mem} {s x : Nat} (hs : s < 64) (hx : x ≤ 10) : CtrI G l M_X2_weightOf [.int (nI s), .int (nI x)] μ (fun r μ' => μ' = μ ∧ r = nI (wgt s x)) := by
  refine m_enterI [some (.int (nI s)), some (.int (nI x)), none, none] (by decide +kernel) rfl (Nat.le_of_ble_eq_true rfl) (fun X hE hR => ?_)
  have hR : qR X = rm_X2_weightOf := hR
  have hE : EI G X _ (some .int) := hE
  show Zm G X cX2_weightOf RX2 _ 0 [some (.int (nI s)), some (.int (nI x)), none, none] []
  have loop : ∀ (n t : Nat), n + t = 6 → Zm G X cX2_weightOf RX2 μ 4 [some (.int (nI s)), some (.int (nI x)), some (.int (nI (prodN (fun t => if bitN s t = 1 then 10 - x else x) t))), some (.int (nI t))] [] := by
    intro n
    induction n with
    | zero =>
      intro t hn
      refine z_iload_3 iX2_weightOf_4 ?_
      refine z_bipush iX2_weightOf_5 kB_6 ?_
      refine z_icmp_geN iX2_weightOf_7 (by omega) (by omega) (fun q => ?_) (fun q => ?_)
      · refine z_iload_2 iX2_weightOf_36 ?_
        exact m_iret hE iX2_weightOf_37 ⟨rfl, by rw [show t = 6 by omega]; rfl⟩
      · omega
    | succ n ih =>
      intro t hn
      have hb := bitN_lt s t
      refine z_iload_3 iX2_weightOf_4 ?_
      refine z_bipush iX2_weightOf_5 kB_6 ?_
      refine z_icmp_geN iX2_weightOf_7 (by omega) (by omega) (fun q => ?_) (fun q => ?_)
      · omega
      · refine z_iload_2 iX2_weightOf_10 ?_
        refine z_iload_0 iX2_weightOf_11 ?_
        refine z_iload_3 iX2_weightOf_12 ?_
        refine z_ishr iX2_weightOf_13 ?_
        refine z_iconst iX2_weightOf_14 kI_1 ?_
        refine z_iand iX2_weightOf_15 ?_
        refine z_top (q_bit s hs t (by omega)) ?_
        refine z_iconst iX2_weightOf_16 kI_1 ?_
        refine z_icmp_neN iX2_weightOf_17 (by omega) (by omega) (fun q2 => ?_) (fun q2 => ?_)
        · refine z_iload_1 iX2_weightOf_27 ?_
          refine z_imulN iX2_weightOf_28 ?_
          refine z_istore_2 iX2_weightOf_29 rfl ?_
          refine z_iinc_3N iX2_weightOf_30 rfl ?_
          refine z_goto iX2_weightOf_33 ?_
          have e : prodN (fun t => if bitN s t = 1 then 10 - x else x) (t + 1) = prodN (fun t => if bitN s t = 1 then 10 - x else x) t * x := by simp [prodN, q2]
          rw [← e]
          exact ih (t + 1) (by omega)
        · refine z_bipush iX2_weightOf_20 kB_10 ?_
          refine z_iload_1 iX2_weightOf_22 ?_
          refine z_isubN iX2_weightOf_23 (by omega) ?_
          refine z_goto iX2_weightOf_24 ?_
          refine z_imulN iX2_weightOf_28 ?_
          refine z_istore_2 iX2_weightOf_29 rfl ?_
          refine z_iinc_3N iX2_weightOf_30 rfl ?_
          refine z_goto iX2_weightOf_33 ?_
          have e : prodN (fun t => if bitN s t = 1 then 10 - x else x) (t + 1) = prodN (fun t => if bitN s t = 1 then 10 - x else x) t * (10 - x) := by simp [prodN, q2]
          rw [← e]
          exact ih (t + 1) (by omega)
  refine z_iconst iX2_weightOf_0 kI_1 ?_
  refine z_istore_2 iX2_weightOf_1 rfl ?_
  refine z_iconst iX2_weightOf_2 kI_0 ?_
  refine z_istore_3 iX2_weightOf_3 rfl ?_
  exact loop 6 0 (by omega)
theorem wgt_sum : ∀ x, x < 11 → sumN (fun s => wgt s x) 64 = 1000000 := by decide +kernel
/-- more hits than the other one of what was seen -/
def clP (F1 F2 : Fe) (s : Nat) : Prop := sumN (fun t => bitN s t * takn F1 F2 t) 6 < sumN (fun t => bitN s t * made F1 F2 t) 6
theorem sum6 {f : Nat → Nat} (h : ∀ t, f t ≤ 1) : sumN f 6 ≤ 6 := by
  have := sumN_le (f := f) (g := fun _ => 1) 6 (fun i _ => h i)
  exact this
theorem fLen_far (F1 F2 : Fe) {en : Nat} (he : 100 < en) : ∀ n p, n + p ≤ 9 → fLen F1 F2 en n p = n + p
  | 0, p, _ => by simp [fLen]
  | n + 1, p, h => by
    have := fIt_le F1 F2 p
    unfold fLen
    rw [if_neg (by omega), fLen_far F1 F2 he n (p + 1) (by omega)]
    omega
/-- Chances.findClouded -/
theorem c_X2_findClouded (G : qG) (l : Launch) {μ : Mem} {R : Rl} {H : Hd} {i j x : Nat} {p : Nat → Bool} (hR0 : RlOK R) (hH0 : HdOK R H) (hR1 : RollAt μ R) (hH1 : HoldAt μ 38 R H) (hi : i < rFc R) (hj : j < rFc R) (hx : x ≤ 10) (hp : ∀ s, s < 64 → (p s = true ↔ clP (feOf R H i) (feOf R H j) s)) : CtrV G l M_X2_findClouded [.ref (qB G + 123), .int (nI i), .int (nI j), .int (nI x)] μ (fun μ' => Fr [35, 36, 123] μ μ' ∧ μ'.1 123 2 = nI (sumN (fun s => if p s then wgt s x else 0) 64) ∧ μ'.1 123 3 = nI 1000000) := by
  refine m_enterV [some (.ref (qB G + 123)), some (.int (nI i)), some (.int (nI j)), some (.int (nI x)), none] (by decide +kernel) rfl (Nat.le_of_ble_eq_true rfl) rfl (fun X hE hR => ?_)
  have hR : qR X = rm_X2_findClouded := hR
  show Zm G X cX2_findClouded RX2 _ 0 [some (.ref (qB G + 123)), some (.int (nI i)), some (.int (nI j)), some (.int (nI x)), none] []
  have h6 := hR0.1
  have i6 : i < 6 := by omega
  have j6 : j < 6 := by omega
  refine z_aload_0 iX2_findClouded_0 ?_
  refine m_getR iX2_findClouded_1 g_2_19 rfl ?_
  refine m_getR iX2_findClouded_4 g_2_70 rfl ?_
  refine z_aload_0 iX2_findClouded_7 ?_
  refine m_getR iX2_findClouded_8 g_2_19 rfl ?_
  refine m_getR iX2_findClouded_11 g_2_35 rfl ?_
  refine m_getR iX2_findClouded_14 g_2_52 rfl ?_
  refine z_iload_1 iX2_findClouded_17 ?_
  refine m_aaldN iX2_findClouded_18 rfl (by decide) i6 ?_
  refine z_aload_0 iX2_findClouded_19 ?_
  refine m_getR iX2_findClouded_20 g_2_19 rfl ?_
  refine m_getR iX2_findClouded_23 g_2_84 rfl ?_
  refine m_getR iX2_findClouded_26 g_2_88 rfl ?_
  refine z_iload_1 iX2_findClouded_29 ?_
  refine m_ialdN iX2_findClouded_30 rfl i6 ?_
  refine z_top (hH1.2.2.1 i i6) ?_
  refine z_aload_0 iX2_findClouded_31 ?_
  refine m_getR iX2_findClouded_32 g_2_19 rfl ?_
  refine m_getR iX2_findClouded_35 g_2_35 rfl ?_
  refine m_getR iX2_findClouded_38 g_2_52 rfl ?_
  refine z_iload_2 iX2_findClouded_41 ?_
  refine m_aaldN iX2_findClouded_42 rfl (by decide) j6 ?_
  refine z_aload_0 iX2_findClouded_43 ?_
  refine m_getR iX2_findClouded_44 g_2_19 rfl ?_
  refine m_getR iX2_findClouded_47 g_2_84 rfl ?_
  refine m_getR iX2_findClouded_50 g_2_88 rfl ?_
  refine z_iload_2 iX2_findClouded_53 ?_
  refine m_ialdN iX2_findClouded_54 rfl j6 ?_
  refine z_top (hH1.2.2.1 j j6) ?_
  refine z_bipush iX2_findClouded_55 kB_6 ?_
  refine z_ldc iX2_findClouded_57 k_2_93 ?_
  refine z_top (show (1000000 : Int32) = nI 1000000 by decide) ?_
  refine m_callVv iX2_findClouded_59 l_2_74 f_X1_fight (c_X1_fight (F1 := feOf R H i) (F2 := feOf R H j) (most := 6) (en := 1000000) G _ (isFen_roll i i6) (isFen_roll j j6) (hR1.fen hi) (hR1.fen hj) (feOK hR0 hH0 hi) (feOK hR0 hH0 hj) (by omega) (by omega) (fen_out i6).1 (fen_out i6).2 (fen_out j6).1 (fen_out j6).2) rfl rfl rfl (Nat.le_of_ble_eq_true rfl) hR ft_X2_findClouded_X1_fight ⟨rfl, rfl⟩ ?_
  rintro μ0 ⟨hF0, hB⟩
  rw [fLen_far _ _ (by omega) 6 0 (by omega)] at hB
  have hl : ∀ t, t < 6 → μ0.1 36 t = nI (made (feOf R H i) (feOf R H j) t) - nI (takn (feOf R H i) (feOf R H j) t) := fun t ht => hB.2.2.2 t (by omega)
  have sums : ∀ (n s : Nat) (μ1 : Mem), n + s = 64 → Fr [35, 36, 123] μ μ1 → μ1.1 36 = μ0.1 36 → μ1.1 123 3 = nI 1000000 → μ1.1 123 2 = nI (sumN (fun s => if p s then wgt s x else 0) s) → Zm G X cX2_findClouded RX2 μ1 102 [some (.ref (qB G + 123)), some (.int (nI i)), some (.int (nI j)), some (.int (nI x)), some (.int (nI s))] [] := by
    intro n
    induction n with
    | zero =>
      intro s μ1 hn hF h36 e3 e2
      refine z_iload_4 iX2_findClouded_102 ?_
      refine z_bipush iX2_findClouded_104 kB_64 ?_
      refine z_icmp_geN iX2_findClouded_106 (by omega) (by omega) (fun q => ?_) (fun q => ?_)
      · exact m_vret hE iX2_findClouded_139 ⟨hF, by rw [e2, show s = 64 by omega], e3⟩
      · omega
    | succ n ih =>
      intro s μ1 hn hF h36 e3 e2
      have hs : s < 64 := by omega
      refine z_iload_4 iX2_findClouded_102 ?_
      refine z_bipush iX2_findClouded_104 kB_64 ?_
      refine z_icmp_geN iX2_findClouded_106 (by omega) (by omega) (fun q => ?_) (fun q => ?_)
      · omega
      · refine z_aload_0 iX2_findClouded_109 ?_
        refine z_iload_4 iX2_findClouded_110 ?_
        refine m_callVi iX2_findClouded_112 l_2_94 f_X2_leadIn (c_X2_leadIn (mk := made (feOf R H i) (feOf R H j)) (tk := takn (feOf R H i) (feOf R H j)) G _ hs (fun t ht => by rw [h36]; exact hl t ht)) rfl rfl rfl (Nat.le_of_ble_eq_true rfl) hR ft_X2_findClouded_X2_leadIn ⟨rfl, rfl⟩ ?_
        rintro r μ2 ⟨rfl, rfl⟩
        have hm1 : ∀ t, bitN s t * made (feOf R H i) (feOf R H j) t ≤ 1 := fun t => by
          have h1 := bitN_lt s t
          have h2 : made (feOf R H i) (feOf R H j) t ≤ 1 := fHit_le _ _ _
          calc bitN s t * made (feOf R H i) (feOf R H j) t ≤ 1 * 1 := Nat.mul_le_mul (by omega) h2
            _ = 1 := rfl
        have hk1 : ∀ t, bitN s t * takn (feOf R H i) (feOf R H j) t ≤ 1 := fun t => by
          have h1 := bitN_lt s t
          have h2 : takn (feOf R H i) (feOf R H j) t ≤ 1 := fHit_le _ _ _
          calc bitN s t * takn (feOf R H i) (feOf R H j) t ≤ 1 * 1 := Nat.mul_le_mul (by omega) h2
            _ = 1 := rfl
        have b1 := sum6 hm1
        have b2 := sum6 hk1
        refine z_if_le iX2_findClouded_115 (fun q2 => ?_) (fun q2 => ?_)
        · have q3 := (q_sign (by omega) (by omega)).mp q2
          have hpn : p s = false := by
            cases hq : p s with
            | false => rfl
            | true => have := (hp s hs).mp hq; unfold clP at this; omega
          refine z_iinc_4N iX2_findClouded_133 rfl ?_
          refine z_goto iX2_findClouded_136 ?_
          exact ih (s + 1) μ2 (by omega) hF h36 e3 (by rw [e2]; simp [sumN, hpn])
        · have q3 : ¬ sumN (fun t => bitN s t * made (feOf R H i) (feOf R H j) t) 6 ≤ sumN (fun t => bitN s t * takn (feOf R H i) (feOf R H j) t) 6 := fun z => q2 ((q_sign (by omega) (by omega)).mpr z)
          have hpn : p s = true := (hp s hs).mpr (by unfold clP; omega)
          refine z_aload_0 iX2_findClouded_118 ?_
          refine z_dup iX2_findClouded_119 rfl ?_
          refine m_getI iX2_findClouded_120 g_2_32 rfl ?_
          refine z_top (e2) ?_
          refine z_iload_4 iX2_findClouded_123 ?_
          refine z_iload_3 iX2_findClouded_125 ?_
          refine m_callSi iX2_findClouded_126 l_2_97 f_X2_weightOf (c_X2_weightOf G _ hs hx) rfl rfl (Nat.le_of_ble_eq_true rfl) hR ft_X2_findClouded_X2_weightOf ⟨rfl, rfl⟩ ?_
          rintro r μ3 ⟨rfl, rfl⟩
          refine z_iaddN iX2_findClouded_129 ?_
          refine m_putI iX2_findClouded_130 p_2_32 rfl ?_
          refine z_iinc_4N iX2_findClouded_133 rfl ?_
          refine z_goto iX2_findClouded_136 ?_
          refine ih (s + 1) _ (by omega) (hF.mw _ _ (by decide)) (by rw [mw_other _ _ (by decide)]; exact h36) (by rw [mw_ne _ _ (Or.inr (by decide))]; exact e3) ?_
          rw [mw_same]; simp [sumN, hpn]
  have tens : ∀ (n t : Nat) (μ1 : Mem), n + t = 6 → Fr [35, 36, 123] μ μ1 → μ1.1 36 = μ0.1 36 → μ1.1 123 2 = nI 0 → μ1.1 123 3 = nI (10 ^ t) → Zm G X cX2_findClouded RX2 μ1 75 [some (.ref (qB G + 123)), some (.int (nI i)), some (.int (nI j)), some (.int (nI x)), some (.int (nI t))] [] := by
    intro n
    induction n with
    | zero =>
      intro t μ1 hn hF h36 e2 e3
      refine z_iload_4 iX2_findClouded_75 ?_
      refine z_bipush iX2_findClouded_77 kB_6 ?_
      refine z_icmp_geN iX2_findClouded_79 (by omega) (by omega) (fun q => ?_) (fun q => ?_)
      · refine z_iconst iX2_findClouded_99 kI_0 ?_
        refine z_istore_4 iX2_findClouded_100 rfl ?_
        exact sums 64 0 μ1 (by omega) hF h36 (by rw [e3, show t = 6 by omega]) e2
      · omega
    | succ n ih =>
      intro t μ1 hn hF h36 e2 e3
      refine z_iload_4 iX2_findClouded_75 ?_
      refine z_bipush iX2_findClouded_77 kB_6 ?_
      refine z_icmp_geN iX2_findClouded_79 (by omega) (by omega) (fun q => ?_) (fun q => ?_)
      · omega
      · refine z_aload_0 iX2_findClouded_82 ?_
        refine z_dup iX2_findClouded_83 rfl ?_
        refine m_getI iX2_findClouded_84 g_2_15 rfl ?_
        refine z_top (e3) ?_
        refine z_bipush iX2_findClouded_87 kB_10 ?_
        refine z_imulN iX2_findClouded_89 ?_
        refine m_putI iX2_findClouded_90 p_2_15 rfl ?_
        refine z_iinc_4N iX2_findClouded_93 rfl ?_
        refine z_goto iX2_findClouded_96 ?_
        exact ih (t + 1) _ (by omega) (hF.mw _ _ (by decide)) (by rw [mw_other _ _ (by decide)]; exact h36) (by rw [mw_ne _ _ (Or.inr (by decide))]; exact e2) (by rw [mw_same]; rfl)
  refine z_aload_0 iX2_findClouded_62 ?_
  refine z_iconst iX2_findClouded_63 kI_0 ?_
  refine m_putI iX2_findClouded_64 p_2_32 rfl ?_
  refine z_aload_0 iX2_findClouded_67 ?_
  refine z_iconst iX2_findClouded_68 kI_1 ?_
  refine m_putI iX2_findClouded_69 p_2_15 rfl ?_
  refine z_iconst iX2_findClouded_72 kI_0 ?_
  refine z_istore_4 iX2_findClouded_73 rfl ?_
  refine tens 6 0 _ (by omega) (((hF0.mono (by decide)).mw _ _ (by decide)).mw _ _ (by decide)) (by rw [mw_other _ _ (by decide), mw_other _ _ (by decide)]) ?_ ?_
  · rw [mw_ne _ _ (Or.inr (by decide)), mw_same]
  · rw [mw_same]
/-- Chances.greatestDivisor -/
theorem c_X2_greatestDivisor (G : qG) (l : Launch) {μ : Mem} {ab be : Nat} (h2 : μ.1 123 2 = nI ab) (h3 : μ.1 123 3 = nI be) (ha : ab ≤ 1000000) (hb : be < 2 ^ 31) : CtrI G l M_X2_greatestDivisor [.ref (qB G + 123)] μ (fun r μ' => μ' = μ ∧ r = nI (Nat.gcd be ab)) := by
  refine m_enterI [some (.ref (qB G + 123)), none, none, none, none] (by decide +kernel) rfl (Nat.le_of_ble_eq_true rfl) (fun X hE hR => ?_)
  have hR : qR X = rm_X2_greatestDivisor := hR
  have hE : EI G X _ (some .int) := hE
  show Zm G X cX2_greatestDivisor RX2 _ 0 [some (.ref (qB G + 123)), none, none, none, none] []
  have loop : ∀ (n g le rd : Nat) (w : Option Value), le ≤ n → rd + le ≤ 1000000 → g < 2 ^ 31 → le < 2 ^ 31 → Nat.gcd g le = Nat.gcd be ab → Zm G X cX2_greatestDivisor RX2 μ 12 [some (.ref (qB G + 123)), some (.int (nI g)), some (.int (nI le)), some (.int (nI rd)), w] [] := by
    intro n
    induction n with
    | zero =>
      intro g le rd w hn hr hg hl he
      have hle : le = 0 := by omega
      subst hle
      have eg : g = Nat.gcd be ab := by rw [← he]; simp
      refine z_iload_3 iX2_greatestDivisor_12 ?_
      refine z_ldc iX2_greatestDivisor_13 k_2_93 ?_
      refine z_top (show (1000000 : Int32) = nI 1000000 by decide) ?_
      refine z_icmp_geN iX2_greatestDivisor_15 (by omega) (by omega) (fun q => ?_) (fun q => ?_)
      · refine z_iload_1 iX2_greatestDivisor_38 ?_
        exact m_iret hE iX2_greatestDivisor_39 ⟨rfl, by rw [eg]⟩
      · refine z_iload_2 iX2_greatestDivisor_18 ?_
        refine z_if_leN iX2_greatestDivisor_19 (by omega) (fun q2 => ?_) (fun q2 => ?_)
        · refine z_iload_1 iX2_greatestDivisor_38 ?_
          exact m_iret hE iX2_greatestDivisor_39 ⟨rfl, by rw [eg]⟩
        · omega
    | succ n ih =>
      intro g le rd w hn hr hg hl he
      refine z_iload_3 iX2_greatestDivisor_12 ?_
      refine z_ldc iX2_greatestDivisor_13 k_2_93 ?_
      refine z_top (show (1000000 : Int32) = nI 1000000 by decide) ?_
      refine z_icmp_geN iX2_greatestDivisor_15 (by omega) (by omega) (fun q => ?_) (fun q => ?_)
      · have hle : le = 0 := by omega
        subst hle
        have eg : g = Nat.gcd be ab := by rw [← he]; simp
        refine z_iload_1 iX2_greatestDivisor_38 ?_
        exact m_iret hE iX2_greatestDivisor_39 ⟨rfl, by rw [eg]⟩
      · refine z_iload_2 iX2_greatestDivisor_18 ?_
        refine z_if_leN iX2_greatestDivisor_19 (by omega) (fun q2 => ?_) (fun q2 => ?_)
        · subst q2
          have eg : g = Nat.gcd be ab := by rw [← he]; simp
          refine z_iload_1 iX2_greatestDivisor_38 ?_
          exact m_iret hE iX2_greatestDivisor_39 ⟨rfl, by rw [eg]⟩
        · have hm : g % le < le := Nat.mod_lt _ q2
          refine z_iload_1 iX2_greatestDivisor_22 ?_
          refine z_iload_2 iX2_greatestDivisor_23 ?_
          refine z_iremN iX2_greatestDivisor_24 (by omega) (by omega) (by omega) ?_
          refine z_istore_4 iX2_greatestDivisor_25 rfl ?_
          refine z_iload_2 iX2_greatestDivisor_27 ?_
          refine z_istore_1 iX2_greatestDivisor_28 rfl ?_
          refine z_iload_4 iX2_greatestDivisor_29 ?_
          refine z_istore_2 iX2_greatestDivisor_31 rfl ?_
          refine z_iinc_3N iX2_greatestDivisor_32 rfl ?_
          refine z_goto iX2_greatestDivisor_35 ?_
          refine ih le (g % le) (rd + 1) _ (by omega) (by omega) (by omega) (by omega) ?_
          rw [← he, Nat.gcd_comm g le, Nat.gcd_rec le g, Nat.gcd_comm]
  refine z_aload_0 iX2_greatestDivisor_0 ?_
  refine m_getI iX2_greatestDivisor_1 g_2_15 rfl ?_
  refine z_top (h3) ?_
  refine z_istore_1 iX2_greatestDivisor_4 rfl ?_
  refine z_aload_0 iX2_greatestDivisor_5 ?_
  refine m_getI iX2_greatestDivisor_6 g_2_32 rfl ?_
  refine z_top (h2) ?_
  refine z_istore_2 iX2_greatestDivisor_9 rfl ?_
  refine z_iconst iX2_greatestDivisor_10 kI_0 ?_
  refine z_istore_3 iX2_greatestDivisor_11 rfl ?_
  exact loop ab be ab 0 _ (Nat.le_refl _) (by omega) hb (by omega) rfl
/-- Chances.told -/
theorem c_X2_told (G : qG) (l : Launch) {μ : Mem} {ab be : Nat} {u : Int32} (h2 : μ.1 123 2 = nI ab) (h3 : μ.1 123 3 = nI be) (ha : ab ≤ 1000000) (hb : be < 2 ^ 31) (hb0 : 0 < be) : CtrI G l M_X2_told [.ref (qB G + 123), .int u] μ (fun r μ' => μ' = μ ∧ r = nI ((if u = 0 then be else ab) / Nat.gcd be ab)) := by
  refine m_enterI [some (.ref (qB G + 123)), some (.int u), none, none] (by decide +kernel) rfl (Nat.le_of_ble_eq_true rfl) (fun X hE hR => ?_)
  have hR : qR X = rm_X2_told := hR
  have hE : EI G X _ (some .int) := hE
  show Zm G X cX2_told RX2 _ 0 [some (.ref (qB G + 123)), some (.int u), none, none] []
  have hg0 : 0 < Nat.gcd be ab := Nat.gcd_pos_of_pos_left _ hb0
  have hgb : Nat.gcd be ab ≤ be := Nat.gcd_le_left _ hb0
  refine z_aload_0 iX2_told_0 ?_
  refine m_callVi iX2_told_1 l_2_104 f_X2_greatestDivisor (c_X2_greatestDivisor G _ h2 h3 ha hb) rfl rfl rfl (Nat.le_of_ble_eq_true rfl) hR ft_X2_told_X2_greatestDivisor ⟨rfl, rfl⟩ ?_
  rintro r μ1 ⟨rfl, rfl⟩
  have fin : ∀ v : Nat, v < 2 ^ 31 → v = (if u = 0 then be else ab) → Zm G X cX2_told RX2 μ1 20 [some (.ref (qB G + 123)), some (.int u), some (.int (nI (Nat.gcd be ab))), none] [.int (nI v)] := by
    intro v hv ev
    refine z_istore_3 iX2_told_20 rfl ?_
    refine z_iload_2 iX2_told_21 ?_
    refine z_iconst iX2_told_22 kI_1 ?_
    refine z_icmp_leN iX2_told_23 (by omega) (by omega) (fun q => ?_) (fun q => ?_)
    · have e1 : Nat.gcd be ab = 1 := by omega
      refine z_iload_3 iX2_told_32 ?_
      exact m_iret hE iX2_told_33 ⟨rfl, by rw [← ev, e1, Nat.div_one]⟩
    · refine z_iload_3 iX2_told_26 ?_
      refine z_iload_2 iX2_told_27 ?_
      refine z_idivN iX2_told_28 (by omega) (by omega) (by omega) ?_
      refine z_goto iX2_told_29 ?_
      exact m_iret hE iX2_told_33 ⟨rfl, by rw [← ev]⟩
  refine z_istore_2 iX2_told_4 rfl ?_
  refine z_iload_1 iX2_told_5 ?_
  refine z_if_eq iX2_told_6 (fun q => ?_) (fun q => ?_)
  · refine z_aload_0 iX2_told_16 ?_
    refine m_getI iX2_told_17 g_2_15 rfl ?_
    refine z_top (h3) ?_
    exact fin be hb (by rw [if_pos q])
  · refine z_aload_0 iX2_told_9 ?_
    refine m_getI iX2_told_10 g_2_32 rfl ?_
    refine z_top (h2) ?_
    refine z_goto iX2_told_13 ?_
    exact fin ab (by omega) (by rw [if_neg q])
/-- how many beat a fencer -/
def bts (R : Rl) (H : Hd) (o : Nat) : Nat := cnt (fun k => btB R H k o) (rFc R)
def shr (R : Rl) (H : Hd) (f o : Nat) : Nat := if btB R H f o = true ∧ 0 < bts R H o then 60 / bts R H o else 0
/-- Chances.findShare -/
theorem c_X2_findShare (G : qG) (l : Launch) {μ : Mem} {R : Rl} {H : Hd} {f : Nat} (hR0 : RlOK R) (hH0 : HdOK R H) (hR1 : RollAt μ R) (hH1 : HoldAt μ 38 R H) (hf : f < rFc R) : CtrV G l M_X2_findShare [.ref (qB G + 123), .int (nI f)] μ (fun μ' => Fr [35, 36, 43, 44, 45, 46, 47, 48, 123] μ μ' ∧ μ'.1 123 2 = nI (sumN (shr R H f) (rFc R)) ∧ μ'.1 123 3 = nI 60) := by
  refine m_enterV [some (.ref (qB G + 123)), some (.int (nI f)), none, none, none] (by decide +kernel) rfl (Nat.le_of_ble_eq_true rfl) rfl (fun X hE hR => ?_)
  have hR : qR X = rm_X2_findShare := hR
  show Zm G X cX2_findShare RX2 _ 0 [some (.ref (qB G + 123)), some (.int (nI f)), none, none, none] []
  have h6 := hR0.1
  refine z_aload_0 iX2_findShare_0 ?_
  refine m_getR iX2_findShare_1 g_2_19 rfl ?_
  refine m_callVv iX2_findShare_4 l_2_23 f_X8_compareAll (c_X8_compareAll G _ isSal_37 hR0 hH0 hR1 hH1) rfl rfl rfl (Nat.le_of_ble_eq_true rfl) hR ft_X2_findShare_X8_compareAll ⟨rfl, rfl⟩ ?_
  rintro μ0 ⟨hF0, hL0⟩
  have hF0' : Fr [35, 36, 43, 44, 45, 46, 47, 48, 123] μ μ0 := hF0.mono (by decide)
  have hR2 : RollAt μ0 R := hR1.fr hR0 hF0 (by decide)
  refine z_aload_0 iX2_findShare_7 ?_
  refine m_getR iX2_findShare_8 g_2_19 rfl ?_
  refine z_iload_1 iX2_findShare_11 ?_
  refine m_callVi iX2_findShare_12 l_2_28 f_X8_beatenBy (c_X8_beatenBy (p := btB R H f) G _ isSal_37 hR0 hR2 hL0 hf (fun _ _ => btB_iff)) rfl rfl rfl (Nat.le_of_ble_eq_true rfl) hR ft_X2_findShare_X8_beatenBy ⟨rfl, rfl⟩ ?_
  rintro r μ1 ⟨rfl, rfl⟩
  have hb64 : bset (btB R H f) (rFc R) < 64 := by
    have := bset_lt (btB R H f) (rFc R)
    have h2 : (2 : Nat) ^ rFc R ≤ 2 ^ 6 := Nat.pow_le_pow_right (by decide) h6
    omega
  have loop : ∀ (n o : Nat) (μ2 : Mem) (w : Option Value), n + o = rFc R → Fr [123] μ1 μ2 → μ2.1 123 2 = nI (sumN (shr R H f) o) → μ2.1 123 3 = nI 60 → Zm G X cX2_findShare RX2 μ2 29 [some (.ref (qB G + 123)), some (.int (nI f)), some (.int (nI (bset (btB R H f) (rFc R)))), some (.int (nI o)), w] [] := by
    intro n
    induction n with
    | zero =>
      intro o μ2 w hn hF e2 e3
      have hR3 : RollAt μ2 R := hR2.fr hR0 hF (by decide)
      refine z_iload_3 iX2_findShare_29 ?_
      refine z_aload_0 iX2_findShare_30 ?_
      refine m_getR iX2_findShare_31 g_2_19 rfl ?_
      refine m_getR iX2_findShare_34 g_2_35 rfl ?_
      refine m_getI iX2_findShare_37 g_2_39 rfl ?_
      refine z_top (hR3.1) ?_
      refine z_icmp_geN iX2_findShare_40 (by omega) (by omega) (fun q => ?_) (fun q => ?_)
      · exact m_vret hE iX2_findShare_90 ⟨hF0'.trans (hF.mono (by decide)), by rw [e2, show o = rFc R by omega], e3⟩
      · omega
    | succ n ih =>
      intro o μ2 w hn hF e2 e3
      have ho : o < rFc R := by omega
      have hR3 : RollAt μ2 R := hR2.fr hR0 hF (by decide)
      have hL3 : LeadsAt μ2 37 R H := fun i j hi hj => by rw [hF.1 _ (by simp; omega)]; exact hL0 i j hi hj
      refine z_iload_3 iX2_findShare_29 ?_
      refine z_aload_0 iX2_findShare_30 ?_
      refine m_getR iX2_findShare_31 g_2_19 rfl ?_
      refine m_getR iX2_findShare_34 g_2_35 rfl ?_
      refine m_getI iX2_findShare_37 g_2_39 rfl ?_
      refine z_top (hR3.1) ?_
      refine z_icmp_geN iX2_findShare_40 (by omega) (by omega) (fun q => ?_) (fun q => ?_)
      · omega
      · refine z_aload_0 iX2_findShare_43 ?_
        refine m_getR iX2_findShare_44 g_2_19 rfl ?_
        refine z_iload_3 iX2_findShare_47 ?_
        refine m_callVi iX2_findShare_48 l_2_44 f_X8_thoseWhoBeat (c_X8_thoseWhoBeat (p := fun k => btB R H k o) G _ isSal_37 hR0 hR3 hL3 ho (fun _ _ => btB_iff)) rfl rfl rfl (Nat.le_of_ble_eq_true rfl) hR ft_X2_findShare_X8_thoseWhoBeat ⟨rfl, rfl⟩ ?_
        rintro r μ3 ⟨rfl, rfl⟩
        have ht64 : bset (fun k => btB R H k o) (rFc R) < 64 := by
          have := bset_lt (fun k => btB R H k o) (rFc R)
          have h2 : (2 : Nat) ^ rFc R ≤ 2 ^ 6 := Nat.pow_le_pow_right (by decide) h6
          omega
        refine m_callSi iX2_findShare_51 l_2_47 f_J6_bitCount_0f7a4 (c_bitCount G _ ht64) rfl rfl (Nat.le_of_ble_eq_true rfl) hR ft_X2_findShare_J6_bitCount_0f7a4 ⟨rfl, rfl⟩ ?_
        rintro r μ4 ⟨rfl, rfl⟩
        refine z_top (show _ = nI (bts R H o) from by rw [pcN_bset h6]; rfl) ?_
        have hbts : bts R H o ≤ 6 := by have := cnt_le (fun k => btB R H k o) (rFc R); unfold bts; omega
        have e60 : shr R H f o ≤ 60 := by unfold shr; split; exact Nat.div_le_self _ _; omega
        refine z_istore_4 iX2_findShare_54 rfl ?_
        refine z_iload_2 iX2_findShare_56 ?_
        refine z_iload_3 iX2_findShare_57 ?_
        refine z_ishr iX2_findShare_58 ?_
        refine z_iconst iX2_findShare_59 kI_1 ?_
        refine z_iand iX2_findShare_60 ?_
        refine z_top (q_bit _ hb64 o (by omega)) ?_
        refine z_top (show _ = nI (if btB R H f o then 1 else 0) from by rw [bset_bit _ o ho]) ?_
        refine z_iconst iX2_findShare_61 kI_1 ?_
        refine z_icmp_neN iX2_findShare_62 (by split <;> omega) (by omega) (fun q2 => ?_) (fun q2 => ?_)
        · have hz : shr R H f o = 0 := by unfold shr; rw [if_neg (fun z => q2 (by rw [if_pos z.1]))]
          refine z_iinc_3N iX2_findShare_84 rfl ?_
          refine z_goto iX2_findShare_87 ?_
          exact ih (o + 1) μ4 _ (by omega) hF (by rw [e2]; simp [sumN, hz]) e3
        · have hb : btB R H f o = true := by
            cases hq : btB R H f o with
            | true => rfl
            | false => rw [hq] at q2; simp at q2
          refine z_iload_4 iX2_findShare_65 ?_
          refine z_if_leN iX2_findShare_67 (by omega) (fun q3 => ?_) (fun q3 => ?_)
          · have hz : shr R H f o = 0 := by unfold shr; rw [if_neg (fun z => by omega)]
            refine z_iinc_3N iX2_findShare_84 rfl ?_
            refine z_goto iX2_findShare_87 ?_
            exact ih (o + 1) μ4 _ (by omega) hF (by rw [e2]; simp [sumN, hz]) e3
          · have hz : shr R H f o = 60 / bts R H o := by unfold shr; rw [if_pos ⟨hb, q3⟩]
            refine z_aload_0 iX2_findShare_70 ?_
            refine z_dup iX2_findShare_71 rfl ?_
            refine m_getI iX2_findShare_72 g_2_32 rfl ?_
            refine z_top (e2) ?_
            refine z_bipush iX2_findShare_75 kB_60 ?_
            refine z_iload_4 iX2_findShare_77 ?_
            refine z_idivN iX2_findShare_79 (by omega) (by omega) (by omega) ?_
            refine z_iaddN iX2_findShare_80 ?_
            refine m_putI iX2_findShare_81 p_2_32 rfl ?_
            refine z_iinc_3N iX2_findShare_84 rfl ?_
            refine z_goto iX2_findShare_87 ?_
            refine ih (o + 1) _ _ (by omega) (hF.mw _ _ (by decide)) (by rw [mw_same]; simp [sumN, hz]) (by rw [mw_ne _ _ (Or.inr (by decide))]; exact e3)
  refine z_istore_2 iX2_findShare_15 rfl ?_
  refine z_aload_0 iX2_findShare_16 ?_
  refine z_iconst iX2_findShare_17 kI_0 ?_
  refine m_putI iX2_findShare_18 p_2_32 rfl ?_
  refine z_aload_0 iX2_findShare_21 ?_
  refine z_bipush iX2_findShare_22 kB_60 ?_
  refine m_putI iX2_findShare_24 p_2_15 rfl ?_
  refine z_iconst iX2_findShare_27 kI_0 ?_
  refine z_istore_3 iX2_findShare_28 rfl ?_
  refine loop (rFc R) 0 _ _ (by omega) ((Fr.rf.mw _ _ (by decide)).mw _ _ (by decide)) ?_ ?_
  · rw [mw_ne _ _ (Or.inr (by decide)), mw_same]; rfl
  · rw [mw_same]

/-! THE REFERENCE: its cells are 140 to 156. What changes -/
theorem mw_rd (μ : Mem) (a k b j : Nat) (x : Int32) : (mw μ a k x).1 b j = if b = a ∧ j = k then x else μ.1 b j := by
  by_cases h : b = a ∧ j = k
  · obtain ⟨rfl, rfl⟩ := h
    rw [mw_same, if_pos ⟨rfl, rfl⟩]
  · rw [if_neg h, mw_ne _ _ (by by_cases z : b = a; (· exact Or.inr (fun w => h ⟨z, w⟩)); (· exact Or.inl z))]
def Fm (L K : List Nat) (μ μ' : Mem) : Prop := (∀ a, a ∉ L → a ≠ 140 → μ'.1 a = μ.1 a) ∧ (∀ k, k ∉ K → μ'.1 140 k = μ.1 140 k) ∧ μ'.2 = μ.2
theorem Fm.rf {L K : List Nat} {μ : Mem} : Fm L K μ μ := ⟨fun _ _ _ => rfl, fun _ _ => rfl, rfl⟩
theorem Fm.trans {L K : List Nat} {μ μ' μ'' : Mem} (h1 : Fm L K μ μ') (h2 : Fm L K μ' μ'') : Fm L K μ μ'' := ⟨fun a h z => (h2.1 a h z).trans (h1.1 a h z), fun k h => (h2.2.1 k h).trans (h1.2.1 k h), h2.2.2.trans h1.2.2⟩
theorem Fm.mono {L K L' K' : List Nat} {μ μ' : Mem} (h : Fm L K μ μ') (hL : ∀ a, a ∈ L → a ∈ L') (hK : ∀ a, a ∈ K → a ∈ K') : Fm L' K' μ μ' := ⟨fun a ha z => h.1 a (fun q => ha (hL a q)) z, fun k hk => h.2.1 k (fun q => hk (hK k q)), h.2.2⟩
theorem Fm.put {L K : List Nat} {μ μ' : Mem} (h : Fm L K μ μ') (k : Nat) (x : Int32) (hk : k ∈ K) : Fm L K μ (mw μ' 140 k x) := ⟨fun a ha z => by rw [mw_other μ' x z]; exact h.1 a ha z, fun j hj => by rw [mw_ne _ _ (Or.inr (fun z => hj (by rw [z]; exact hk)))]; exact h.2.1 j hj, h.2.2⟩
theorem Fm.mw {L K : List Nat} {μ μ' : Mem} (h : Fm L K μ μ') {a : Nat} (k : Nat) (x : Int32) (ha : a ∈ L) (hn : a ≠ 140) : Fm L K μ (mw μ' a k x) := ⟨fun b hb z => by rw [mw_other μ' x (fun q => hb (by rw [q]; exact ha))]; exact h.1 b hb z, fun j hj => by rw [mw_other μ' x hn.symm]; exact h.2.1 j hj, h.2.2⟩
/-- FoilBazaarModel.in -/
theorem c_X11_in (G : qG) (l : Launch) {μ : Mem} (x y z : Int64) : CtrI G l M_X11_in [.long x, .long y, .long z] μ (fun r μ' => μ' = μ ∧ ((r = nI 1 ∧ y ≤ x ∧ x ≤ z) ∨ (r = nI 0 ∧ ¬ (y ≤ x ∧ x ≤ z)))) := by
  refine m_enterI [some (.long x), none, some (.long y), none, some (.long z), none] (by decide +kernel) rfl (Nat.le_of_ble_eq_true rfl) (fun X hE hR => ?_)
  have hR : qR X = rm_X11_in := hR
  have hE : EI G X _ (some .boolean) := hE
  show Zm G X cX11_in RX11 _ 0 [some (.long x), none, some (.long y), none, some (.long z), none] []
  refine z_lload_0 iX11_in_0 ?_
  refine z_lload_2 iX11_in_1 ?_
  refine z_lcmp iX11_in_2 ?_
  refine z_if_lt iX11_in_3 (fun q => ?_) (fun q => ?_)
  · refine z_iconst iX11_in_17 kI_0 ?_
    exact m_zret hE iX11_in_18 rfl ⟨rfl, Or.inr ⟨rfl, fun h => by have := (lg_cmp_lt _ _).mp q; exact absurd h.1 (Int64.not_le.mpr this)⟩⟩
  · have q1 : y ≤ x := Int64.not_lt.mp (fun w => q ((lg_cmp_lt _ _).mpr w))
    refine z_lload_0 iX11_in_6 ?_
    refine z_lload_4 iX11_in_7 ?_
    refine z_lcmp iX11_in_9 ?_
    refine z_if_gt iX11_in_10 (fun q2 => ?_) (fun q2 => ?_)
    · refine z_iconst iX11_in_17 kI_0 ?_
      exact m_zret hE iX11_in_18 rfl ⟨rfl, Or.inr ⟨rfl, fun h => by have := (lg_cmp_gt _ _).mp q2; exact absurd h.2 (Int64.not_le.mpr this)⟩⟩
    · refine z_iconst iX11_in_13 kI_1 ?_
      refine z_goto iX11_in_14 ?_
      exact m_zret hE iX11_in_18 rfl ⟨rfl, Or.inl ⟨rfl, q1, Int64.not_lt.mp (fun w => q2 ((lg_cmp_gt _ _).mpr w))⟩⟩
theorem c_inI (G : qG) (l : Launch) {μ : Mem} (x : Int32) {y z : Int64} {a b : Int} (hy : y.toInt = a) (hz : z.toInt = b) : CtrI G l M_X11_in [.long x.toInt64, .long y, .long z] μ (fun r μ' => μ' = μ ∧ ((r = nI 1 ∧ a ≤ x.toInt ∧ x.toInt ≤ b) ∨ (r = nI 0 ∧ (x.toInt < a ∨ b < x.toInt)))) := by
  refine (c_X11_in G l x.toInt64 y z).weaken ?_
  rintro r μ' ⟨e, h⟩
  refine ⟨e, ?_⟩
  rw [Int64.le_iff_toInt_le, Int64.le_iff_toInt_le, Int32.toInt_toInt64, hy, hz] at h
  rcases h with ⟨h1, h2⟩ | ⟨h1, h2⟩
  · exact Or.inl ⟨h1, h2⟩
  · exact Or.inr ⟨h1, by omega⟩
theorem nI_m1 {n : Nat} (h : n < 1000) : (nI n - nI 1).toInt64.toInt = (n : Int) - 1 := by
  rw [Int32.toInt_toInt64]
  by_cases h0 : n = 0
  · subst h0; decide
  · have e : nI n - nI 1 = nI (n - 1) := pk_sub (by omega)
    rw [e, nI_toInt (by omega)]
    omega
theorem has_cases (x : Int32) (n : Nat) (hn : n < 1000) : (∃ f, f < n ∧ x = nI f ∧ (0 : Int) ≤ x.toInt ∧ x.toInt ≤ (n : Int) - 1) ∨ ((∀ f, f < n → x ≠ nI f) ∧ (x.toInt < 0 ∨ (n : Int) - 1 < x.toInt)) := by
  rcases q_cases x n (by omega) with ⟨k, hk, rfl, -⟩ | ⟨-, h1, h2⟩
  · refine Or.inl ⟨k, hk, rfl, ?_⟩
    rw [nI_toInt (by omega)]
    omega
  · exact Or.inr ⟨h2, h1⟩
theorem c_X11_isFencer (G : qG) (l : Launch) {μ : Mem} {n : Nat} (hn : μ.1 140 0 = nI n) (hs : n < 1000) (x : Int32) : CtrI G l M_X11_isFencer [.ref (qB G + 140), .int x] μ (fun r μ' => μ' = μ ∧ ((r = nI 1 ∧ ∃ f, f < n ∧ x = nI f) ∨ (r = nI 0 ∧ ∀ f, f < n → x ≠ nI f))) := by
  refine m_enterI [some (.ref (qB G + 140)), some (.int x)] (by decide +kernel) rfl (Nat.le_of_ble_eq_true rfl) (fun X hE hR => ?_)
  have hR : qR X = rm_X11_isFencer := hR
  have hE : EI G X _ (some .boolean) := hE
  show Zm G X cX11_isFencer RX11 _ 0 [some (.ref (qB G + 140)), some (.int x)] []
  refine z_iload_1 iX11_isFencer_0 ?_
  refine z_i2l iX11_isFencer_1 ?_
  refine z_lconst (x := 0) iX11_isFencer_2 rfl ?_
  refine z_aload_0 iX11_isFencer_3 ?_
  refine m_getI iX11_isFencer_4 g_11_99 rfl ?_
  refine z_top (hn) ?_
  refine z_iconst iX11_isFencer_7 kI_1 ?_
  refine z_isub iX11_isFencer_8 ?_
  refine z_i2l iX11_isFencer_9 ?_
  refine m_callSi iX11_isFencer_10 l_11_61 f_X11_in (c_inI G _ x (y := 0) (a := 0) rfl (nI_m1 hs)) rfl rfl (Nat.le_of_ble_eq_true rfl) hR ft_X11_isFencer_X11_in ⟨rfl, rfl⟩ ?_
  rintro r μ' ⟨rfl, h⟩
  rcases has_cases x n hs with ⟨f, hf, rfl, h1⟩ | ⟨h1, h2⟩
  · rcases h with ⟨rfl, h⟩ | ⟨rfl, h⟩
    · exact m_zret hE iX11_isFencer_13 rfl ⟨rfl, Or.inl ⟨rfl, f, hf, rfl⟩⟩
    · omega
  · rcases h with ⟨rfl, h⟩ | ⟨rfl, h⟩
    · omega
    · exact m_zret hE iX11_isFencer_13 rfl ⟨rfl, Or.inr ⟨rfl, h1⟩⟩
theorem c_X11_isGood (G : qG) (l : Launch) {μ : Mem} {n : Nat} (hn : μ.1 140 1 = nI n) (hs : n < 1000) (x : Int32) : CtrI G l M_X11_isGood [.ref (qB G + 140), .int x] μ (fun r μ' => μ' = μ ∧ ((r = nI 1 ∧ ∃ f, f < n ∧ x = nI f) ∨ (r = nI 0 ∧ ∀ f, f < n → x ≠ nI f))) := by
  refine m_enterI [some (.ref (qB G + 140)), some (.int x)] (by decide +kernel) rfl (Nat.le_of_ble_eq_true rfl) (fun X hE hR => ?_)
  have hR : qR X = rm_X11_isGood := hR
  have hE : EI G X _ (some .boolean) := hE
  show Zm G X cX11_isGood RX11 _ 0 [some (.ref (qB G + 140)), some (.int x)] []
  refine z_iload_1 iX11_isGood_0 ?_
  refine z_i2l iX11_isGood_1 ?_
  refine z_lconst (x := 0) iX11_isGood_2 rfl ?_
  refine z_aload_0 iX11_isGood_3 ?_
  refine m_getI iX11_isGood_4 g_11_102 rfl ?_
  refine z_top (hn) ?_
  refine z_iconst iX11_isGood_7 kI_1 ?_
  refine z_isub iX11_isGood_8 ?_
  refine z_i2l iX11_isGood_9 ?_
  refine m_callSi iX11_isGood_10 l_11_61 f_X11_in (c_inI G _ x (y := 0) (a := 0) rfl (nI_m1 hs)) rfl rfl (Nat.le_of_ble_eq_true rfl) hR ft_X11_isGood_X11_in ⟨rfl, rfl⟩ ?_
  rintro r μ' ⟨rfl, h⟩
  rcases has_cases x n hs with ⟨f, hf, rfl, h1⟩ | ⟨h1, h2⟩
  · rcases h with ⟨rfl, h⟩ | ⟨rfl, h⟩
    · exact m_zret hE iX11_isGood_13 rfl ⟨rfl, Or.inl ⟨rfl, f, hf, rfl⟩⟩
    · omega
  · rcases h with ⟨rfl, h⟩ | ⟨rfl, h⟩
    · omega
    · exact m_zret hE iX11_isGood_13 rfl ⟨rfl, Or.inr ⟨rfl, h1⟩⟩
/-! sets as bits -/
theorem shr_bits : ∀ b, b < 64 → ∀ k, k < 6 → (nI b >>> (nI k &&& 31)) &&& nI 1 = nI (bitN b k) := by decide +kernel
theorem c_X11_has (G : qG) (l : Launch) {μ : Mem} {b k : Nat} (hb : b < 64) (hk : k < 6) : CtrI G l M_X11_has [.int (nI b), .int (nI k)] μ (fun r μ' => μ' = μ ∧ r = nI (bitN b k)) := by
  refine m_enterI [some (.int (nI b)), some (.int (nI k))] (by decide +kernel) rfl (Nat.le_of_ble_eq_true rfl) (fun X hE hR => ?_)
  have hR : qR X = rm_X11_has := hR
  have hE : EI G X _ (some .boolean) := hE
  show Zm G X cX11_has RX11 _ 0 [some (.int (nI b)), some (.int (nI k))] []
  have h2 := bitN_lt b k
  refine z_iload_0 iX11_has_0 ?_
  refine z_iload_1 iX11_has_1 ?_
  refine z_ishr iX11_has_2 ?_
  refine z_iconst iX11_has_3 kI_1 ?_
  refine z_iand iX11_has_4 ?_
  refine z_top (shr_bits b hb k hk) ?_
  refine z_iconst iX11_has_5 kI_1 ?_
  refine z_icmp_neN iX11_has_6 (by omega) (by omega) (fun q => ?_) (fun q => ?_)
  · refine z_iconst iX11_has_13 kI_0 ?_
    exact m_zret hE iX11_has_14 rfl ⟨rfl, by rw [show bitN b k = 0 by omega]⟩
  · refine z_iconst iX11_has_9 kI_1 ?_
    refine z_goto iX11_has_10 ?_
    exact m_zret hE iX11_has_14 rfl ⟨rfl, by rw [q]⟩
theorem pcN_sum (b : Nat) : pcN b = sumN (bitN b) 6 := by simp [pcN, sumN]
theorem c_X11_ones (G : qG) (l : Launch) {μ : Mem} {b : Nat} (hb : b < 64) : CtrI G l M_X11_ones [.int (nI b)] μ (fun r μ' => μ' = μ ∧ r = nI (pcN b)) := by
  refine m_enterI [some (.int (nI b)), none, none] (by decide +kernel) rfl (Nat.le_of_ble_eq_true rfl) (fun X hE hR => ?_)
  have hR : qR X = rm_X11_ones := hR
  have hE : EI G X _ (some .int) := hE
  show Zm G X cX11_ones RX11 _ 0 [some (.int (nI b)), none, none] []
  have loop : ∀ n k : Nat, n + k = 6 → Zm G X cX11_ones RX11 μ 4 [some (.int (nI b)), some (.int (nI (sumN (bitN b) k))), some (.int (nI k))] [] := by
    intro n
    induction n with
    | zero =>
      intro k hk
      refine z_iload_2 iX11_ones_4 ?_
      refine z_bipush iX11_ones_5 kB_6 ?_
      refine z_icmp_geN iX11_ones_7 (by omega) (by omega) (fun q => ?_) (fun q => ?_)
      · refine z_iload_1 iX11_ones_24 ?_
        exact m_iret hE iX11_ones_25 ⟨rfl, by rw [pcN_sum, show k = 6 by omega]⟩
      · omega
    | succ n ih =>
      intro k hk
      refine z_iload_2 iX11_ones_4 ?_
      refine z_bipush iX11_ones_5 kB_6 ?_
      refine z_icmp_geN iX11_ones_7 (by omega) (by omega) (fun q => ?_) (fun q => ?_)
      · omega
      · refine z_iload_1 iX11_ones_10 ?_
        refine z_iload_0 iX11_ones_11 ?_
        refine z_iload_2 iX11_ones_12 ?_
        refine z_ishr iX11_ones_13 ?_
        refine z_iconst iX11_ones_14 kI_1 ?_
        refine z_iand iX11_ones_15 ?_
        refine z_top (shr_bits b hb k (by omega)) ?_
        refine z_iaddN iX11_ones_16 ?_
        refine z_istore_1 iX11_ones_17 rfl ?_
        refine z_iinc_2N iX11_ones_18 rfl ?_
        refine z_goto iX11_ones_21 ?_
        exact ih (k + 1) (by omega)
  refine z_iconst iX11_ones_0 kI_0 ?_
  refine z_istore_1 iX11_ones_1 rfl ?_
  refine z_iconst iX11_ones_2 kI_0 ?_
  refine z_istore_2 iX11_ones_3 rfl ?_
  exact loop 6 0 (by decide)
/-! a bout -/
theorem c_X11_answer (G : qG) (l : Launch) {μ : Mem} {y : Nat} (hy : y < 1000) : CtrI G l M_X11_answer [.int (nI y)] μ (fun r μ' => μ' = μ ∧ r = nI (if y = 1 then 2 else if y = 2 then 3 else 1)) := by
  refine m_enterI [some (.int (nI y))] (by decide +kernel) rfl (Nat.le_of_ble_eq_true rfl) (fun X hE hR => ?_)
  have hR : qR X = rm_X11_answer := hR
  have hE : EI G X _ (some .int) := hE
  show Zm G X cX11_answer RX11 _ 0 [some (.int (nI y))] []
  refine z_iload_0 iX11_answer_0 ?_
  refine z_iconst iX11_answer_1 kI_1 ?_
  refine z_icmp_neN iX11_answer_2 (by omega) (by omega) (fun q => ?_) (fun q => ?_)
  · refine z_iload_0 iX11_answer_9 ?_
    refine z_iconst iX11_answer_10 kI_2 ?_
    refine z_icmp_neN iX11_answer_11 (by omega) (by omega) (fun q2 => ?_) (fun q2 => ?_)
    · refine z_iconst iX11_answer_18 kI_1 ?_
      exact m_iret hE iX11_answer_19 ⟨rfl, by rw [if_neg q, if_neg q2]⟩
    · refine z_iconst iX11_answer_14 kI_3 ?_
      refine z_goto iX11_answer_15 ?_
      exact m_iret hE iX11_answer_19 ⟨rfl, by rw [if_neg q, if_pos q2]⟩
  · refine z_iconst iX11_answer_5 kI_2 ?_
    refine z_goto iX11_answer_6 ?_
    exact m_iret hE iX11_answer_19 ⟨rfl, by rw [if_pos q]⟩
theorem c_X11_moveIn (G : qG) (l : Launch) {μ : Mem} {i kd ft p y : Nat} {mv : Nat → Nat} (hi : i < 7) (hk : μ.1 141 i = nI kd) (hkd : kd < 4) (hm : ∀ j, j < 3 → μ.1 142 (3 * i + j) = nI (mv j)) (hft : ft < 1000) (hp : p < 1000) (hy : y < 1000) : CtrI G l M_X11_moveIn [.ref (qB G + 140), .int (nI i), .int (nI ft), .int (nI p), .int (nI y)] μ (fun r μ' => μ' = μ ∧ r = nI (fMove kd mv ft p y)) := by
  refine m_enterI [some (.ref (qB G + 140)), some (.int (nI i)), some (.int (nI ft)), some (.int (nI p)), some (.int (nI y)), none] (by decide +kernel) rfl (Nat.le_of_ble_eq_true rfl) (fun X hE hR => ?_)
  have hR : qR X = rm_X11_moveIn := hR
  have hE : EI G X _ (some .int) := hE
  show Zm G X cX11_moveIn RX11 _ 0 [some (.ref (qB G + 140)), some (.int (nI i)), some (.int (nI ft)), some (.int (nI p)), some (.int (nI y)), none] []
  refine z_aload_0 iX11_moveIn_0 ?_
  refine m_getR iX11_moveIn_1 g_11_7 rfl ?_
  refine z_iload_1 iX11_moveIn_4 ?_
  refine m_ialdN iX11_moveIn_5 rfl (by omega) ?_
  refine z_top (hk) ?_
  refine z_iconst iX11_moveIn_6 kI_2 ?_
  refine z_icmp_neN iX11_moveIn_7 (by omega) (by omega) (fun q => ?_) (fun q => ?_)
  · have tail : ∀ w : Nat, w < 1000 → (if kd = 3 then 0 else ft) = w → Zm G X cX11_moveIn RX11 μ 39 [some (.ref (qB G + 140)), some (.int (nI i)), some (.int (nI ft)), some (.int (nI p)), some (.int (nI y)), none] [.int (nI w)] := by
      intro w hw ew
      refine z_istore_5 iX11_moveIn_39 rfl ?_
      refine z_aload_0 iX11_moveIn_41 ?_
      refine m_getR iX11_moveIn_42 g_11_13 rfl ?_
      refine z_iconst iX11_moveIn_45 kI_3 ?_
      refine z_iload_1 iX11_moveIn_46 ?_
      refine z_imulN iX11_moveIn_47 ?_
      refine z_iload_5 iX11_moveIn_48 ?_
      refine z_iload_3 iX11_moveIn_50 ?_
      refine z_iaddN iX11_moveIn_51 ?_
      refine z_iconst iX11_moveIn_52 kI_3 ?_
      refine z_iremN iX11_moveIn_53 (by omega) (by omega) (by omega) ?_
      refine z_iaddN iX11_moveIn_54 ?_
      refine m_ialdN iX11_moveIn_55 rfl (by omega) ?_
      refine z_top (hm _ (Nat.mod_lt _ (by decide))) ?_
      exact m_iret hE iX11_moveIn_56 ⟨rfl, by unfold fMove; rw [if_neg q, ew]⟩
    refine z_aload_0 iX11_moveIn_24 ?_
    refine m_getR iX11_moveIn_25 g_11_7 rfl ?_
    refine z_iload_1 iX11_moveIn_28 ?_
    refine m_ialdN iX11_moveIn_29 rfl (by omega) ?_
    refine z_top (hk) ?_
    refine z_iconst iX11_moveIn_30 kI_3 ?_
    refine z_icmp_neN iX11_moveIn_31 (by omega) (by omega) (fun q2 => ?_) (fun q2 => ?_)
    · refine z_iload_2 iX11_moveIn_38 ?_
      exact tail ft hft (if_neg q2)
    · refine z_iconst iX11_moveIn_34 kI_0 ?_
      refine z_goto iX11_moveIn_35 ?_
      exact tail 0 (by decide) (if_pos q2)
  · refine z_iload_3 iX11_moveIn_10 ?_
    refine z_if_neN iX11_moveIn_11 (by omega) (fun q2 => ?_) (fun q2 => ?_)
    · refine z_iload_4 iX11_moveIn_18 ?_
      refine m_callSi iX11_moveIn_20 l_11_108 f_X11_answer (c_X11_answer G _ hy) rfl rfl (Nat.le_of_ble_eq_true rfl) hR ft_X11_moveIn_X11_answer ⟨rfl, rfl⟩ ?_
      rintro r μ' ⟨rfl, rfl⟩
      exact m_iret hE iX11_moveIn_23 ⟨rfl, by unfold fMove; rw [if_pos q, if_neg q2]⟩
    · refine z_iconst iX11_moveIn_14 kI_4 ?_
      refine z_goto iX11_moveIn_15 ?_
      exact m_iret hE iX11_moveIn_23 ⟨rfl, by unfold fMove; rw [if_pos q, if_pos q2]⟩
def hR0 (a b : Nat) : Nat := if (a = 1 ∧ (b = 3 ∨ b = 4)) ∨ (a = 2 ∧ b = 1) ∨ (a = 3 ∧ b = 2) then 1 else 0
theorem c_X11_hits (G : qG) (l : Launch) {μ : Mem} {a b : Nat} (ha : a < 1000) (hb : b < 1000) : CtrI G l M_X11_hits [.int (nI a), .int (nI b)] μ (fun r μ' => μ' = μ ∧ r = nI (hR0 a b)) := by
  refine m_enterI [some (.int (nI a)), some (.int (nI b))] (by decide +kernel) rfl (Nat.le_of_ble_eq_true rfl) (fun X hE hR => ?_)
  have hR : qR X = rm_X11_hits := hR
  have hE : EI G X _ (some .boolean) := hE
  show Zm G X cX11_hits RX11 _ 0 [some (.int (nI a)), some (.int (nI b))] []
  have yes : hR0 a b = 1 → Zm G X cX11_hits RX11 μ 35 [some (.int (nI a)), some (.int (nI b))] [] := by
    intro e
    refine z_iconst iX11_hits_35 kI_1 ?_
    refine z_goto iX11_hits_36 ?_
    exact m_zret hE iX11_hits_40 rfl ⟨rfl, by rw [e]⟩
  have no : hR0 a b = 0 → Zm G X cX11_hits RX11 μ 39 [some (.int (nI a)), some (.int (nI b))] [] := by
    intro e
    refine z_iconst iX11_hits_39 kI_0 ?_
    exact m_zret hE iX11_hits_40 rfl ⟨rfl, by rw [e]⟩
  have s3 : ¬ (a = 1 ∧ (b = 3 ∨ b = 4)) → ¬ (a = 2 ∧ b = 1) → Zm G X cX11_hits RX11 μ 25 [some (.int (nI a)), some (.int (nI b))] [] := by
    intro h1 h2
    refine z_iload_0 iX11_hits_25 ?_
    refine z_iconst iX11_hits_26 kI_3 ?_
    refine z_icmp_neN iX11_hits_27 (by omega) (by omega) (fun q => ?_) (fun q => ?_)
    · exact no (if_neg (by omega))
    · refine z_iload_1 iX11_hits_30 ?_
      refine z_iconst iX11_hits_31 kI_2 ?_
      refine z_icmp_neN iX11_hits_32 (by omega) (by omega) (fun q2 => ?_) (fun q2 => ?_)
      · exact no (if_neg (by omega))
      · exact yes (if_pos (by omega))
  have s2 : ¬ (a = 1 ∧ (b = 3 ∨ b = 4)) → Zm G X cX11_hits RX11 μ 15 [some (.int (nI a)), some (.int (nI b))] [] := by
    intro h1
    refine z_iload_0 iX11_hits_15 ?_
    refine z_iconst iX11_hits_16 kI_2 ?_
    refine z_icmp_neN iX11_hits_17 (by omega) (by omega) (fun q => ?_) (fun q => ?_)
    · exact s3 h1 (by omega)
    · refine z_iload_1 iX11_hits_20 ?_
      refine z_iconst iX11_hits_21 kI_1 ?_
      refine z_icmp_eqN iX11_hits_22 (by omega) (by omega) (fun q2 => ?_) (fun q2 => ?_)
      · exact yes (if_pos (by omega))
      · exact s3 h1 (by omega)
  refine z_iload_0 iX11_hits_0 ?_
  refine z_iconst iX11_hits_1 kI_1 ?_
  refine z_icmp_neN iX11_hits_2 (by omega) (by omega) (fun q => ?_) (fun q => ?_)
  · exact s2 (by omega)
  · refine z_iload_1 iX11_hits_5 ?_
    refine z_iconst iX11_hits_6 kI_3 ?_
    refine z_icmp_eqN iX11_hits_7 (by omega) (by omega) (fun q2 => ?_) (fun q2 => ?_)
    · exact yes (if_pos (by omega))
    · refine z_iload_1 iX11_hits_10 ?_
      refine z_iconst iX11_hits_11 kI_4 ?_
      refine z_icmp_eqN iX11_hits_12 (by omega) (by omega) (fun q3 => ?_) (fun q3 => ?_)
      · exact yes (if_pos (by omega))
      · exact s2 (by omega)
theorem hR0_fHit (a b k : Nat) : fHit a b k = if hR0 a b = 1 ∨ (a = 1 ∧ b = 1 ∧ k ≠ 1) then 1 else 0 := by
  unfold fHit hR0
  repeat (first | split | omega)
theorem hR0_le (a b : Nat) : hR0 a b ≤ 1 := by unfold hR0; split <;> omega
/-- a fencer in the reference -/
def MFen (μ : Mem) (i : Nat) (F : Fe) : Prop := μ.1 141 i = nI F.1 ∧ ∀ j, j < 3 → μ.1 142 (3 * i + j) = nI (F.2.1 j)
def PassAt (μ : Mem) (s : Bs) (p : Nat) : Prop := μ.1 140 18 = nI s.1 ∧ μ.1 140 19 = nI s.2.1 ∧ μ.1 140 15 = nI s.2.2.1 ∧ μ.1 140 16 = nI s.2.2.2 ∧ μ.1 140 17 = nI p
def fNextC (F1 F2 : Fe) (c p : Nat) (s : Bs) : Bs :=
  (fMove F1.1 F1.2.1 F1.2.2 p s.2.1, fMove F2.1 F2.2.1 F2.2.2 p s.1,
   s.2.2.1 + c * fHit (fMove F1.1 F1.2.1 F1.2.2 p s.2.1) (fMove F2.1 F2.2.1 F2.2.2 p s.1) F2.1,
   s.2.2.2 + c * fHit (fMove F2.1 F2.2.1 F2.2.2 p s.1) (fMove F1.1 F1.2.1 F1.2.2 p s.2.1) F1.1)
def kB : List Nat := [15, 16, 17, 18, 19]
theorem c_X11_begin (G : qG) (l : Launch) {μ : Mem} : CtrV G l M_X11_begin [.ref (qB G + 140)] μ (fun μ' => Fm [] kB μ μ' ∧ PassAt μ' (0, 0, 0, 0) 0) := by
  refine m_enterV [some (.ref (qB G + 140))] (by decide +kernel) rfl (Nat.le_of_ble_eq_true rfl) rfl (fun X hE hR => ?_)
  have hR : qR X = rm_X11_begin := hR
  show Zm G X cX11_begin RX11 _ 0 [some (.ref (qB G + 140))] []
  refine z_aload_0 iX11_begin_0 ?_
  refine z_iconst iX11_begin_1 kI_0 ?_
  refine m_putI iX11_begin_2 p_11_128 rfl ?_
  refine z_aload_0 iX11_begin_5 ?_
  refine z_iconst iX11_begin_6 kI_0 ?_
  refine m_putI iX11_begin_7 p_11_131 rfl ?_
  refine z_aload_0 iX11_begin_10 ?_
  refine z_iconst iX11_begin_11 kI_0 ?_
  refine m_putI iX11_begin_12 p_11_111 rfl ?_
  refine z_aload_0 iX11_begin_15 ?_
  refine z_iconst iX11_begin_16 kI_0 ?_
  refine m_putI iX11_begin_17 p_11_121 rfl ?_
  refine z_aload_0 iX11_begin_20 ?_
  refine z_iconst iX11_begin_21 kI_0 ?_
  refine m_putI iX11_begin_22 p_11_114 rfl ?_
  refine m_vret hE iX11_begin_25 ⟨((((Fm.rf.put _ _ (by decide)).put _ _ (by decide)).put _ _ (by decide)).put _ _ (by decide)).put _ _ (by decide), ?_⟩
  refine ⟨?_, ?_, ?_, ?_, ?_⟩ <;> simp [mw_rd]
theorem c_X11_pass (G : qG) (l : Launch) {μ : Mem} {i j p c : Nat} {F1 F2 : Fe} {s : Bs} (hi : i < 7) (hj : j < 7) (h1 : MFen μ i F1) (h2 : MFen μ j F2) (o1 : FeOK F1) (o2 : FeOK F2) (hs : PassAt μ s p) (hp : p < 100) (hs1 : s.1 < 5) (hs2 : s.2.1 < 5) (hc : c ≤ 1) :
    CtrV G l M_X11_pass [.ref (qB G + 140), .int (nI i), .int (nI j), .int (nI F1.2.2), .int (nI F2.2.2), .int (nI c)] μ (fun μ' => Fm [] kB μ μ' ∧ PassAt μ' (fNextC F1 F2 c p s) (p + 1)) := by
  refine m_enterV [some (.ref (qB G + 140)), some (.int (nI i)), some (.int (nI j)), some (.int (nI F1.2.2)), some (.int (nI F2.2.2)), some (.int (nI c)), none, none, none, none, none] (by decide +kernel) rfl (Nat.le_of_ble_eq_true rfl) rfl (fun X hE hR => ?_)
  have hR : qR X = rm_X11_pass := hR
  show Zm G X cX11_pass RX11 _ 0 [some (.ref (qB G + 140)), some (.int (nI i)), some (.int (nI j)), some (.int (nI F1.2.2)), some (.int (nI F2.2.2)), some (.int (nI c)), none, none, none, none, none] []
  obtain ⟨p1, p2, p3, p4, p5⟩ := id hs
  have hk1 := o1.1
  have hk2 := o2.1
  have hf1 := o1.2.2
  have hf2 := o2.2.2
  refine z_aload_0 iX11_pass_0 ?_
  refine z_iload_1 iX11_pass_1 ?_
  refine z_iload_3 iX11_pass_2 ?_
  refine z_aload_0 iX11_pass_3 ?_
  refine m_getI iX11_pass_4 g_11_111 rfl ?_
  refine z_top (p5) ?_
  refine z_aload_0 iX11_pass_7 ?_
  refine m_getI iX11_pass_8 g_11_114 rfl ?_
  refine z_top (p2) ?_
  refine m_callVi iX11_pass_11 l_11_117 f_X11_moveIn (c_X11_moveIn G _ hi h1.1 o1.1 h1.2 (by omega) (by omega) (by omega)) rfl rfl rfl (Nat.le_of_ble_eq_true rfl) hR ft_X11_pass_X11_moveIn ⟨rfl, rfl⟩ ?_
  rintro r μ1 ⟨rfl, rfl⟩
  refine z_istore_6 iX11_pass_14 rfl ?_
  refine z_aload_0 iX11_pass_16 ?_
  refine z_iload_2 iX11_pass_17 ?_
  refine z_iload_4 iX11_pass_18 ?_
  refine z_aload_0 iX11_pass_20 ?_
  refine m_getI iX11_pass_21 g_11_111 rfl ?_
  refine z_top (p5) ?_
  refine z_aload_0 iX11_pass_24 ?_
  refine m_getI iX11_pass_25 g_11_121 rfl ?_
  refine z_top (p1) ?_
  refine m_callVi iX11_pass_28 l_11_117 f_X11_moveIn (c_X11_moveIn G _ hj h2.1 o2.1 h2.2 (by omega) (by omega) (by omega)) rfl rfl rfl (Nat.le_of_ble_eq_true rfl) hR ft_X11_pass_X11_moveIn ⟨rfl, rfl⟩ ?_
  rintro r μ1 ⟨rfl, rfl⟩
  have ha := fMove_lt o1 p s.2.1
  have hb := fMove_lt o2 p s.1
  have post : ∀ a b : Nat, fMove F1.1 F1.2.1 F1.2.2 p s.2.1 = a → fMove F2.1 F2.2.1 F2.2.2 p s.1 = b → fNextC F1 F2 c p s = (a, b, s.2.2.1 + c * fHit a b F2.1, s.2.2.2 + c * fHit b a F1.1) := by rintro a b rfl rfl; rfl
  generalize fMove F1.1 F1.2.1 F1.2.2 p s.2.1 = a at ha post
  generalize fMove F2.1 F2.2.1 F2.2.2 p s.1 = b at hb post
  have post := post a b rfl rfl
  refine z_istore_7 iX11_pass_31 rfl ?_
  refine z_aload_0 iX11_pass_33 ?_
  refine z_iload_6 iX11_pass_34 ?_
  refine m_putI iX11_pass_36 p_11_121 rfl ?_
  refine z_aload_0 iX11_pass_39 ?_
  refine z_iload_7 iX11_pass_40 ?_
  refine m_putI iX11_pass_42 p_11_114 rfl ?_
  refine z_aload_0 iX11_pass_45 ?_
  refine z_dup iX11_pass_46 rfl ?_
  refine m_getI iX11_pass_47 g_11_111 rfl ?_
  refine z_top ((by simp [mw_rd]; exact p5)) ?_
  refine z_iconst iX11_pass_50 kI_1 ?_
  refine z_iaddN iX11_pass_51 ?_
  refine m_putI iX11_pass_52 p_11_111 rfl ?_
  have hF0 : Fm [] kB μ1 (mw (mw (mw μ1 140 18 (nI a)) 140 19 (nI b)) 140 17 (nI (p + 1))) := (((Fm.rf.put _ _ (by decide)).put _ _ (by decide)).put _ _ (by decide))
  have g1 : (mw (mw (mw μ1 140 18 (nI a)) 140 19 (nI b)) 140 17 (nI (p + 1))).1 140 18 = nI a := by simp [mw_rd]
  have g2 : (mw (mw (mw μ1 140 18 (nI a)) 140 19 (nI b)) 140 17 (nI (p + 1))).1 140 19 = nI b := by simp [mw_rd]
  have g3 : (mw (mw (mw μ1 140 18 (nI a)) 140 19 (nI b)) 140 17 (nI (p + 1))).1 140 15 = nI s.2.2.1 := by simp [mw_rd]; exact p3
  have g4 : (mw (mw (mw μ1 140 18 (nI a)) 140 19 (nI b)) 140 17 (nI (p + 1))).1 140 16 = nI s.2.2.2 := by simp [mw_rd]; exact p4
  have g5 : (mw (mw (mw μ1 140 18 (nI a)) 140 19 (nI b)) 140 17 (nI (p + 1))).1 140 17 = nI (p + 1) := by simp [mw_rd]
  generalize mw (mw (mw μ1 140 18 (nI a)) 140 19 (nI b)) 140 17 (nI (p + 1)) = μ2 at hF0 g1 g2 g3 g4 g5
  have k1 : μ2.1 141 i = nI F1.1 := by rw [hF0.1 141 (by decide) (by decide)]; exact h1.1
  have k2 : μ2.1 141 j = nI F2.1 := by rw [hF0.1 141 (by decide) (by decide)]; exact h2.1
  have n1 := fHit_le a b F2.1
  have n2 := fHit_le b a F1.1
  have s6 : ∀ (bo x y : Int32), Zm G X cX11_pass RX11 (mw μ2 140 15 (nI (s.2.2.1 + c * fHit a b F2.1))) 182 [some (.ref (qB G + 140)), some (.int (nI i)), some (.int (nI j)), some (.int (nI F1.2.2)), some (.int (nI F2.2.2)), some (.int (nI c)), some (.int (nI a)), some (.int (nI b)), some (.int bo), some (.int x), some (.int y)] [.int (nI (c * fHit b a F1.1)), .int (nI s.2.2.2), .ref (qB G + 140)] := by
    intro bo x y
    refine z_iaddN iX11_pass_182 ?_
    refine m_putI iX11_pass_183 p_11_131 rfl ?_
    refine m_vret hE iX11_pass_186 ⟨(hF0.put _ _ (by decide)).put _ _ (by decide), ?_⟩
    rw [post]
    refine ⟨?_, ?_, ?_, ?_, ?_⟩ <;> simp [mw_rd, g1, g2, g5]
  have s5 : ∀ (bo : Int32), Zm G X cX11_pass RX11 (mw μ2 140 15 (nI (s.2.2.1 + c * fHit a b F2.1))) 162 [some (.ref (qB G + 140)), some (.int (nI i)), some (.int (nI j)), some (.int (nI F1.2.2)), some (.int (nI F2.2.2)), some (.int (nI c)), some (.int (nI a)), some (.int (nI b)), some (.int bo), some (.int (nI (fHit a b F2.1))), some (.int (nI (fHit b a F1.1)))] [] := by
    intro bo
    refine z_aload_0 iX11_pass_162 ?_
    refine z_dup iX11_pass_163 rfl ?_
    refine m_getI iX11_pass_164 g_11_131 rfl ?_
    refine z_top ((by simp [mw_rd]; exact g4)) ?_
    refine z_iload_5 iX11_pass_167 ?_
    refine z_if_eqN iX11_pass_169 (by omega) (fun q => ?_) (fun q => ?_)
    · refine z_iconst iX11_pass_181 kI_0 ?_
      have := s6 bo (nI (fHit a b F2.1)) (nI (fHit b a F1.1))
      rw [show c * fHit b a F1.1 = 0 by rw [q]; omega] at this
      exact this
    · refine z_iload_10 iX11_pass_172 ?_
      have hc1 : c = 1 := by omega
      refine z_if_eqN iX11_pass_174 (by omega) (fun q2 => ?_) (fun q2 => ?_)
      · refine z_iconst iX11_pass_181 kI_0 ?_
        have := s6 bo (nI (fHit a b F2.1)) (nI (fHit b a F1.1))
        rw [show c * fHit b a F1.1 = 0 by rw [q2]; omega] at this
        exact this
      · refine z_iconst iX11_pass_177 kI_1 ?_
        refine z_goto iX11_pass_178 ?_
        have := s6 bo (nI (fHit a b F2.1)) (nI (fHit b a F1.1))
        rw [show c * fHit b a F1.1 = 1 by rw [hc1]; omega] at this
        exact this
  have s4 : ∀ (bo : Int32), Zm G X cX11_pass RX11 μ2 138 [some (.ref (qB G + 140)), some (.int (nI i)), some (.int (nI j)), some (.int (nI F1.2.2)), some (.int (nI F2.2.2)), some (.int (nI c)), some (.int (nI a)), some (.int (nI b)), some (.int bo), some (.int (nI (fHit a b F2.1))), some (.int (nI (fHit b a F1.1)))] [] := by
    intro bo
    have t : ∀ w : Nat, c * fHit a b F2.1 = w → Zm G X cX11_pass RX11 μ2 158 [some (.ref (qB G + 140)), some (.int (nI i)), some (.int (nI j)), some (.int (nI F1.2.2)), some (.int (nI F2.2.2)), some (.int (nI c)), some (.int (nI a)), some (.int (nI b)), some (.int bo), some (.int (nI (fHit a b F2.1))), some (.int (nI (fHit b a F1.1)))] [.int (nI w), .int (nI s.2.2.1), .ref (qB G + 140)] := by
      intro w ew
      refine z_iaddN iX11_pass_158 ?_
      refine m_putI iX11_pass_159 p_11_128 rfl ?_
      rw [← ew]
      exact s5 bo
    refine z_aload_0 iX11_pass_138 ?_
    refine z_dup iX11_pass_139 rfl ?_
    refine m_getI iX11_pass_140 g_11_128 rfl ?_
    refine z_top (g3) ?_
    refine z_iload_5 iX11_pass_143 ?_
    refine z_if_eqN iX11_pass_145 (by omega) (fun q => ?_) (fun q => ?_)
    · refine z_iconst iX11_pass_157 kI_0 ?_
      exact t 0 (by rw [q]; omega)
    · refine z_iload_9 iX11_pass_148 ?_
      have hc1 : c = 1 := by omega
      refine z_if_eqN iX11_pass_150 (by omega) (fun q2 => ?_) (fun q2 => ?_)
      · refine z_iconst iX11_pass_157 kI_0 ?_
        exact t 0 (by rw [q2]; omega)
      · refine z_iconst iX11_pass_153 kI_1 ?_
        refine z_goto iX11_pass_154 ?_
        exact t 1 (by rw [hc1]; omega)
  have s3 : Zm G X cX11_pass RX11 μ2 106 [some (.ref (qB G + 140)), some (.int (nI i)), some (.int (nI j)), some (.int (nI F1.2.2)), some (.int (nI F2.2.2)), some (.int (nI c)), some (.int (nI a)), some (.int (nI b)), some (.int (nI (if a = 1 ∧ b = 1 then 1 else 0))), some (.int (nI (fHit a b F2.1))), none] [] := by
    have t : ∀ w : Nat, fHit b a F1.1 = w → Zm G X cX11_pass RX11 μ2 136 [some (.ref (qB G + 140)), some (.int (nI i)), some (.int (nI j)), some (.int (nI F1.2.2)), some (.int (nI F2.2.2)), some (.int (nI c)), some (.int (nI a)), some (.int (nI b)), some (.int (nI (if a = 1 ∧ b = 1 then 1 else 0))), some (.int (nI (fHit a b F2.1))), none] [.int (nI w)] := by
      intro w ew
      refine z_istore_10 iX11_pass_136 rfl ?_
      rw [← ew]
      exact s4 _
    have hle := hR0_le b a
    refine z_iload_7 iX11_pass_106 ?_
    refine z_iload_6 iX11_pass_108 ?_
    refine m_callSi iX11_pass_110 l_11_124 f_X11_hits (c_X11_hits G _ (a := b) (b := a) (by omega) (by omega)) rfl rfl (Nat.le_of_ble_eq_true rfl) hR ft_X11_pass_X11_hits ⟨rfl, rfl⟩ ?_
    rintro r μ' ⟨rfl, rfl⟩
    refine z_if_neN iX11_pass_113 (by omega) (fun q => ?_) (fun q => ?_)
    · refine z_iconst iX11_pass_131 kI_1 ?_
      refine z_goto iX11_pass_132 ?_
      exact t 1 (by rw [hR0_fHit]; exact if_pos (Or.inl (by omega)))
    · refine z_iload_8 iX11_pass_116 ?_
      refine z_if_eqN iX11_pass_118 (by split <;> omega) (fun q2 => ?_) (fun q2 => ?_)
      · refine z_iconst iX11_pass_135 kI_0 ?_
        refine t 0 (by rw [hR0_fHit]; refine if_neg (fun z => ?_); split at q2 <;> omega)
      · have hab : a = 1 ∧ b = 1 := by
          by_cases z : a = 1 ∧ b = 1
          · exact z
          · rw [if_neg z] at q2; omega
        refine z_aload_0 iX11_pass_121 ?_
        refine m_getR iX11_pass_122 g_11_7 rfl ?_
        refine z_iload_1 iX11_pass_125 ?_
        refine m_ialdN iX11_pass_126 rfl (by omega) ?_
        refine z_top (k1) ?_
        refine z_iconst iX11_pass_127 kI_1 ?_
        refine z_icmp_eqN iX11_pass_128 (by omega) (by omega) (fun q3 => ?_) (fun q3 => ?_)
        · refine z_iconst iX11_pass_135 kI_0 ?_
          exact t 0 (by rw [hR0_fHit]; exact if_neg (by omega))
        · refine z_iconst iX11_pass_131 kI_1 ?_
          refine z_goto iX11_pass_132 ?_
          exact t 1 (by rw [hR0_fHit]; exact if_pos (by omega))
  have s2 : Zm G X cX11_pass RX11 μ2 74 [some (.ref (qB G + 140)), some (.int (nI i)), some (.int (nI j)), some (.int (nI F1.2.2)), some (.int (nI F2.2.2)), some (.int (nI c)), some (.int (nI a)), some (.int (nI b)), some (.int (nI (if a = 1 ∧ b = 1 then 1 else 0))), none, none] [] := by
    have t : ∀ w : Nat, fHit a b F2.1 = w → Zm G X cX11_pass RX11 μ2 104 [some (.ref (qB G + 140)), some (.int (nI i)), some (.int (nI j)), some (.int (nI F1.2.2)), some (.int (nI F2.2.2)), some (.int (nI c)), some (.int (nI a)), some (.int (nI b)), some (.int (nI (if a = 1 ∧ b = 1 then 1 else 0))), none, none] [.int (nI w)] := by
      intro w ew
      refine z_istore_9 iX11_pass_104 rfl ?_
      rw [← ew]
      exact s3
    have hle := hR0_le a b
    refine z_iload_6 iX11_pass_74 ?_
    refine z_iload_7 iX11_pass_76 ?_
    refine m_callSi iX11_pass_78 l_11_124 f_X11_hits (c_X11_hits G _ (a := a) (b := b) (by omega) (by omega)) rfl rfl (Nat.le_of_ble_eq_true rfl) hR ft_X11_pass_X11_hits ⟨rfl, rfl⟩ ?_
    rintro r μ' ⟨rfl, rfl⟩
    refine z_if_neN iX11_pass_81 (by omega) (fun q => ?_) (fun q => ?_)
    · refine z_iconst iX11_pass_99 kI_1 ?_
      refine z_goto iX11_pass_100 ?_
      exact t 1 (by rw [hR0_fHit]; exact if_pos (Or.inl (by omega)))
    · refine z_iload_8 iX11_pass_84 ?_
      refine z_if_eqN iX11_pass_86 (by split <;> omega) (fun q2 => ?_) (fun q2 => ?_)
      · refine z_iconst iX11_pass_103 kI_0 ?_
        refine t 0 (by rw [hR0_fHit]; refine if_neg (fun z => ?_); split at q2 <;> omega)
      · have hab : a = 1 ∧ b = 1 := by
          by_cases z : a = 1 ∧ b = 1
          · exact z
          · rw [if_neg z] at q2; omega
        refine z_aload_0 iX11_pass_89 ?_
        refine m_getR iX11_pass_90 g_11_7 rfl ?_
        refine z_iload_2 iX11_pass_93 ?_
        refine m_ialdN iX11_pass_94 rfl (by omega) ?_
        refine z_top (k2) ?_
        refine z_iconst iX11_pass_95 kI_1 ?_
        refine z_icmp_eqN iX11_pass_96 (by omega) (by omega) (fun q3 => ?_) (fun q3 => ?_)
        · refine z_iconst iX11_pass_103 kI_0 ?_
          exact t 0 (by rw [hR0_fHit]; exact if_neg (by omega))
        · refine z_iconst iX11_pass_99 kI_1 ?_
          refine z_goto iX11_pass_100 ?_
          exact t 1 (by rw [hR0_fHit]; exact if_pos (by omega))
  have t : ∀ w : Nat, (if a = 1 ∧ b = 1 then 1 else 0) = w → Zm G X cX11_pass RX11 μ2 72 [some (.ref (qB G + 140)), some (.int (nI i)), some (.int (nI j)), some (.int (nI F1.2.2)), some (.int (nI F2.2.2)), some (.int (nI c)), some (.int (nI a)), some (.int (nI b)), none, none, none] [.int (nI w)] := by
    intro w ew
    refine z_istore_8 iX11_pass_72 rfl ?_
    rw [← ew]
    exact s2
  refine z_iload_6 iX11_pass_55 ?_
  refine z_iconst iX11_pass_57 kI_1 ?_
  refine z_icmp_neN iX11_pass_58 (by omega) (by omega) (fun q => ?_) (fun q => ?_)
  · refine z_iconst iX11_pass_71 kI_0 ?_
    exact t 0 (if_neg (by omega))
  · refine z_iload_7 iX11_pass_61 ?_
    refine z_iconst iX11_pass_63 kI_1 ?_
    refine z_icmp_neN iX11_pass_64 (by omega) (by omega) (fun q2 => ?_) (fun q2 => ?_)
    · refine z_iconst iX11_pass_71 kI_0 ?_
      exact t 0 (if_neg (by omega))
    · refine z_iconst iX11_pass_67 kI_1 ?_
      refine z_goto iX11_pass_68 ?_
      exact t 1 (if_pos ⟨q, q2⟩)

/-! THE STATE: a roll (fencers, goods, kinds, moves, prices, told owners); holdings (owners, purses, feet, day) -/
abbrev Rl : Type := Nat × Nat × (Nat → Nat) × (Nat → Nat → Nat) × (Nat → Nat) × (Nat → Nat)
def rFc (R : Rl) : Nat := R.1
def rGc (R : Rl) : Nat := R.2.1
def rKd (R : Rl) : Nat → Nat := R.2.2.1
def rMv (R : Rl) : Nat → Nat → Nat := R.2.2.2.1
def rPr (R : Rl) : Nat → Nat := R.2.2.2.2.1
def rTl (R : Rl) : Nat → Nat := R.2.2.2.2.2
abbrev Hd : Type := (Nat → Nat) × (Nat → Nat) × (Nat → Nat) × Nat
def hOw (H : Hd) : Nat → Nat := H.1
def hPu (H : Hd) : Nat → Nat := H.2.1
def hFe (H : Hd) : Nat → Nat := H.2.2.1
def hDy (H : Hd) : Nat := H.2.2.2
def RlOK (R : Rl) : Prop := rFc R ≤ 6 ∧ rGc R ≤ 5 ∧ (∀ f, f < rFc R → rKd R f < 4 ∧ ∀ j, j < 3 → rMv R f j < 5 ∧ 0 < rMv R f j) ∧ ∀ g, g < rGc R → rPr R g ≤ 9 ∧ rTl R g < rFc R
def HdOK (R : Rl) (H : Hd) : Prop := (∀ g, g < rGc R → hOw H g < rFc R) ∧ (∀ f, f < 6 → hPu H f ≤ 99 ∧ hFe H f < 3) ∧ (∀ f, rFc R ≤ f → f < 6 → hPu H f = 0 ∧ hFe H f = 0) ∧ ∀ f, f < rFc R → rKd R f = 3 → hFe H f = 0
def RollAt (μ : Mem) (R : Rl) : Prop := μ.1 19 3 = nI (rFc R) ∧ μ.1 19 4 = nI (rGc R) ∧ (∀ f, f < rFc R → μ.1 (23 + 2 * f) 0 = nI (rKd R f) ∧ ∀ j, j < 3 → μ.1 (23 + 2 * f + 1) j = nI (rMv R f j)) ∧ ∀ g, g < rGc R → μ.1 21 g = nI (rPr R g) ∧ μ.1 22 g = nI (rTl R g)
def HoldAt (μ : Mem) (hd : Nat) (R : Rl) (H : Hd) : Prop := (∀ g, g < rGc R → μ.1 (hd + 1) g = nI (hOw H g)) ∧ (∀ f, f < 6 → μ.1 (hd + 2) f = nI (hPu H f)) ∧ (∀ f, f < 6 → μ.1 (hd + 3) f = nI (hFe H f)) ∧ μ.1 hd 3 = nI (hDy H)
def updN (f : Nat → Nat) (k v : Nat) : Nat → Nat := fun j => if j = k then v else f j
def feOf (R : Rl) (H : Hd) (i : Nat) : Fe := (rKd R i, rMv R i, hFe H i)
theorem feOK {R : Rl} {H : Hd} {i : Nat} (hR : RlOK R) (hH : HdOK R H) (hi : i < rFc R) : FeOK (feOf R H i) := ⟨(hR.2.2.1 i hi).1, fun j hj => ((hR.2.2.1 i hi).2 j hj).1, (hH.2.1 i (by have := hR.1; omega)).2⟩
/-- a whole bout: its passes, its hits -/
def bLen (F1 F2 : Fe) : Nat := fLen F1 F2 3 9 0
def bH1 (F1 F2 : Fe) : Nat := (fIt F1 F2 (bLen F1 F2)).2.2.1
def bH2 (F1 F2 : Fe) : Nat := (fIt F1 F2 (bLen F1 F2)).2.2.2
theorem bLen_le (F1 F2 : Fe) : bLen F1 F2 ≤ 9 := fLen_le F1 F2 3 9 0
theorem bH_le (F1 F2 : Fe) : bH1 F1 F2 ≤ 9 ∧ bH2 F1 F2 ≤ 9 := by
  have h := fIt_le F1 F2 (bLen F1 F2)
  have h2 := bLen_le F1 F2
  unfold bH1 bH2
  omega
/-- holdings' cells -/
def isHold (hd : Nat) : Prop := layF hd 0 = some (5, some (some (hd + 1))) ∧ layF hd 1 = some (5, some (some (hd + 2))) ∧ layF hd 2 = some (5, some (some (hd + 3))) ∧ layF hd 3 = some (5, none) ∧ layA (hd + 1) = some (0, 5, 0, 0) ∧ layA (hd + 2) = some (0, 6, 0, 0) ∧ layA (hd + 3) = some (0, 6, 0, 0) ∧ layC hd = some 5
/-- a salle's cells: 37 the salle, 49 the trial -/
def isSal (s : Nat) : Prop := layF s 0 = some (8, some (some 19)) ∧ layF s 1 = some (8, some (some 35)) ∧ layF s 2 = some (8, some (some (s + 1))) ∧ layF s 3 = some (8, some (some (s + 5))) ∧ layC s = some 8 ∧ isHold (s + 1) ∧ layA (s + 5) = some (4, 6, s + 6, 1) ∧ (∀ i, i < 6 → layA (s + 6 + 1 * i) = some (0, 6, 0, 0)) ∧ s ∈ [37, 49]
theorem isHold_38 : isHold 38 := ⟨rfl, rfl, rfl, rfl, rfl, rfl, rfl, rfl⟩
theorem isHold_50 : isHold 50 := ⟨rfl, rfl, rfl, rfl, rfl, rfl, rfl, rfl⟩
theorem isSal_37 : isSal 37 := ⟨rfl, rfl, rfl, rfl, rfl, isHold_38, rfl, fun i hi => by rcases (show i = 0 ∨ i = 1 ∨ i = 2 ∨ i = 3 ∨ i = 4 ∨ i = 5 by omega) with rfl | rfl | rfl | rfl | rfl | rfl <;> rfl, by decide⟩
theorem isSal_49 : isSal 49 := ⟨rfl, rfl, rfl, rfl, rfl, isHold_50, rfl, fun i hi => by rcases (show i = 0 ∨ i = 1 ∨ i = 2 ∨ i = 3 ∨ i = 4 ∨ i = 5 by omega) with rfl | rfl | rfl | rfl | rfl | rfl <;> rfl, by decide⟩
theorem fen_out {f : Nat} (h : f < 6) : 23 + 2 * f ∉ [35, 36] ∧ 23 + 2 * f + 1 ∉ [35, 36] := by
  constructor <;> (simp only [List.mem_cons, List.not_mem_nil, or_false]; omega)
/-- what reads the roll only sees its rows -/
theorem RollAt.kept {μ μ' : Mem} {R : Rl} (h : RollAt μ R) (hR : RlOK R) (he : ∀ a, 19 ≤ a → a < 35 → μ'.1 a = μ.1 a) : RollAt μ' R := by
  obtain ⟨h1, h2, h3, h4⟩ := h
  have h6 := hR.1
  refine ⟨by rw [he 19 (by omega) (by omega)]; exact h1, by rw [he 19 (by omega) (by omega)]; exact h2, fun f hf => ⟨by rw [he _ (by omega) (by omega)]; exact (h3 f hf).1, fun j hj => by rw [he _ (by omega) (by omega)]; exact (h3 f hf).2 j hj⟩, fun g hg => ⟨by rw [he 21 (by omega) (by omega)]; exact (h4 g hg).1, by rw [he 22 (by omega) (by omega)]; exact (h4 g hg).2⟩⟩
theorem HoldAt.kept {μ μ' : Mem} {hd : Nat} {R : Rl} {H : Hd} (h : HoldAt μ hd R H) (h0 : μ'.1 hd = μ.1 hd) (e1 : μ'.1 (hd + 1) = μ.1 (hd + 1)) (e2 : μ'.1 (hd + 2) = μ.1 (hd + 2)) (e3 : μ'.1 (hd + 3) = μ.1 (hd + 3)) : HoldAt μ' hd R H := by
  obtain ⟨h1, h2, h3, h4⟩ := h
  exact ⟨fun g hg => by rw [e1]; exact h1 g hg, fun f hf => by rw [e2]; exact h2 f hf, fun f hf => by rw [e3]; exact h3 f hf, by rw [h0]; exact h4⟩
theorem RollAt.fr {μ μ' : Mem} {R : Rl} {S : List Nat} (h : RollAt μ R) (hR : RlOK R) (hF : Fr S μ μ') (hs : ∀ a, a ∈ S → a < 19 ∨ 35 ≤ a) : RollAt μ' R := h.kept hR (fun a h1 h2 => hF.1 a (fun q => by have := hs a q; omega))
theorem HoldAt.fr {μ μ' : Mem} {hd : Nat} {R : Rl} {H : Hd} {S : List Nat} (h : HoldAt μ hd R H) (hF : Fr S μ μ') (hs : ∀ a, a ∈ S → a < hd ∨ hd + 3 < a) : HoldAt μ' hd R H :=
  h.kept (hF.1 _ (fun q => by have := hs _ q; omega)) (hF.1 _ (fun q => by have := hs _ q; omega)) (hF.1 _ (fun q => by have := hs _ q; omega)) (hF.1 _ (fun q => by have := hs _ q; omega))
theorem RollAt.fen {μ : Mem} {R : Rl} {H : Hd} (h : RollAt μ R) {f : Nat} (hf : f < rFc R) : FenAt μ (23 + 2 * f) (feOf R H f) := ⟨(h.2.2.1 f hf).1, (h.2.2.1 f hf).2⟩
/-- Roll.hasFencer, for any int -/
theorem c_X7_hasFencer (G : qG) (l : Launch) {μ : Mem} {a n : Nat} (ha : layF a 3 = some (7, none)) (hn : μ.1 a 3 = nI n) (hs : n < 1000) (x : Int32) : CtrI G l M_X7_hasFencer [.ref (qB G + a), .int x] μ (fun r μ' => μ' = μ ∧ ((r = nI 1 ∧ ∃ f, f < n ∧ x = nI f) ∨ (r = nI 0 ∧ ∀ f, f < n → x ≠ nI f))) := by
  refine m_enterI [some (.ref (qB G + a)), some (.int x)] (by decide +kernel) rfl (Nat.le_of_ble_eq_true rfl) (fun X hE hR => ?_)
  have hR : qR X = rm_X7_hasFencer := hR
  have hE : EI G X _ (some .boolean) := hE
  show Zm G X cX7_hasFencer RX7 _ 0 [some (.ref (qB G + a)), some (.int x)] []
  refine z_iload_1 iX7_hasFencer_0 ?_
  refine z_if_lt iX7_hasFencer_1 (fun h0 => ?_) (fun h0 => ?_)
  · refine z_iconst iX7_hasFencer_16 kI_0 ?_
    exact m_zret hE iX7_hasFencer_17 rfl ⟨rfl, Or.inr ⟨rfl, fun f hf q => nI_pos (n := f) (by omega) (by rw [← q]; exact h0)⟩⟩
  · obtain ⟨k, hk, rfl⟩ := nI_of h0
    refine z_iload_1 iX7_hasFencer_4 ?_
    refine z_aload_0 iX7_hasFencer_5 ?_
    refine m_getI iX7_hasFencer_6 g_7_25 ha ?_
    refine z_top (hn) ?_
    refine z_icmp_geN iX7_hasFencer_9 (by omega) (by omega) (fun h1 => ?_) (fun h1 => ?_)
    · refine z_iconst iX7_hasFencer_16 kI_0 ?_
      exact m_zret hE iX7_hasFencer_17 rfl ⟨rfl, Or.inr ⟨rfl, fun f hf q => by have := (nI_eq hk (by omega)).mp q; omega⟩⟩
    · refine z_iconst iX7_hasFencer_12 kI_1 ?_
      refine z_goto iX7_hasFencer_13 ?_
      exact m_zret hE iX7_hasFencer_17 rfl ⟨rfl, Or.inl ⟨rfl, k, h1, rfl⟩⟩
theorem c_X7_hasGood (G : qG) (l : Launch) {μ : Mem} {a n : Nat} (ha : layF a 4 = some (7, none)) (hn : μ.1 a 4 = nI n) (hs : n < 1000) (x : Int32) : CtrI G l M_X7_hasGood [.ref (qB G + a), .int x] μ (fun r μ' => μ' = μ ∧ ((r = nI 1 ∧ ∃ f, f < n ∧ x = nI f) ∨ (r = nI 0 ∧ ∀ f, f < n → x ≠ nI f))) := by
  refine m_enterI [some (.ref (qB G + a)), some (.int x)] (by decide +kernel) rfl (Nat.le_of_ble_eq_true rfl) (fun X hE hR => ?_)
  have hR : qR X = rm_X7_hasGood := hR
  have hE : EI G X _ (some .boolean) := hE
  show Zm G X cX7_hasGood RX7 _ 0 [some (.ref (qB G + a)), some (.int x)] []
  refine z_iload_1 iX7_hasGood_0 ?_
  refine z_if_lt iX7_hasGood_1 (fun h0 => ?_) (fun h0 => ?_)
  · refine z_iconst iX7_hasGood_16 kI_0 ?_
    exact m_zret hE iX7_hasGood_17 rfl ⟨rfl, Or.inr ⟨rfl, fun f hf q => nI_pos (n := f) (by omega) (by rw [← q]; exact h0)⟩⟩
  · obtain ⟨k, hk, rfl⟩ := nI_of h0
    refine z_iload_1 iX7_hasGood_4 ?_
    refine z_aload_0 iX7_hasGood_5 ?_
    refine m_getI iX7_hasGood_6 g_7_29 ha ?_
    refine z_top (hn) ?_
    refine z_icmp_geN iX7_hasGood_9 (by omega) (by omega) (fun h1 => ?_) (fun h1 => ?_)
    · refine z_iconst iX7_hasGood_16 kI_0 ?_
      exact m_zret hE iX7_hasGood_17 rfl ⟨rfl, Or.inr ⟨rfl, fun f hf q => by have := (nI_eq hk (by omega)).mp q; omega⟩⟩
    · refine z_iconst iX7_hasGood_12 kI_1 ?_
      refine z_goto iX7_hasGood_13 ?_
      exact m_zret hE iX7_hasGood_17 rfl ⟨rfl, Or.inl ⟨rfl, k, h1, rfl⟩⟩
/-- Holdings.fill -/
theorem c_X5_fill (G : qG) (l : Launch) {μ : Mem} {hd f n p : Nat} (hh : isHold hd) (hf : f < 6) (hp : μ.1 (hd + 2) f = nI p) (hp1 : p ≤ 99) (hn : n < 1000) : CtrV G l M_X5_fill [.ref (qB G + hd), .int (nI f), .int (nI n)] μ (fun μ' => μ' = mw μ (hd + 2) f (nI (min 99 (p + n)))) := by
  refine m_enterV [some (.ref (qB G + hd)), some (.int (nI f)), some (.int (nI n))] (by decide +kernel) rfl (Nat.le_of_ble_eq_true rfl) rfl (fun X hE hR => ?_)
  have hR : qR X = rm_X5_fill := hR
  show Zm G X cX5_fill RX5 _ 0 [some (.ref (qB G + hd)), some (.int (nI f)), some (.int (nI n))] []
  obtain ⟨f0, f1, f2, f3, a1, a2, a3, -⟩ := hh
  refine z_aload_0 iX5_fill_0 ?_
  refine m_getR iX5_fill_1 g_5_15 f1 ?_
  refine z_iload_1 iX5_fill_4 ?_
  refine z_bipush iX5_fill_5 kB_99 ?_
  refine z_aload_0 iX5_fill_7 ?_
  refine m_getR iX5_fill_8 g_5_15 f1 ?_
  refine z_iload_1 iX5_fill_11 ?_
  refine m_ialdN iX5_fill_12 a2 hf ?_
  refine z_top (hp) ?_
  refine z_iload_2 iX5_fill_13 ?_
  refine z_iaddN iX5_fill_14 ?_
  refine z_min iX5_fill_15 l_5_39 w_minS w_mathI w_minC hR ⟨Nat.le_of_ble_eq_true rfl, Nat.le_of_ble_eq_true rfl, Nat.zero_le _, Nat.zero_le _⟩ ?_
  have e : (if nI (p + n) < nI 99 then nI (p + n) else nI 99) = nI (min 99 (p + n)) := by
    by_cases q : p + n < 99
    · rw [if_pos (nI_lt q (by omega)), Nat.min_eq_right (by omega)]
    · rw [if_neg (nI_nlt (by omega) (by omega)), Nat.min_eq_left (by omega)]
  refine z_top e ?_
  refine m_iastN iX5_fill_18 a2 hf ?_
  exact m_vret hE iX5_fill_19 rfl
/-- Salle.fightNow -/
theorem c_X8_fightNow (G : qG) (l : Launch) {μ : Mem} {s i j : Nat} {R : Rl} {H : Hd} (hs : isSal s) (hR0 : RlOK R) (hH0 : HdOK R H) (hR1 : RollAt μ R) (hH1 : HoldAt μ (s + 1) R H) (hi : i < rFc R) (hj : j < rFc R) : CtrV G l M_X8_fightNow [.ref (qB G + s), .int (nI i), .int (nI j)] μ (fun μ' => Fr [35, 36] μ μ' ∧ BoutAt μ' (feOf R H i) (feOf R H j) (bLen (feOf R H i) (feOf R H j))) := by
  refine m_enterV [some (.ref (qB G + s)), some (.int (nI i)), some (.int (nI j))] (by decide +kernel) rfl (Nat.le_of_ble_eq_true rfl) rfl (fun X hE hR => ?_)
  have hR : qR X = rm_X8_fightNow := hR
  show Zm G X cX8_fightNow RX8 _ 0 [some (.ref (qB G + s)), some (.int (nI i)), some (.int (nI j))] []
  obtain ⟨s0, s1, s2, s3, sC, ⟨f0, f1, f2, f3, a1, a2, a3, -⟩, -⟩ := hs
  have h6 := hR0.1
  have i6 : i < 6 := by omega
  have j6 : j < 6 := by omega
  refine z_aload_0 iX8_fightNow_0 ?_
  refine m_getR iX8_fightNow_1 g_8_27 s1 ?_
  refine z_aload_0 iX8_fightNow_4 ?_
  refine m_getR iX8_fightNow_5 g_8_23 s0 ?_
  refine m_getR iX8_fightNow_8 g_8_31 rfl ?_
  refine z_iload_1 iX8_fightNow_11 ?_
  refine m_aaldN iX8_fightNow_12 rfl (by decide) i6 ?_
  refine z_aload_0 iX8_fightNow_13 ?_
  refine m_getR iX8_fightNow_14 g_8_12 s2 ?_
  refine m_getR iX8_fightNow_17 g_8_37 f2 ?_
  refine z_iload_1 iX8_fightNow_20 ?_
  refine m_ialdN iX8_fightNow_21 a3 i6 ?_
  refine z_top (hH1.2.2.1 i i6) ?_
  refine z_aload_0 iX8_fightNow_22 ?_
  refine m_getR iX8_fightNow_23 g_8_23 s0 ?_
  refine m_getR iX8_fightNow_26 g_8_31 rfl ?_
  refine z_iload_2 iX8_fightNow_29 ?_
  refine m_aaldN iX8_fightNow_30 rfl (by decide) j6 ?_
  refine z_aload_0 iX8_fightNow_31 ?_
  refine m_getR iX8_fightNow_32 g_8_12 s2 ?_
  refine m_getR iX8_fightNow_35 g_8_37 f2 ?_
  refine z_iload_2 iX8_fightNow_38 ?_
  refine m_ialdN iX8_fightNow_39 a3 j6 ?_
  refine z_top (hH1.2.2.1 j j6) ?_
  refine z_bipush iX8_fightNow_40 kB_9 ?_
  refine z_iconst iX8_fightNow_42 kI_3 ?_
  refine m_callVv iX8_fightNow_43 l_8_41 f_X1_fight (c_X1_fight (F1 := feOf R H i) (F2 := feOf R H j) (most := 9) (en := 3) G _ (isFen_roll i i6) (isFen_roll j j6) (hR1.fen hi) (hR1.fen hj) (feOK hR0 hH0 hi) (feOK hR0 hH0 hj) (by omega) (by omega) (fen_out i6).1 (fen_out i6).2 (fen_out j6).1 (fen_out j6).2) rfl rfl rfl (Nat.le_of_ble_eq_true rfl) hR ft_X8_fightNow_X1_fight ⟨rfl, rfl⟩ ?_
  rintro μ1 ⟨hF, hB⟩
  exact m_vret hE iX8_fightNow_46 ⟨hF, hB⟩
theorem q_cost {p a b : Nat} (hp : p < 1000) (ha : a < 1000) (hb : b < 1000) : (if nI 0 < nI p - (nI a - nI b) then nI p - (nI a - nI b) else nI 0) = nI (p + b - a) := by
  have e : nI p - (nI a - nI b) = nI (p + b) - nI a := by rw [← nI_add]; grind
  rw [e]
  by_cases q : a ≤ p + b
  · rw [pk_sub q]
    by_cases q2 : 0 < p + b - a
    · rw [if_pos (nI_lt q2 (by omega))]
    · rw [if_neg (nI_nlt (by omega) (by omega))]
      rw [show p + b - a = 0 by omega]
  · have := pk_sneg (a := p + b) (b := a) (by omega) (by omega)
    rw [if_neg (fun z => ?_), show p + b - a = 0 by omega]
    have h1 := Int32.lt_iff_toInt_lt.mp this
    have h2 := Int32.lt_iff_toInt_lt.mp z
    rw [nI_0] at h2
    omega
def costH (R : Rl) (H : Hd) (f o g : Nat) : Nat := rPr R g + bH2 (feOf R H f) (feOf R H o) - bH1 (feOf R H f) (feOf R H o)
/-- Salle.costFor -/
theorem c_X8_costFor (G : qG) (l : Launch) {μ : Mem} {s f g : Nat} {R : Rl} {H : Hd} (hs : isSal s) (hR0 : RlOK R) (hH0 : HdOK R H) (hR1 : RollAt μ R) (hH1 : HoldAt μ (s + 1) R H) (hf : f < rFc R) (hg : g < rGc R) : CtrI G l M_X8_costFor [.ref (qB G + s), .int (nI f), .int (nI g)] μ (fun r μ' => Fr [35, 36] μ μ' ∧ r = nI (costH R H f (hOw H g) g)) := by
  refine m_enterI [some (.ref (qB G + s)), some (.int (nI f)), some (.int (nI g))] (by decide +kernel) rfl (Nat.le_of_ble_eq_true rfl) (fun X hE hR => ?_)
  have hR : qR X = rm_X8_costFor := hR
  have hE : EI G X _ (some .int) := hE
  show Zm G X cX8_costFor RX8 _ 0 [some (.ref (qB G + s)), some (.int (nI f)), some (.int (nI g))] []
  obtain ⟨s0, s1, s2, s3, sC, ⟨f0, f1, f2, f3, a1, a2, a3, -⟩, -⟩ := id hs
  have g5 : g < 5 := by have := hR0.2.1; omega
  have ho := hH0.1 g hg
  refine z_aload_0 iX8_costFor_0 ?_
  refine z_iload_1 iX8_costFor_1 ?_
  refine z_aload_0 iX8_costFor_2 ?_
  refine m_getR iX8_costFor_3 g_8_12 s2 ?_
  refine m_getR iX8_costFor_6 g_8_47 f0 ?_
  refine z_iload_2 iX8_costFor_9 ?_
  refine m_ialdN iX8_costFor_10 a1 g5 ?_
  refine z_top (hH1.1 g hg) ?_
  refine m_callVv iX8_costFor_11 l_8_50 f_X8_fightNow (c_X8_fightNow G _ hs hR0 hH0 hR1 hH1 hf ho) sC rfl rfl (Nat.le_of_ble_eq_true rfl) hR ft_X8_costFor_X8_fightNow ⟨rfl, rfl⟩ ?_
  rintro μ1 ⟨hF, hB⟩
  have hR2 := hR1.fr hR0 hF (by decide)
  have hb := bH_le (feOf R H f) (feOf R H (hOw H g))
  have hpr := (hR0.2.2.2 g hg).1
  refine z_iconst iX8_costFor_14 kI_0 ?_
  refine z_aload_0 iX8_costFor_15 ?_
  refine m_getR iX8_costFor_16 g_8_23 s0 ?_
  refine m_getR iX8_costFor_19 g_8_54 rfl ?_
  refine z_iload_2 iX8_costFor_22 ?_
  refine m_ialdN iX8_costFor_23 rfl g5 ?_
  refine z_top ((hR2.2.2.2 g hg).1) ?_
  refine z_aload_0 iX8_costFor_24 ?_
  refine m_getR iX8_costFor_25 g_8_27 s1 ?_
  refine m_callVi iX8_costFor_28 l_8_57 f_X1_lead (c_X1_lead G _) rfl rfl rfl (Nat.le_of_ble_eq_true rfl) hR ft_X8_costFor_X1_lead ⟨rfl, rfl⟩ ?_
  rintro r μ2 ⟨rfl, rfl⟩
  refine z_top (show _ = nI (bH1 (feOf R H f) (feOf R H (hOw H g))) - nI (bH2 (feOf R H f) (feOf R H (hOw H g))) from by rw [hB.1, hB.2.1]; rfl) ?_
  refine z_isub iX8_costFor_31 ?_
  refine z_max iX8_costFor_32 l_8_61 w_maxS w_mathI w_maxC hR ⟨Nat.le_of_ble_eq_true rfl, Nat.le_of_ble_eq_true rfl, Nat.zero_le _, Nat.zero_le _⟩ ?_
  refine z_top (q_cost (by omega) (by omega) (by omega)) ?_
  exact m_iret hE iX8_costFor_35 ⟨hF, rfl⟩
def stepH (R : Rl) (H : Hd) (f : Nat) : Hd := if rKd R f = 3 then H else (hOw H, hPu H, updN (hFe H) f ((hFe H f + 1) % 3), hDy H)
/-- Salle.letStep -/
theorem c_X8_letStep (G : qG) (l : Launch) {μ : Mem} {s f : Nat} {R : Rl} {H : Hd} (hs : isSal s) (hR0 : RlOK R) (hH0 : HdOK R H) (hR1 : RollAt μ R) (hH1 : HoldAt μ (s + 1) R H) (hf : f < rFc R) : CtrV G l M_X8_letStep [.ref (qB G + s), .int (nI f)] μ (fun μ' => Fr [s + 1 + 3] μ μ' ∧ HoldAt μ' (s + 1) R (stepH R H f)) := by
  refine m_enterV [some (.ref (qB G + s)), some (.int (nI f))] (by decide +kernel) rfl (Nat.le_of_ble_eq_true rfl) rfl (fun X hE hR => ?_)
  have hR : qR X = rm_X8_letStep := hR
  show Zm G X cX8_letStep RX8 _ 0 [some (.ref (qB G + s)), some (.int (nI f))] []
  obtain ⟨s0, s1, s2, s3, sC, ⟨f0, f1, f2, f3, a1, a2, a3, -⟩, -⟩ := id hs
  have f6 : f < 6 := by have := hR0.1; omega
  have hkd := (hR0.2.2.1 f hf).1
  have hfe := (hH0.2.1 f f6).2
  refine z_aload_0 iX8_letStep_0 ?_
  refine m_getR iX8_letStep_1 g_8_23 s0 ?_
  refine m_getR iX8_letStep_4 g_8_31 rfl ?_
  refine z_iload_1 iX8_letStep_7 ?_
  refine m_aaldN iX8_letStep_8 rfl (by decide) f6 ?_
  refine m_getI iX8_letStep_9 g_8_84 (isFen_roll f f6).1 ?_
  refine z_top ((hR1.2.2.1 f hf).1) ?_
  refine z_iconst iX8_letStep_12 kI_3 ?_
  refine z_icmp_eqN iX8_letStep_13 (by omega) (by omega) (fun h3 => ?_) (fun h3 => ?_)
  · exact m_vret hE iX8_letStep_38 ⟨Fr.rf, by unfold stepH; rw [if_pos h3]; exact hH1⟩
  · refine z_aload_0 iX8_letStep_16 ?_
    refine m_getR iX8_letStep_17 g_8_12 s2 ?_
    refine m_getR iX8_letStep_20 g_8_37 f2 ?_
    refine z_iload_1 iX8_letStep_23 ?_
    refine z_aload_0 iX8_letStep_24 ?_
    refine m_getR iX8_letStep_25 g_8_12 s2 ?_
    refine m_getR iX8_letStep_28 g_8_37 f2 ?_
    refine z_iload_1 iX8_letStep_31 ?_
    refine m_ialdN iX8_letStep_32 a3 f6 ?_
    refine z_top (hH1.2.2.1 f f6) ?_
    refine z_iconst iX8_letStep_33 kI_1 ?_
    refine z_iaddN iX8_letStep_34 ?_
    refine z_iconst iX8_letStep_35 kI_3 ?_
    refine z_iremN iX8_letStep_36 (by omega) (by omega) (by omega) ?_
    refine m_iastN iX8_letStep_37 a3 f6 ?_
    refine m_vret hE iX8_letStep_38 ⟨Fr.rf.mw _ _ (by simp), ?_⟩
    unfold stepH
    rw [if_neg h3]
    refine ⟨fun g hg => ?_, fun j hj => ?_, fun j hj => ?_, ?_⟩
    · rw [mw_ne _ _ (Or.inl (by omega))]; exact hH1.1 g hg
    · rw [mw_ne _ _ (Or.inl (by omega))]; exact hH1.2.1 j hj
    · by_cases q : j = f
      · subst q
        rw [mw_same]; simp [hFe, updN]
      · rw [mw_ne _ _ (Or.inr q)]; simp only [hFe, updN, q, if_false]; exact hH1.2.2.1 j hj
    · rw [mw_ne _ _ (Or.inl (by omega))]; exact hH1.2.2.2
theorem stepOK {R : Rl} {H : Hd} {f : Nat} (hR : RlOK R) (hH : HdOK R H) (hf : f < rFc R) : HdOK R (stepH R H f) := by
  unfold stepH
  split
  · exact hH
  · next h3 =>
    obtain ⟨h1, h2, h4, h5⟩ := hH
    refine ⟨h1, fun j hj => ⟨(h2 j hj).1, ?_⟩, fun j hj hj6 => ⟨(h4 j hj hj6).1, ?_⟩, fun j hj hk => ?_⟩
    · simp only [hFe, updN]
      split
      · omega
      · exact (h2 j hj).2
    · simp only [hFe, updN]
      rw [if_neg (by omega)]
      exact (h4 j hj hj6).2
    · simp only [hFe, updN]
      rw [if_neg (fun q => h3 (by rw [← q]; exact hk))]
      exact h5 j hj hk
/-- a good that is met for -/
def buyH (R : Rl) (H : Hd) (f g : Nat) : Hd := if costH R H f (hOw H g) g ≤ hPu H f then (updN (hOw H) g f, updN (updN (hPu H) f (hPu H f - costH R H f (hOw H g) g)) (hOw H g) (min 99 (updN (hPu H) f (hPu H f - costH R H f (hOw H g) g) (hOw H g) + costH R H f (hOw H g) g)), hFe H, hDy H) else H
def dayH (H : Hd) : Hd := (hOw H, hPu H, hFe H, hDy H + 1)
def meetH (R : Rl) (H : Hd) (f g : Nat) : Hd := dayH (stepH R (stepH R (buyH R H f g) f) (hOw H g))
theorem buyOK {R : Rl} {H : Hd} {f g : Nat} (hR : RlOK R) (hH : HdOK R H) (hf : f < rFc R) (hg : g < rGc R) : HdOK R (buyH R H f g) := by
  unfold buyH
  split
  · next hc =>
    obtain ⟨h1, h2, h4, h5⟩ := hH
    have ho := h1 g hg
    have h6 := hR.1
    refine ⟨fun k hk => ?_, fun j hj => ⟨?_, (h2 j hj).2⟩, fun j hj hj6 => ⟨?_, (h4 j hj hj6).2⟩, h5⟩
    · simp only [hOw, updN]
      split
      · exact hf
      · exact h1 k hk
    · have b1 := (h2 j hj).1
      have b2 := (h2 f (by omega)).1
      simp only [hPu, updN]
      split
      · exact Nat.min_le_left _ _
      · split
        · simp only [hPu] at b2; omega
        · exact b1
    · simp only [hPu, updN]
      rw [if_neg (by omega), if_neg (by omega)]
      exact (h4 j hj hj6).1
  · exact hH
theorem dayOK {R : Rl} {H : Hd} (hH : HdOK R H) : HdOK R (dayH H) := hH
theorem meetOK {R : Rl} {H : Hd} {f g : Nat} (hR : RlOK R) (hH : HdOK R H) (hf : f < rFc R) (hg : g < rGc R) : HdOK R (meetH R H f g) := dayOK (stepOK hR (stepOK hR (buyOK hR hH hf hg) hf) (hH.1 g hg))

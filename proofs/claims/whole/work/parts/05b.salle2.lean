/-! SALLE, its doings -/
theorem c_hasF (G : qG) (l : Launch) {μ : Mem} {a n f : Nat} (ha : layF a 3 = some (7, none)) (hn : μ.1 a 3 = nI n) (hs : n < 1000) (hf : f < 2 ^ 31) : CtrI G l M_X7_hasFencer [.ref (qB G + a), .int (nI f)] μ (fun r μ' => μ' = μ ∧ ((r = nI 1 ∧ f < n) ∨ (r = nI 0 ∧ n ≤ f))) :=
  (c_X7_hasFencer G l ha hn hs (nI f)).weaken (fun r μ' h => ⟨h.1, h.2.imp (fun ⟨e, k, hk, q⟩ => ⟨e, by have := (nI_eq hf (by omega)).mp q; omega⟩) (fun ⟨e, q⟩ => ⟨e, Nat.not_lt.mp (fun z => q f z rfl)⟩)⟩)
theorem c_hasG (G : qG) (l : Launch) {μ : Mem} {a n f : Nat} (ha : layF a 4 = some (7, none)) (hn : μ.1 a 4 = nI n) (hs : n < 1000) (hf : f < 2 ^ 31) : CtrI G l M_X7_hasGood [.ref (qB G + a), .int (nI f)] μ (fun r μ' => μ' = μ ∧ ((r = nI 1 ∧ f < n) ∨ (r = nI 0 ∧ n ≤ f))) :=
  (c_X7_hasGood G l ha hn hs (nI f)).weaken (fun r μ' h => ⟨h.1, h.2.imp (fun ⟨e, k, hk, q⟩ => ⟨e, by have := (nI_eq hf (by omega)).mp q; omega⟩) (fun ⟨e, q⟩ => ⟨e, Nat.not_lt.mp (fun z => q f z rfl)⟩)⟩)
theorem nI10 : ¬ nI 1 = 0 := by decide
theorem nI00 : nI 0 = 0 := by decide
/-- Salle.letMeet -/
theorem c_X8_letMeet (G : qG) (l : Launch) {μ : Mem} {s f g : Nat} {R : Rl} {H : Hd} (hs : isSal s) (hR0 : RlOK R) (hH0 : HdOK R H) (hR1 : RollAt μ R) (hH1 : HoldAt μ (s + 1) R H) (hf : f < rFc R) (hg : g < rGc R) : CtrV G l M_X8_letMeet [.ref (qB G + s), .int (nI f), .int (nI g)] μ (fun μ' => Fr [35, 36, s + 1, s + 1 + 1, s + 1 + 2, s + 1 + 3] μ μ' ∧ HoldAt μ' (s + 1) R (meetH R H f g)) := by
  refine m_enterV [some (.ref (qB G + s)), some (.int (nI f)), some (.int (nI g)), none, none] (by decide +kernel) rfl (Nat.le_of_ble_eq_true rfl) rfl (fun X hE hR => ?_)
  have hR : qR X = rm_X8_letMeet := hR
  show Zm G X cX8_letMeet RX8 _ 0 [some (.ref (qB G + s)), some (.int (nI f)), some (.int (nI g)), none, none] []
  obtain ⟨s0, s1, s2, s3, sC, hhd, -, -, sm⟩ := id hs
  obtain ⟨f0, f1, f2, f3, a1, a2, a3, aC⟩ := id hhd
  have hs37 : 37 ≤ s := by simp only [List.mem_cons, List.not_mem_nil, or_false] at sm; omega
  have g5 : g < 5 := by have := hR0.2.1; omega
  have f6 : f < 6 := by have := hR0.1; omega
  have ho := hH0.1 g hg
  have o6 : hOw H g < 6 := by have := hR0.1; omega
  have hpu := (hH0.2.1 f f6).1
  have hpr := (hR0.2.2.2 g hg).1
  have hb := bH_le (feOf R H f) (feOf R H (hOw H g))
  have hcs : costH R H f (hOw H g) g < 100 := by unfold costH; omega
  have sub : ∀ a, a ∈ [35, 36] → a ∈ [35, 36, s + 1, s + 1 + 1, s + 1 + 2, s + 1 + 3] := fun a h => by simp at h ⊢; omega
  have sub3 : ∀ a, a ∈ [s + 1 + 3] → a ∈ [35, 36, s + 1, s + 1 + 1, s + 1 + 2, s + 1 + 3] := fun a h => by simp at h ⊢; omega
  refine z_aload_0 iX8_letMeet_0 ?_
  refine m_getR iX8_letMeet_1 g_8_12 s2 ?_
  refine m_getR iX8_letMeet_4 g_8_47 f0 ?_
  refine z_iload_2 iX8_letMeet_7 ?_
  refine m_ialdN iX8_letMeet_8 a1 g5 ?_
  refine z_top (hH1.1 g hg) ?_
  refine z_istore_3 iX8_letMeet_9 rfl ?_
  refine z_aload_0 iX8_letMeet_10 ?_
  refine z_iload_1 iX8_letMeet_11 ?_
  refine z_iload_2 iX8_letMeet_12 ?_
  refine m_callVi iX8_letMeet_13 l_8_67 f_X8_costFor (c_X8_costFor G _ hs hR0 hH0 hR1 hH1 hf hg) sC rfl rfl (Nat.le_of_ble_eq_true rfl) hR ft_X8_letMeet_X8_costFor ⟨rfl, rfl⟩ ?_
  rintro r μ1 ⟨hF1, rfl⟩
  have hR2 := hR1.fr hR0 hF1 (by decide)
  have hH2 : HoldAt μ1 (s + 1) R H := hH1.fr hF1 (fun a h => by simp at h; omega)
  have rest : ∀ (μ3 : Mem) (w : Option Value), Fr [35, 36, s + 1, s + 1 + 1, s + 1 + 2, s + 1 + 3] μ μ3 → HoldAt μ3 (s + 1) R (buyH R H f g) → Zm G X cX8_letMeet RX8 μ3 66 [some (.ref (qB G + s)), some (.int (nI f)), some (.int (nI g)), some (.int (nI (hOw H g))), w] [] := by
    intro μ3 w hF3 hH3
    have hOK3 := buyOK hR0 hH0 hf hg
    have hR3 : RollAt μ3 R := hR1.fr hR0 hF3 (fun a h => by simp at h; omega)
    refine z_aload_0 iX8_letMeet_66 ?_
    refine z_iload_1 iX8_letMeet_67 ?_
    refine m_callVv iX8_letMeet_68 l_8_76 f_X8_letStep (c_X8_letStep G _ hs hR0 hOK3 hR3 hH3 hf) sC rfl rfl (Nat.le_of_ble_eq_true rfl) hR ft_X8_letMeet_X8_letStep ⟨rfl, rfl⟩ ?_
    rintro μ4 ⟨hF4, hH4⟩
    have hR4 : RollAt μ4 R := hR3.fr hR0 hF4 (fun a h => by simp at h; omega)
    refine z_aload_0 iX8_letMeet_71 ?_
    refine z_iload_3 iX8_letMeet_72 ?_
    refine m_callVv iX8_letMeet_73 l_8_76 f_X8_letStep (c_X8_letStep G _ hs hR0 (stepOK hR0 hOK3 hf) hR4 hH4 ho) sC rfl rfl (Nat.le_of_ble_eq_true rfl) hR ft_X8_letMeet_X8_letStep ⟨rfl, rfl⟩ ?_
    rintro μ5 ⟨hF5, hH5⟩
    refine z_aload_0 iX8_letMeet_76 ?_
    refine m_getR iX8_letMeet_77 g_8_12 s2 ?_
    refine z_dup iX8_letMeet_80 rfl ?_
    refine m_getI iX8_letMeet_81 g_8_80 f3 ?_
    refine z_top (hH5.2.2.2) ?_
    refine z_iconst iX8_letMeet_84 kI_1 ?_
    refine z_iaddN iX8_letMeet_85 ?_
    refine m_putI iX8_letMeet_86 p_8_80 f3 ?_
    refine m_vret hE iX8_letMeet_89 ⟨((hF3.trans (hF4.mono sub3)).trans (hF5.mono sub3)).mw _ _ (by simp), ?_⟩
    refine ⟨fun k hk => ?_, fun k hk => ?_, fun k hk => ?_, ?_⟩
    · rw [mw_ne _ _ (Or.inl (by omega))]; exact hH5.1 k hk
    · rw [mw_ne _ _ (Or.inl (by omega))]; exact hH5.2.1 k hk
    · rw [mw_ne _ _ (Or.inl (by omega))]; exact hH5.2.2.1 k hk
    · rw [mw_same]; rfl
  refine z_istore_4 iX8_letMeet_16 rfl ?_
  refine z_aload_0 iX8_letMeet_18 ?_
  refine m_getR iX8_letMeet_19 g_8_12 s2 ?_
  refine m_getR iX8_letMeet_22 g_8_70 f1 ?_
  refine z_iload_1 iX8_letMeet_25 ?_
  refine m_ialdN iX8_letMeet_26 a2 f6 ?_
  refine z_top (hH2.2.1 f f6) ?_
  refine z_iload_4 iX8_letMeet_27 ?_
  refine z_icmp_ltN iX8_letMeet_29 (by omega) (by omega) (fun hlt => ?_) (fun hlt => ?_)
  · refine rest μ1 _ (hF1.mono sub) ?_
    unfold buyH
    rw [if_neg (by omega)]
    exact hH2
  · refine z_aload_0 iX8_letMeet_32 ?_
    refine m_getR iX8_letMeet_33 g_8_12 s2 ?_
    refine m_getR iX8_letMeet_36 g_8_70 f1 ?_
    refine z_iload_1 iX8_letMeet_39 ?_
    refine z_dup2 iX8_letMeet_40 rfl rfl ?_
    refine m_ialdN iX8_letMeet_41 a2 f6 ?_
    refine z_top (hH2.2.1 f f6) ?_
    refine z_iload_4 iX8_letMeet_42 ?_
    refine z_isubN iX8_letMeet_44 (by omega) ?_
    refine m_iastN iX8_letMeet_45 a2 f6 ?_
    refine z_aload_0 iX8_letMeet_46 ?_
    refine m_getR iX8_letMeet_47 g_8_12 s2 ?_
    refine z_iload_3 iX8_letMeet_50 ?_
    refine z_iload_4 iX8_letMeet_51 ?_
    have hpo : (mw μ1 (s + 1 + 2) f (nI (hPu H f - costH R H f (hOw H g) g))).1 (s + 1 + 2) (hOw H g) = nI (updN (hPu H) f (hPu H f - costH R H f (hOw H g) g) (hOw H g)) := by
      by_cases q : hOw H g = f
      · rw [q, mw_same]; simp [updN]
      · rw [mw_ne _ _ (Or.inr q)]; simp only [updN, q, if_false]; exact hH2.2.1 _ o6
    have hpo99 : updN (hPu H) f (hPu H f - costH R H f (hOw H g) g) (hOw H g) ≤ 99 := by
      have := (hH0.2.1 _ o6).1
      unfold updN
      split <;> omega
    refine m_callVv iX8_letMeet_53 l_8_73 f_X5_fill (c_X5_fill G _ hhd o6 hpo hpo99 (by omega)) aC rfl rfl (Nat.le_of_ble_eq_true rfl) hR ft_X8_letMeet_X5_fill ⟨rfl, rfl⟩ ?_
    rintro μ3 rfl
    refine z_aload_0 iX8_letMeet_56 ?_
    refine m_getR iX8_letMeet_57 g_8_12 s2 ?_
    refine m_getR iX8_letMeet_60 g_8_47 f0 ?_
    refine z_iload_2 iX8_letMeet_63 ?_
    refine z_iload_1 iX8_letMeet_64 ?_
    refine m_iastN iX8_letMeet_65 a1 g5 ?_
    refine rest _ _ ((((hF1.mono sub).mw _ _ (by simp)).mw _ _ (by simp)).mw _ _ (by simp)) ?_
    unfold buyH
    rw [if_pos hlt]
    refine ⟨fun k hk => ?_, fun k hk => ?_, fun k hk => ?_, ?_⟩
    · by_cases q : k = g
      · subst q
        rw [mw_same]; simp [hOw, updN]
      · rw [mw_ne _ _ (Or.inr q), mw_ne _ _ (Or.inl (by omega)), mw_ne _ _ (Or.inl (by omega))]
        simp only [hOw, updN, q, if_false]; exact hH2.1 k hk
    · rw [mw_ne _ _ (Or.inl (by omega))]
      by_cases q : k = hOw H g
      · subst q
        rw [mw_same]; simp [hPu, updN]
      · rw [mw_ne _ _ (Or.inr q)]
        by_cases q2 : k = f
        · subst q2
          rw [mw_same]
          simp [hPu, updN, q]
        · rw [mw_ne _ _ (Or.inr q2)]
          simp only [hPu, updN, q, q2, if_false]; exact hH2.2.1 k hk
    · rw [mw_ne _ _ (Or.inl (by omega)), mw_ne _ _ (Or.inl (by omega)), mw_ne _ _ (Or.inl (by omega))]; exact hH2.2.2.1 k hk
    · rw [mw_ne _ _ (Or.inl (by omega)), mw_ne _ _ (Or.inl (by omega)), mw_ne _ _ (Or.inl (by omega))]; exact hH2.2.2.2
def canT (R : Rl) (H : Hd) (f g : Nat) : Prop := f < rFc R ∧ g < rGc R ∧ hOw H g ≠ f
/-- Salle.canTrade -/
theorem c_X8_canTrade (G : qG) (l : Launch) {μ : Mem} {s f g : Nat} {R : Rl} {H : Hd} (hs : isSal s) (hR0 : RlOK R) (hH0 : HdOK R H) (hR1 : RollAt μ R) (hH1 : HoldAt μ (s + 1) R H) (hf : f < 1000) (hg : g < 1000) : CtrI G l M_X8_canTrade [.ref (qB G + s), .int (nI f), .int (nI g)] μ (fun r μ' => μ' = μ ∧ ((r = nI 1 ∧ canT R H f g) ∨ (r = nI 0 ∧ ¬ canT R H f g))) := by
  refine m_enterI [some (.ref (qB G + s)), some (.int (nI f)), some (.int (nI g))] (by decide +kernel) rfl (Nat.le_of_ble_eq_true rfl) (fun X hE hR => ?_)
  have hR : qR X = rm_X8_canTrade := hR
  have hE : EI G X _ (some .boolean) := hE
  show Zm G X cX8_canTrade RX8 _ 0 [some (.ref (qB G + s)), some (.int (nI f)), some (.int (nI g))] []
  obtain ⟨s0, s1, s2, s3, sC, ⟨f0, f1, f2, f3, a1, a2, a3, -⟩, -⟩ := id hs
  have h6 := hR0.1
  have h5 := hR0.2.1
  refine z_aload_0 iX8_canTrade_0 ?_
  refine m_getR iX8_canTrade_1 g_8_23 s0 ?_
  refine z_iload_1 iX8_canTrade_4 ?_
  refine m_callVi iX8_canTrade_5 l_8_89 f_X7_hasFencer (c_hasF G _ rfl hR1.1 (by omega) (by omega)) rfl rfl rfl (Nat.le_of_ble_eq_true rfl) hR ft_X8_canTrade_X7_hasFencer ⟨rfl, rfl⟩ ?_
  rintro r μ1 ⟨rfl, h | h⟩ <;> obtain ⟨rfl, h⟩ := h
  · refine z_if_eq iX8_canTrade_8 (fun q => ?_) (fun q => ?_)
    · exact absurd q nI10
    · refine z_aload_0 iX8_canTrade_11 ?_
      refine m_getR iX8_canTrade_12 g_8_23 s0 ?_
      refine z_iload_2 iX8_canTrade_15 ?_
      refine m_callVi iX8_canTrade_16 l_8_93 f_X7_hasGood (c_hasG G _ rfl hR1.2.1 (by omega) (by omega)) rfl rfl rfl (Nat.le_of_ble_eq_true rfl) hR ft_X8_canTrade_X7_hasGood ⟨rfl, rfl⟩ ?_
      rintro r μ1 ⟨rfl, h' | h'⟩ <;> obtain ⟨rfl, h'⟩ := h'
      · refine z_if_eq iX8_canTrade_19 (fun q => ?_) (fun q => ?_)
        · exact absurd q nI10
        · have ho := hH0.1 g h'
          refine z_aload_0 iX8_canTrade_22 ?_
          refine m_getR iX8_canTrade_23 g_8_12 s2 ?_
          refine m_getR iX8_canTrade_26 g_8_47 f0 ?_
          refine z_iload_2 iX8_canTrade_29 ?_
          refine m_ialdN iX8_canTrade_30 a1 (by omega) ?_
          refine z_top (hH1.1 g h') ?_
          refine z_iload_1 iX8_canTrade_31 ?_
          refine z_icmp_eqN iX8_canTrade_32 (by omega) (by omega) (fun q2 => ?_) (fun q2 => ?_)
          · refine z_iconst iX8_canTrade_39 kI_0 ?_
            exact m_zret hE iX8_canTrade_40 rfl ⟨rfl, Or.inr ⟨rfl, fun z => z.2.2 q2⟩⟩
          · refine z_iconst iX8_canTrade_35 kI_1 ?_
            refine z_goto iX8_canTrade_36 ?_
            exact m_zret hE iX8_canTrade_40 rfl ⟨rfl, Or.inl ⟨rfl, h, h', q2⟩⟩
      · refine z_if_eq iX8_canTrade_19 (fun q => ?_) (fun q => ?_)
        · refine z_iconst iX8_canTrade_39 kI_0 ?_
          exact m_zret hE iX8_canTrade_40 rfl ⟨rfl, Or.inr ⟨rfl, fun z => absurd z.2.1 (by omega)⟩⟩
        · exact absurd nI00 q
  · refine z_if_eq iX8_canTrade_8 (fun q => ?_) (fun q => ?_)
    · refine z_iconst iX8_canTrade_39 kI_0 ?_
      exact m_zret hE iX8_canTrade_40 rfl ⟨rfl, Or.inr ⟨rfl, fun z => absurd z.1 (by omega)⟩⟩
    · exact absurd nI00 q
def fillH (H : Hd) (f n : Nat) : Hd := (hOw H, updN (hPu H) f (min 99 (hPu H f + n)), hFe H, hDy H)
theorem fillOK {R : Rl} {H : Hd} {f n : Nat} (hR : RlOK R) (hH : HdOK R H) (hf : f < rFc R) : HdOK R (fillH H f n) := by
  obtain ⟨h1, h2, h4, h5⟩ := hH
  refine ⟨h1, fun j hj => ⟨?_, (h2 j hj).2⟩, fun j hj hj6 => ⟨?_, (h4 j hj hj6).2⟩, h5⟩
  · simp only [fillH, hPu, updN]
    split
    · exact Nat.min_le_left _ _
    · exact (h2 j hj).1
  · simp only [fillH, hPu, updN]
    rw [if_neg (by omega)]
    exact (h4 j hj hj6).1
theorem HoldAt.fill {μ : Mem} {hd f n : Nat} {R : Rl} {H : Hd} (h : HoldAt μ hd R H) : HoldAt (mw μ (hd + 2) f (nI (min 99 (hPu H f + n)))) hd R (fillH H f n) := by
  obtain ⟨h1, h2, h3, h4⟩ := h
  refine ⟨fun g hg => ?_, fun j hj => ?_, fun j hj => ?_, ?_⟩
  · rw [mw_ne _ _ (Or.inl (by omega))]; exact h1 g hg
  · by_cases q : j = f
    · subst q
      rw [mw_same]; simp [fillH, hPu, updN]
    · rw [mw_ne _ _ (Or.inr q)]; simp only [fillH, hPu, updN, q, if_false]; exact h2 j hj
  · rw [mw_ne _ _ (Or.inl (by omega))]; exact h3 j hj
  · rw [mw_ne _ _ (Or.inl (by omega))]; exact h4
/-- one beats another: more hits in a bout of both -/
def bt (R : Rl) (H : Hd) (i j : Nat) : Prop := bH2 (feOf R H i) (feOf R H j) < bH1 (feOf R H i) (feOf R H j)
/-- a told doing: can it be, and what is then -/
def doP (R : Rl) (H : Hd) (d a b : Nat) : Prop := (d = 1 ∧ canT R H a b ∧ hOw (meetH R H a b) b = a) ∨ (d = 2 ∧ a = 0 ∧ b < rFc R) ∨ (d = 3 ∧ a < rFc R ∧ 1 ≤ b) ∨ (d = 4 ∧ a < rFc R ∧ b < rFc R ∧ a ≠ b ∧ bt R H a b) ∨ (d = 5 ∧ a < rFc R ∧ b < rGc R ∧ hOw H b = a)
def doH (R : Rl) (H : Hd) (d a b : Nat) : Hd := if d = 1 ∧ a < rFc R ∧ b < rGc R ∧ hOw H b ≠ a then meetH R H a b else if d = 2 ∧ a = 0 ∧ b < rFc R then stepH R H b else if d = 3 ∧ a < rFc R ∧ 1 ≤ b then fillH H a b else H

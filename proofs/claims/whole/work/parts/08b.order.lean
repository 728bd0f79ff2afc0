/-! COUNSEL: orders, by sets of fencers -/
def clr (s f : Nat) : Nat := if bitN s f = 1 then s - 2 ^ f else s
theorem q_clr : ∀ s, s < 64 → ∀ f, f < 6 → nI s &&& ((nI 1 <<< (nI f &&& 31)) ^^^ (-1)) = nI (clr s f) := by decide +kernel
theorem q_and : ∀ a, a < 64 → ∀ b, b < 64 → nI a &&& nI b = nI (a &&& b) := by decide +kernel
theorem q_pow : ∀ f, f < 7 → nI 1 <<< (nI f &&& 31) = nI (2 ^ f) := by decide +kernel
theorem land_lt : ∀ a, a < 64 → ∀ b, b < 64 → a &&& b < 64 := by decide +kernel
theorem clr_lt : ∀ s, s < 64 → ∀ f, f < 6 → clr s f < 64 ∧ (bitN s f = 1 → clr s f < s) := by decide +kernel
theorem pcN_le (b : Nat) : pcN b ≤ 6 := by
  unfold pcN
  have h0 := bitN_lt b 0
  have h1 := bitN_lt b 1
  have h2 := bitN_lt b 2
  have h3 := bitN_lt b 3
  have h4 := bitN_lt b 4
  have h5 := bitN_lt b 5
  omega
/-- pairs against, with f ahead of the rest of s -/
def ag (B t : Nat → Nat) (s f : Nat) : Nat := pcN (B f &&& clr s f) + t (clr s f)
def mnF (B t : Nat → Nat) (s : Nat) : Nat → Nat
  | 0 => 1000000
  | k + 1 => if bitN s k = 1 then min (mnF B t s k) (ag B t s k) else mnF B t s k
/-- the table of sets below n -/
def tbl (B : Nat → Nat) (fc : Nat) : Nat → (Nat → Nat)
  | 0 => fun _ => 0
  | 1 => fun _ => 0
  | n + 2 => updN (tbl B fc (n + 1)) (n + 1) (mnF B (tbl B fc (n + 1)) (n + 1) fc)
theorem mnF_le (B t : Nat → Nat) (s : Nat) : ∀ k, mnF B t s k ≤ 1000000
  | 0 => Nat.le_refl _
  | k + 1 => by
    have := mnF_le B t s k
    unfold mnF
    split
    · exact Nat.le_trans (Nat.min_le_left _ _) this
    · exact this
theorem tbl_le (B : Nat → Nat) (fc : Nat) : ∀ n s, tbl B fc n s ≤ 1000000
  | 0, _ => Nat.zero_le _
  | 1, _ => Nat.zero_le _
  | n + 2, s => by
    unfold tbl updN
    split
    · exact mnF_le _ _ _ _
    · exact tbl_le B fc (n + 1) s
/-- Counsel.againstWithAhead -/
theorem c_X3_againstWithAhead (G : qG) (l : Launch) {μ : Mem} {B t : Nat → Nat} {s f : Nat} (hs : s < 64) (hf : f < 6) (hB : μ.1 121 f = nI (B f)) (hB64 : B f < 64) (ht : μ.1 122 (clr s f) = nI (t (clr s f))) : CtrI G l M_X3_againstWithAhead [.ref (qB G + 119), .int (nI f), .int (nI s)] μ (fun r μ' => μ' = μ ∧ r = nI (ag B t s f)) := by
  refine m_enterI [some (.ref (qB G + 119)), some (.int (nI f)), some (.int (nI s)), none] (by decide +kernel) rfl (Nat.le_of_ble_eq_true rfl) (fun X hE hR => ?_)
  have hR : qR X = rm_X3_againstWithAhead := hR
  have hE : EI G X _ (some .int) := hE
  show Zm G X cX3_againstWithAhead RX3 _ 0 [some (.ref (qB G + 119)), some (.int (nI f)), some (.int (nI s)), none] []
  have hc := (clr_lt s hs f hf).1
  refine z_iload_2 iX3_againstWithAhead_0 ?_
  refine z_iconst iX3_againstWithAhead_1 kI_1 ?_
  refine z_iload_1 iX3_againstWithAhead_2 ?_
  refine z_ishl iX3_againstWithAhead_3 ?_
  refine z_iconst (x := -1) iX3_againstWithAhead_4 (by decide) ?_
  refine z_ixor iX3_againstWithAhead_5 ?_
  refine z_iand iX3_againstWithAhead_6 ?_
  refine z_top (q_clr s hs f hf) ?_
  refine z_istore_3 iX3_againstWithAhead_7 rfl ?_
  refine z_aload_0 iX3_againstWithAhead_8 ?_
  refine m_getR iX3_againstWithAhead_9 g_3_15 rfl ?_
  refine z_iload_1 iX3_againstWithAhead_12 ?_
  refine m_ialdN iX3_againstWithAhead_13 rfl hf ?_
  refine z_top (hB) ?_
  refine z_iload_3 iX3_againstWithAhead_14 ?_
  refine z_iand iX3_againstWithAhead_15 ?_
  refine z_top (q_and _ hB64 _ hc) ?_
  refine m_callSi iX3_againstWithAhead_16 l_3_93 f_J6_bitCount_0f7a4 (c_bitCount G _ (land_lt _ hB64 _ hc)) rfl rfl (Nat.le_of_ble_eq_true rfl) hR ft_X3_againstWithAhead_J6_bitCount_0f7a4 ⟨rfl, rfl⟩ ?_
  rintro r μ1 ⟨rfl, rfl⟩
  refine z_aload_0 iX3_againstWithAhead_19 ?_
  refine m_getR iX3_againstWithAhead_20 g_3_18 rfl ?_
  refine z_iload_3 iX3_againstWithAhead_23 ?_
  refine m_ialdN iX3_againstWithAhead_24 rfl hc ?_
  refine z_top (ht) ?_
  refine z_iaddN iX3_againstWithAhead_25 ?_
  exact m_iret hE iX3_againstWithAhead_26 ⟨rfl, rfl⟩
/-- who beats a fencer, as a set -/
def whoB (R : Rl) (H : Hd) (f : Nat) : Nat := bset (fun k => btB R H k f) (rFc R)
theorem whoB_lt {R : Rl} {H : Hd} {f : Nat} (hR : RlOK R) : whoB R H f < 64 := by
  have := bset_lt (fun k => btB R H k f) (rFc R)
  have h2 : (2 : Nat) ^ rFc R ≤ 2 ^ 6 := Nat.pow_le_pow_right (by decide) hR.1
  unfold whoB
  omega
def cnS : List Nat := [35, 36, 43, 44, 45, 46, 47, 48, 121, 122]
/-- Counsel.weighOrders -/
theorem c_X3_weighOrders (G : qG) (l : Launch) {μ : Mem} {R : Rl} {H : Hd} (hR0 : RlOK R) (hH0 : HdOK R H) (hR1 : RollAt μ R) (hH1 : HoldAt μ 38 R H) : CtrV G l M_X3_weighOrders [.ref (qB G + 119)] μ (fun μ' => Fr cnS μ μ' ∧ (∀ f, f < rFc R → μ'.1 121 f = nI (whoB R H f)) ∧ ∀ s, s < 2 ^ rFc R → μ'.1 122 s = nI (tbl (whoB R H) (rFc R) (2 ^ rFc R) s)) := by
  refine m_enterV [some (.ref (qB G + 119)), none, none, none] (by decide +kernel) rfl (Nat.le_of_ble_eq_true rfl) rfl (fun X hE hR => ?_)
  have hR : qR X = rm_X3_weighOrders := hR
  show Zm G X cX3_weighOrders RX3 _ 0 [some (.ref (qB G + 119)), none, none, none] []
  have h6 := hR0.1
  have h2p : (2 : Nat) ^ rFc R ≤ 64 := Nat.pow_le_pow_right (by decide) h6
  have h2pos : 0 < (2 : Nat) ^ rFc R := Nat.two_pow_pos _
  refine z_aload_0 iX3_weighOrders_0 ?_
  refine m_getR iX3_weighOrders_1 g_3_21 rfl ?_
  refine m_callVv iX3_weighOrders_4 l_3_43 f_X8_compareAll (c_X8_compareAll G _ isSal_37 hR0 hH0 hR1 hH1) rfl rfl rfl (Nat.le_of_ble_eq_true rfl) hR ft_X3_weighOrders_X8_compareAll ⟨rfl, rfl⟩ ?_
  rintro μ0 ⟨hF0, hL0⟩
  have hF0' : Fr cnS μ μ0 := hF0.mono (by decide)
  have hR2 : RollAt μ0 R := hR1.fr hR0 hF0 (by decide)
  have inner : ∀ (s : Nat), 0 < s → s < 2 ^ rFc R → (∀ μ1 : Mem, Fr [121, 122] μ0 μ1 → (∀ f, f < rFc R → μ1.1 121 f = nI (whoB R H f)) → (∀ s', s' < s → μ1.1 122 s' = nI (tbl (whoB R H) (rFc R) s s')) → μ1.1 122 s = nI (mnF (whoB R H) (tbl (whoB R H) (rFc R) s) s (rFc R)) → Zm G X cX3_weighOrders RX3 μ1 112 [some (.ref (qB G + 119)), some (.int (nI (rFc R))), some (.int (nI s)), some (.int (nI (rFc R)))] []) → ∀ (n f : Nat) (μ1 : Mem), n + f = rFc R → Fr [121, 122] μ0 μ1 → (∀ f, f < rFc R → μ1.1 121 f = nI (whoB R H f)) → (∀ s', s' < s → μ1.1 122 s' = nI (tbl (whoB R H) (rFc R) s s')) → μ1.1 122 s = nI (mnF (whoB R H) (tbl (whoB R H) (rFc R) s) s f) → Zm G X cX3_weighOrders RX3 μ1 71 [some (.ref (qB G + 119)), some (.int (nI (rFc R))), some (.int (nI s)), some (.int (nI f))] [] := by
    intro s hs0 hs kk n
    induction n with
    | zero =>
      intro f μ1 hn hF e1 e2 e3
      refine z_iload_3 iX3_weighOrders_71 ?_
      refine z_iload_1 iX3_weighOrders_72 ?_
      refine z_icmp_geN iX3_weighOrders_73 (by omega) (by omega) (fun q => ?_) (fun q => ?_)
      · rw [show f = rFc R by omega]
        exact kk μ1 hF e1 e2 (by rw [e3, show f = rFc R by omega])
      · omega
    | succ n ih =>
      intro f μ1 hn hF e1 e2 e3
      have hf : f < rFc R := by omega
      have hb := bitN_lt s f
      refine z_iload_3 iX3_weighOrders_71 ?_
      refine z_iload_1 iX3_weighOrders_72 ?_
      refine z_icmp_geN iX3_weighOrders_73 (by omega) (by omega) (fun q => ?_) (fun q => ?_)
      · omega
      · refine z_iload_2 iX3_weighOrders_76 ?_
        refine z_iload_3 iX3_weighOrders_77 ?_
        refine z_ishr iX3_weighOrders_78 ?_
        refine z_iconst iX3_weighOrders_79 kI_1 ?_
        refine z_iand iX3_weighOrders_80 ?_
        refine z_top (q_bit s (by omega) f (by omega)) ?_
        refine z_iconst iX3_weighOrders_81 kI_1 ?_
        refine z_icmp_neN iX3_weighOrders_82 (by omega) (by omega) (fun q2 => ?_) (fun q2 => ?_)
        · refine z_iinc_3N iX3_weighOrders_106 rfl ?_
          refine z_goto iX3_weighOrders_109 ?_
          refine ih (f + 1) μ1 (by omega) hF e1 e2 ?_
          rw [e3]; unfold mnF; rw [if_neg q2]
          cases f <;> rfl
        · have hc := (clr_lt s (by omega) f (by omega)).2 q2
          have l1 := mnF_le (whoB R H) (tbl (whoB R H) (rFc R) s) s f
          have l2 := tbl_le (whoB R H) (rFc R) s (clr s f)
          have l3 := pcN_le (whoB R H f &&& clr s f)
          refine z_aload_0 iX3_weighOrders_85 ?_
          refine m_getR iX3_weighOrders_86 g_3_18 rfl ?_
          refine z_iload_2 iX3_weighOrders_89 ?_
          refine z_aload_0 iX3_weighOrders_90 ?_
          refine m_getR iX3_weighOrders_91 g_3_18 rfl ?_
          refine z_iload_2 iX3_weighOrders_94 ?_
          refine m_ialdN iX3_weighOrders_95 rfl (by omega) ?_
          refine z_top (e3) ?_
          refine z_aload_0 iX3_weighOrders_96 ?_
          refine z_iload_3 iX3_weighOrders_97 ?_
          refine z_iload_2 iX3_weighOrders_98 ?_
          refine m_callVi iX3_weighOrders_99 l_3_90 f_X3_againstWithAhead (c_X3_againstWithAhead (B := whoB R H) (t := tbl (whoB R H) (rFc R) s) G _ (by omega) (by omega) (e1 f hf) (whoB_lt hR0) (e2 _ hc)) rfl rfl rfl (Nat.le_of_ble_eq_true rfl) hR ft_X3_weighOrders_X3_againstWithAhead ⟨rfl, rfl⟩ ?_
          rintro r μ2 ⟨rfl, rfl⟩
          refine z_min iX3_weighOrders_102 l_3_73 w_minS w_mathI w_minC hR ⟨Nat.le_of_ble_eq_true rfl, Nat.le_of_ble_eq_true rfl, Nat.zero_le _, Nat.zero_le _⟩ ?_
          refine z_top (q_min (by omega) (by unfold ag; omega)) ?_
          refine m_iastN iX3_weighOrders_105 rfl (by omega) ?_
          refine z_iinc_3N iX3_weighOrders_106 rfl ?_
          refine z_goto iX3_weighOrders_109 ?_
          refine ih (f + 1) _ (by omega) (hF.mw _ _ (by decide)) (fun f' hf' => by rw [mw_ne _ _ (Or.inl (by decide))]; exact e1 f' hf') (fun s' hs' => by rw [mw_ne _ _ (Or.inr (by omega))]; exact e2 s' hs') ?_
          rw [mw_same]
          show _ = nI (if bitN s f = 1 then min (mnF (whoB R H) (tbl (whoB R H) (rFc R) s) s f) (ag (whoB R H) (tbl (whoB R H) (rFc R) s) s f) else mnF (whoB R H) (tbl (whoB R H) (rFc R) s) s f)
          rw [if_pos q2]
  have outer : ∀ (n s : Nat) (μ1 : Mem) (w : Option Value), n + s = 2 ^ rFc R → 0 < s → Fr [121, 122] μ0 μ1 → (∀ f, f < rFc R → μ1.1 121 f = nI (whoB R H f)) → (∀ s', s' < s → μ1.1 122 s' = nI (tbl (whoB R H) (rFc R) s s')) → Zm G X cX3_weighOrders RX3 μ1 54 [some (.ref (qB G + 119)), some (.int (nI (rFc R))), some (.int (nI s)), w] [] := by
    intro n
    induction n with
    | zero =>
      intro s μ1 w hn hs0 hF e1 e2
      refine z_iload_2 iX3_weighOrders_54 ?_
      refine z_iconst iX3_weighOrders_55 kI_1 ?_
      refine z_iload_1 iX3_weighOrders_56 ?_
      refine z_ishl iX3_weighOrders_57 ?_
      refine z_top (q_pow _ (by omega)) ?_
      refine z_icmp_geN iX3_weighOrders_58 (by omega) (by omega) (fun q => ?_) (fun q => ?_)
      · exact m_vret hE iX3_weighOrders_118 ⟨hF0'.trans (hF.mono (by decide)), e1, fun s' h => by have e := e2 s' (by omega); rw [show s = 2 ^ rFc R by omega] at e; exact e⟩
      · omega
    | succ n ih =>
      intro s μ1 w hn hs0 hF e1 e2
      refine z_iload_2 iX3_weighOrders_54 ?_
      refine z_iconst iX3_weighOrders_55 kI_1 ?_
      refine z_iload_1 iX3_weighOrders_56 ?_
      refine z_ishl iX3_weighOrders_57 ?_
      refine z_top (q_pow _ (by omega)) ?_
      refine z_icmp_geN iX3_weighOrders_58 (by omega) (by omega) (fun q => ?_) (fun q => ?_)
      · omega
      · refine z_aload_0 iX3_weighOrders_61 ?_
        refine m_getR iX3_weighOrders_62 g_3_18 rfl ?_
        refine z_iload_2 iX3_weighOrders_65 ?_
        refine z_ldc iX3_weighOrders_66 k_3_59 ?_
        refine z_top (show (1000000 : Int32) = nI 1000000 by decide) ?_
        refine m_iastN iX3_weighOrders_68 rfl (by omega) ?_
        refine z_iconst iX3_weighOrders_69 kI_0 ?_
        refine z_istore_3 iX3_weighOrders_70 rfl ?_
        refine inner s hs0 (by omega) ?_ (rFc R) 0 _ (by omega) (hF.mw _ _ (by decide)) (fun f' hf' => by rw [mw_ne _ _ (Or.inl (by decide))]; exact e1 f' hf') (fun s' hs' => by rw [mw_ne _ _ (Or.inr (by omega))]; exact e2 s' hs') (mw_same _ _ _ _)
        intro μ2 hF2 g1 g2 g3
        refine z_iinc_2N iX3_weighOrders_112 rfl ?_
        refine z_goto iX3_weighOrders_115 ?_
        refine ih (s + 1) μ2 _ (by omega) (by omega) hF2 g1 (fun s' hs' => ?_)
        obtain ⟨m, rfl⟩ : ∃ m, s = m + 1 := ⟨s - 1, by omega⟩
        show _ = nI (updN (tbl (whoB R H) (rFc R) (m + 1)) (m + 1) (mnF (whoB R H) (tbl (whoB R H) (rFc R) (m + 1)) (m + 1) (rFc R)) s')
        unfold updN
        by_cases e : s' = m + 1
        · rw [if_pos e, e]; exact g3
        · rw [if_neg e]; exact g2 s' (by omega)
  have bt0 : ∀ (n f : Nat) (μ1 : Mem) (w : Option Value), n + f = rFc R → Fr [121, 122] μ0 μ1 → (∀ k, k < f → μ1.1 121 k = nI (whoB R H k)) → Zm G X cX3_weighOrders RX3 μ1 20 [some (.ref (qB G + 119)), some (.int (nI (rFc R))), some (.int (nI f)), w] [] := by
    intro n
    induction n with
    | zero =>
      intro f μ1 w hn hF e1
      refine z_iload_2 iX3_weighOrders_20 ?_
      refine z_iload_1 iX3_weighOrders_21 ?_
      refine z_icmp_geN iX3_weighOrders_22 (by omega) (by omega) (fun q => ?_) (fun q => ?_)
      · refine z_aload_0 iX3_weighOrders_45 ?_
        refine m_getR iX3_weighOrders_46 g_3_18 rfl ?_
        refine z_iconst iX3_weighOrders_49 kI_0 ?_
        refine z_iconst iX3_weighOrders_50 kI_0 ?_
        refine m_iastN iX3_weighOrders_51 rfl (by omega) ?_
        refine z_iconst iX3_weighOrders_52 kI_1 ?_
        refine z_istore_2 iX3_weighOrders_53 rfl ?_
        refine outer (2 ^ rFc R - 1) 1 _ _ (by omega) (by omega) (hF.mw _ _ (by decide)) (fun f' hf' => by rw [mw_ne _ _ (Or.inl (by decide))]; exact e1 f' (by omega)) (fun s' hs' => ?_)
        rw [show s' = 0 by omega, mw_same]; rfl
      · omega
    | succ n ih =>
      intro f μ1 w hn hF e1
      have hf : f < rFc R := by omega
      have hR3 : RollAt μ1 R := hR2.fr hR0 hF (by decide)
      have hL3 : LeadsAt μ1 37 R H := fun i j hi hj => by rw [hF.1 _ (by simp; omega)]; exact hL0 i j hi hj
      refine z_iload_2 iX3_weighOrders_20 ?_
      refine z_iload_1 iX3_weighOrders_21 ?_
      refine z_icmp_geN iX3_weighOrders_22 (by omega) (by omega) (fun q => ?_) (fun q => ?_)
      · omega
      · refine z_aload_0 iX3_weighOrders_25 ?_
        refine m_getR iX3_weighOrders_26 g_3_15 rfl ?_
        refine z_iload_2 iX3_weighOrders_29 ?_
        refine z_aload_0 iX3_weighOrders_30 ?_
        refine m_getR iX3_weighOrders_31 g_3_21 rfl ?_
        refine z_iload_2 iX3_weighOrders_34 ?_
        refine m_callVi iX3_weighOrders_35 l_3_86 f_X8_thoseWhoBeat (c_X8_thoseWhoBeat (p := fun k => btB R H k f) G _ isSal_37 hR0 hR3 hL3 hf (fun _ _ => btB_iff)) rfl rfl rfl (Nat.le_of_ble_eq_true rfl) hR ft_X3_weighOrders_X8_thoseWhoBeat ⟨rfl, rfl⟩ ?_
        rintro r μ2 ⟨rfl, rfl⟩
        refine m_iastN iX3_weighOrders_38 rfl (by omega) ?_
        refine z_iinc_2N iX3_weighOrders_39 rfl ?_
        refine z_goto iX3_weighOrders_42 ?_
        refine ih (f + 1) _ _ (by omega) (hF.mw _ _ (by decide)) (fun k hk => ?_)
        by_cases e : k = f
        · rw [e, mw_same]; rfl
        · rw [mw_ne _ _ (Or.inr e)]; exact e1 k (by omega)
  refine z_aload_0 iX3_weighOrders_7 ?_
  refine m_getR iX3_weighOrders_8 g_3_21 rfl ?_
  refine m_getR iX3_weighOrders_11 g_3_46 rfl ?_
  refine m_getI iX3_weighOrders_14 g_3_60 rfl ?_
  refine z_top (hR2.1) ?_
  refine z_istore_1 iX3_weighOrders_17 rfl ?_
  refine z_iconst iX3_weighOrders_18 kI_0 ?_
  refine z_istore_2 iX3_weighOrders_19 rfl ?_
  exact bt0 (rFc R) 0 μ0 _ (by omega) Fr.rf (fun k hk => absurd hk (by omega))
/-- Counsel.fewestAgainst -/
theorem c_X3_fewestAgainst (G : qG) (l : Launch) {μ : Mem} {R : Rl} {t : Nat → Nat} (hR0 : RlOK R) (hR1 : RollAt μ R) (ht : ∀ s, s < 2 ^ rFc R → μ.1 122 s = nI (t s)) : CtrI G l M_X3_fewestAgainst [.ref (qB G + 119)] μ (fun r μ' => μ' = μ ∧ r = nI (t (2 ^ rFc R - 1))) := by
  refine m_enterI [some (.ref (qB G + 119))] (by decide +kernel) rfl (Nat.le_of_ble_eq_true rfl) (fun X hE hR => ?_)
  have hR : qR X = rm_X3_fewestAgainst := hR
  have hE : EI G X _ (some .int) := hE
  show Zm G X cX3_fewestAgainst RX3 _ 0 [some (.ref (qB G + 119))] []
  have h6 := hR0.1
  have h2p : (2 : Nat) ^ rFc R ≤ 64 := Nat.pow_le_pow_right (by decide) h6
  have h2pos : 0 < (2 : Nat) ^ rFc R := Nat.two_pow_pos _
  refine z_aload_0 iX3_fewestAgainst_0 ?_
  refine m_getR iX3_fewestAgainst_1 g_3_18 rfl ?_
  refine z_iconst iX3_fewestAgainst_4 kI_1 ?_
  refine z_aload_0 iX3_fewestAgainst_5 ?_
  refine m_getR iX3_fewestAgainst_6 g_3_21 rfl ?_
  refine m_getR iX3_fewestAgainst_9 g_3_46 rfl ?_
  refine m_getI iX3_fewestAgainst_12 g_3_60 rfl ?_
  refine z_top (hR1.1) ?_
  refine z_ishl iX3_fewestAgainst_15 ?_
  refine z_top (q_pow _ (by omega)) ?_
  refine z_iconst iX3_fewestAgainst_16 kI_1 ?_
  refine z_isubN iX3_fewestAgainst_17 (by omega) ?_
  refine m_ialdN iX3_fewestAgainst_18 rfl (by omega) ?_
  refine z_top (ht _ (by omega)) ?_
  exact m_iret hE iX3_fewestAgainst_19 ⟨rfl, rfl⟩
def firstK (q : Nat → Bool) : Nat → Nat → Nat
  | 0, _ => 0
  | n + 1, k => if q k then k else firstK q n (k + 1)
def lsQ (B t : Nat → Nat) (s k : Nat) : Bool := decide (bitN s k = 1) && decide (ag B t s k = t s)
/-- Counsel.leastAhead -/
theorem c_X3_leastAhead (G : qG) (l : Launch) {μ : Mem} {R : Rl} {B t : Nat → Nat} {s : Nat} (hR0 : RlOK R) (hR1 : RollAt μ R) (hB : ∀ f, f < rFc R → μ.1 121 f = nI (B f) ∧ B f < 64) (ht : ∀ s, s < 2 ^ rFc R → μ.1 122 s = nI (t s) ∧ t s ≤ 1000000) (hs : s < 2 ^ rFc R) : CtrI G l M_X3_leastAhead [.ref (qB G + 119), .int (nI s)] μ (fun r μ' => μ' = μ ∧ r = nI (firstK (lsQ B t s) (rFc R) 0)) := by
  refine m_enterI [some (.ref (qB G + 119)), some (.int (nI s)), none] (by decide +kernel) rfl (Nat.le_of_ble_eq_true rfl) (fun X hE hR => ?_)
  have hR : qR X = rm_X3_leastAhead := hR
  have hE : EI G X _ (some .int) := hE
  show Zm G X cX3_leastAhead RX3 _ 0 [some (.ref (qB G + 119)), some (.int (nI s)), none] []
  have h6 := hR0.1
  have h2p : (2 : Nat) ^ rFc R ≤ 64 := Nat.pow_le_pow_right (by decide) h6
  have loop : ∀ (n k : Nat), n + k = rFc R → firstK (lsQ B t s) n k = firstK (lsQ B t s) (rFc R) 0 → Zm G X cX3_leastAhead RX3 μ 2 [some (.ref (qB G + 119)), some (.int (nI s)), some (.int (nI k))] [] := by
    intro n
    induction n with
    | zero =>
      intro k hn he
      refine z_iload_2 iX3_leastAhead_2 ?_
      refine z_aload_0 iX3_leastAhead_3 ?_
      refine m_getR iX3_leastAhead_4 g_3_21 rfl ?_
      refine m_getR iX3_leastAhead_7 g_3_46 rfl ?_
      refine m_getI iX3_leastAhead_10 g_3_60 rfl ?_
      refine z_top (hR1.1) ?_
      refine z_icmp_geN iX3_leastAhead_13 (by omega) (by omega) (fun q => ?_) (fun q => ?_)
      · refine z_iconst iX3_leastAhead_48 kI_0 ?_
        exact m_iret hE iX3_leastAhead_49 ⟨rfl, by rw [← he]; rfl⟩
      · omega
    | succ n ih =>
      intro k hn he
      have hk : k < rFc R := by omega
      have hb := bitN_lt s k
      have skip : lsQ B t s k = false → Zm G X cX3_leastAhead RX3 μ 42 [some (.ref (qB G + 119)), some (.int (nI s)), some (.int (nI k))] [] := by
        intro no
        refine z_iinc_2N iX3_leastAhead_42 rfl ?_
        refine z_goto iX3_leastAhead_45 ?_
        refine ih (k + 1) (by omega) ?_
        rw [← he]
        show _ = if lsQ B t s k then k else firstK (lsQ B t s) n (k + 1)
        rw [no]; rfl
      refine z_iload_2 iX3_leastAhead_2 ?_
      refine z_aload_0 iX3_leastAhead_3 ?_
      refine m_getR iX3_leastAhead_4 g_3_21 rfl ?_
      refine m_getR iX3_leastAhead_7 g_3_46 rfl ?_
      refine m_getI iX3_leastAhead_10 g_3_60 rfl ?_
      refine z_top (hR1.1) ?_
      refine z_icmp_geN iX3_leastAhead_13 (by omega) (by omega) (fun q => ?_) (fun q => ?_)
      · omega
      · refine z_iload_1 iX3_leastAhead_16 ?_
        refine z_iload_2 iX3_leastAhead_17 ?_
        refine z_ishr iX3_leastAhead_18 ?_
        refine z_iconst iX3_leastAhead_19 kI_1 ?_
        refine z_iand iX3_leastAhead_20 ?_
        refine z_top (q_bit s (by omega) k (by omega)) ?_
        refine z_iconst iX3_leastAhead_21 kI_1 ?_
        refine z_icmp_neN iX3_leastAhead_22 (by omega) (by omega) (fun q2 => ?_) (fun q2 => ?_)
        · exact skip (by simp [lsQ, q2])
        · have hc := (clr_lt s (by omega) k (by omega)).2 q2
          have l2 := (ht (clr s k) (by omega)).2
          have l3 := pcN_le (B k &&& clr s k)
          have l4 := (ht s hs).2
          refine z_aload_0 iX3_leastAhead_25 ?_
          refine z_iload_2 iX3_leastAhead_26 ?_
          refine z_iload_1 iX3_leastAhead_27 ?_
          refine m_callVi iX3_leastAhead_28 l_3_90 f_X3_againstWithAhead (c_X3_againstWithAhead (B := B) (t := t) G _ (by omega) (by omega) (hB k hk).1 (hB k hk).2 (ht _ (by omega)).1) rfl rfl rfl (Nat.le_of_ble_eq_true rfl) hR ft_X3_leastAhead_X3_againstWithAhead ⟨rfl, rfl⟩ ?_
          rintro r μ2 ⟨rfl, rfl⟩
          refine z_aload_0 iX3_leastAhead_31 ?_
          refine m_getR iX3_leastAhead_32 g_3_18 rfl ?_
          refine z_iload_1 iX3_leastAhead_35 ?_
          refine m_ialdN iX3_leastAhead_36 rfl (by omega) ?_
          refine z_top ((ht s hs).1) ?_
          refine z_icmp_neN iX3_leastAhead_37 (by unfold ag; omega) (by omega) (fun q3 => ?_) (fun q3 => ?_)
          · exact skip (by simp [lsQ, q3])
          · refine z_iload_2 iX3_leastAhead_40 ?_
            exact m_iret hE iX3_leastAhead_41 ⟨rfl, by rw [← he]; show _ = nI (if lsQ B t s k then k else _); rw [if_pos (by simp [lsQ, q2, q3])]⟩
  refine z_iconst iX3_leastAhead_0 kI_0 ?_
  refine z_istore_2 iX3_leastAhead_1 rfl ?_
  exact loop (rFc R) 0 (by omega) rfl
theorem firstK_lt (q : Nat → Bool) : ∀ n k m, n + k ≤ m → 0 < m → firstK q n k < m
  | 0, _, m, _, h => h
  | n + 1, k, m, h, h0 => by
    unfold firstK
    split
    · omega
    · exact firstK_lt q n (k + 1) m (by omega) h0
/-- the best order: the fencers that are left, the figures so far -/
def bOrd (B t : Nat → Nat) (fc : Nat) : Nat → Nat × Nat
  | 0 => (2 ^ fc - 1, 0)
  | n + 1 => (clr (bOrd B t fc n).1 (firstK (lsQ B t (bOrd B t fc n).1) fc 0), 10 * (bOrd B t fc n).2 + firstK (lsQ B t (bOrd B t fc n).1) fc 0 + 1)
theorem clr_le (s f : Nat) : clr s f ≤ s := by
  unfold clr
  split
  · exact Nat.sub_le _ _
  · exact Nat.le_refl _
theorem bOrd_lt (B t : Nat → Nat) (fc : Nat) : ∀ n, (bOrd B t fc n).1 < 2 ^ fc
  | 0 => by show 2 ^ fc - 1 < 2 ^ fc; have := Nat.two_pow_pos fc; omega
  | n + 1 => Nat.lt_of_le_of_lt (clr_le _ _) (bOrd_lt B t fc n)
/-- Counsel.bestOrder -/
theorem c_X3_bestOrder (G : qG) (l : Launch) {μ : Mem} {R : Rl} {B t : Nat → Nat} (hR0 : RlOK R) (hR1 : RollAt μ R) (hB : ∀ f, f < rFc R → μ.1 121 f = nI (B f) ∧ B f < 64) (ht : ∀ s, s < 2 ^ rFc R → μ.1 122 s = nI (t s) ∧ t s ≤ 1000000) : CtrI G l M_X3_bestOrder [.ref (qB G + 119)] μ (fun r μ' => μ' = μ ∧ r = nI (bOrd B t (rFc R) (rFc R)).2) := by
  refine m_enterI [some (.ref (qB G + 119)), none, none, none, none] (by decide +kernel) rfl (Nat.le_of_ble_eq_true rfl) (fun X hE hR => ?_)
  have hR : qR X = rm_X3_bestOrder := hR
  have hE : EI G X _ (some .int) := hE
  show Zm G X cX3_bestOrder RX3 _ 0 [some (.ref (qB G + 119)), none, none, none, none] []
  have h6 := hR0.1
  have h2p : (2 : Nat) ^ rFc R ≤ 64 := Nat.pow_le_pow_right (by decide) h6
  have h2pos : 0 < (2 : Nat) ^ rFc R := Nat.two_pow_pos _
  have loop : ∀ (n k : Nat) (w : Option Value), n + k = rFc R → Zm G X cX3_bestOrder RX3 μ 19 [some (.ref (qB G + 119)), some (.int (nI (bOrd B t (rFc R) k).2)), some (.int (nI (bOrd B t (rFc R) k).1)), some (.int (nI k)), w] [] := by
    intro n
    induction n with
    | zero =>
      intro k w hn
      refine z_iload_3 iX3_bestOrder_19 ?_
      refine z_aload_0 iX3_bestOrder_20 ?_
      refine m_getR iX3_bestOrder_21 g_3_21 rfl ?_
      refine m_getR iX3_bestOrder_24 g_3_46 rfl ?_
      refine m_getI iX3_bestOrder_27 g_3_60 rfl ?_
      refine z_top (hR1.1) ?_
      refine z_icmp_geN iX3_bestOrder_30 (by omega) (by omega) (fun q => ?_) (fun q => ?_)
      · refine z_iload_1 iX3_bestOrder_65 ?_
        exact m_iret hE iX3_bestOrder_66 ⟨rfl, by rw [show k = rFc R by omega]⟩
      · omega
    | succ n ih =>
      intro k w hn
      have hl := bOrd_lt B t (rFc R) k
      have hk1 := firstK_lt (lsQ B t (bOrd B t (rFc R) k).1) (rFc R) 0 (rFc R) (by omega) (by omega)
      refine z_iload_3 iX3_bestOrder_19 ?_
      refine z_aload_0 iX3_bestOrder_20 ?_
      refine m_getR iX3_bestOrder_21 g_3_21 rfl ?_
      refine m_getR iX3_bestOrder_24 g_3_46 rfl ?_
      refine m_getI iX3_bestOrder_27 g_3_60 rfl ?_
      refine z_top (hR1.1) ?_
      refine z_icmp_geN iX3_bestOrder_30 (by omega) (by omega) (fun q => ?_) (fun q => ?_)
      · omega
      · refine z_aload_0 iX3_bestOrder_33 ?_
        refine z_iload_2 iX3_bestOrder_34 ?_
        refine m_callVi iX3_bestOrder_35 l_3_98 f_X3_leastAhead (c_X3_leastAhead G _ hR0 hR1 hB ht hl) rfl rfl rfl (Nat.le_of_ble_eq_true rfl) hR ft_X3_bestOrder_X3_leastAhead ⟨rfl, rfl⟩ ?_
        rintro r μ2 ⟨rfl, rfl⟩
        refine z_istore_4 iX3_bestOrder_38 rfl ?_
        refine z_bipush iX3_bestOrder_40 kB_10 ?_
        refine z_iload_1 iX3_bestOrder_42 ?_
        refine z_imulN iX3_bestOrder_43 ?_
        refine z_iload_4 iX3_bestOrder_44 ?_
        refine z_iaddN iX3_bestOrder_46 ?_
        refine z_iconst iX3_bestOrder_47 kI_1 ?_
        refine z_iaddN iX3_bestOrder_48 ?_
        refine z_istore_1 iX3_bestOrder_49 rfl ?_
        refine z_iload_2 iX3_bestOrder_50 ?_
        refine z_iconst iX3_bestOrder_51 kI_1 ?_
        refine z_iload_4 iX3_bestOrder_52 ?_
        refine z_ishl iX3_bestOrder_54 ?_
        refine z_iconst (x := -1) iX3_bestOrder_55 (by decide) ?_
        refine z_ixor iX3_bestOrder_56 ?_
        refine z_iand iX3_bestOrder_57 ?_
        refine z_top (q_clr _ (by omega) _ (by omega)) ?_
        refine z_istore_2 iX3_bestOrder_58 rfl ?_
        refine z_iinc_3N iX3_bestOrder_59 rfl ?_
        refine z_goto iX3_bestOrder_62 ?_
        exact ih (k + 1) _ (by omega)
  refine z_iconst iX3_bestOrder_0 kI_0 ?_
  refine z_istore_1 iX3_bestOrder_1 rfl ?_
  refine z_iconst iX3_bestOrder_2 kI_1 ?_
  refine z_aload_0 iX3_bestOrder_3 ?_
  refine m_getR iX3_bestOrder_4 g_3_21 rfl ?_
  refine m_getR iX3_bestOrder_7 g_3_46 rfl ?_
  refine m_getI iX3_bestOrder_10 g_3_60 rfl ?_
  refine z_top (hR1.1) ?_
  refine z_ishl iX3_bestOrder_13 ?_
  refine z_top (q_pow _ (by omega)) ?_
  refine z_iconst iX3_bestOrder_14 kI_1 ?_
  refine z_isubN iX3_bestOrder_15 (by omega) ?_
  refine z_istore_2 iX3_bestOrder_16 rfl ?_
  refine z_iconst iX3_bestOrder_17 kI_0 ?_
  refine z_istore_3 iX3_bestOrder_18 rfl ?_
  exact loop (rFc R) 0 _ (by omega)

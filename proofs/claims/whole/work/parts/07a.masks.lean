/-! SIGHTINGS; counting and the first -/
def cnt (p : Nat → Bool) : Nat → Nat
  | 0 => 0
  | n + 1 => cnt p n + (if p n then 1 else 0)
def fstV (p : Nat → Bool) (v : Nat → Int32) : Nat → Int32
  | 0 => -9
  | n + 1 => if p n = true ∧ cnt p n = 0 then v n else fstV p v n
theorem cnt_le (p : Nat → Bool) : ∀ n, cnt p n ≤ n
  | 0 => Nat.le_refl _
  | n + 1 => by
    have := cnt_le p n
    unfold cnt
    split <;> omega
theorem cnt_t {p : Nat → Bool} {n : Nat} (h : p n = true) : cnt p (n + 1) = cnt p n + 1 := by simp [cnt, h]
theorem cnt_f {p : Nat → Bool} {n : Nat} (h : p n = false) : cnt p (n + 1) = cnt p n := by simp [cnt, h]
theorem fstV_s1 {p : Nat → Bool} {v : Nat → Int32} {n : Nat} (h : p n = true) (hc : cnt p n = 0) : fstV p v (n + 1) = v n := if_pos ⟨h, hc⟩
theorem fstV_s2 {p : Nat → Bool} {v : Nat → Int32} {n : Nat} (hc : cnt p n ≠ 0) : fstV p v (n + 1) = fstV p v n := if_neg (fun z => hc z.2)
theorem fstV_s3 {p : Nat → Bool} {v : Nat → Int32} {n : Nat} (h : p n = false) : fstV p v (n + 1) = fstV p v n := if_neg (fun z => by rw [h] at z; exact absurd z.1 (by decide))
def SeenAt (μ : Mem) (ns : Nat) (sf sh : Nat → Nat) : Prop := ns ≤ 6 ∧ μ.1 125 4 = nI ns ∧ ∀ k, k < ns → μ.1 128 k = nI (sf k) ∧ μ.1 129 k = nI (sh k) ∧ sf k < 6 ∧ sh k ≤ 9
/-- Sightings.add -/
theorem c_X9_add (G : qG) (l : Launch) {μ : Mem} {ns f h : Nat} {sf sh : Nat → Nat} (hs : SeenAt μ ns sf sh) (hn : ns < 6) (hf : f < 6) (hh : h ≤ 9) : CtrV G l M_X9_add [.ref (qB G + 125), .int (nI f), .int (nI h)] μ (fun μ' => Fr [125, 128, 129] μ μ' ∧ SeenAt μ' (ns + 1) (updN sf ns f) (updN sh ns h)) := by
  refine m_enterV [some (.ref (qB G + 125)), some (.int (nI f)), some (.int (nI h))] (by decide +kernel) rfl (Nat.le_of_ble_eq_true rfl) rfl (fun X hE hR => ?_)
  have hR : qR X = rm_X9_add := hR
  show Zm G X cX9_add RX9 _ 0 [some (.ref (qB G + 125)), some (.int (nI f)), some (.int (nI h))] []
  obtain ⟨h6, e1, e2⟩ := hs
  refine z_aload_0 iX9_add_0 ?_
  refine m_getI iX9_add_1 g_9_33 rfl ?_
  refine z_top (e1) ?_
  refine z_bipush iX9_add_4 kB_6 ?_
  refine z_icmp_geN iX9_add_6 (by omega) (by omega) (fun q => ?_) (fun q => ?_)
  · omega
  · refine z_aload_0 iX9_add_9 ?_
    refine m_getR iX9_add_10 g_9_18 rfl ?_
    refine z_aload_0 iX9_add_13 ?_
    refine m_getI iX9_add_14 g_9_33 rfl ?_
    refine z_top (e1) ?_
    refine z_iload_1 iX9_add_17 ?_
    refine m_iastN iX9_add_18 rfl (by omega) ?_
    refine z_aload_0 iX9_add_19 ?_
    refine m_getR iX9_add_20 g_9_22 rfl ?_
    refine z_aload_0 iX9_add_23 ?_
    refine m_getI iX9_add_24 g_9_33 rfl ?_
    refine z_top ((mw_ne _ _ (Or.inl (by decide))).trans e1) ?_
    refine z_iload_2 iX9_add_27 ?_
    refine m_iastN iX9_add_28 rfl (by omega) ?_
    refine z_aload_0 iX9_add_29 ?_
    refine z_dup iX9_add_30 rfl ?_
    refine m_getI iX9_add_31 g_9_33 rfl ?_
    refine z_top ((mw_ne _ _ (Or.inl (by decide))).trans ((mw_ne _ _ (Or.inl (by decide))).trans e1)) ?_
    refine z_iconst iX9_add_34 kI_1 ?_
    refine z_iaddN iX9_add_35 ?_
    refine m_putI iX9_add_36 p_9_33 rfl ?_
    refine m_vret hE iX9_add_39 ⟨((Fr.rf.mw _ _ (by decide)).mw _ _ (by decide)).mw _ _ (by decide), by omega, mw_same _ _ _ _, fun k hk => ?_⟩
    unfold updN
    by_cases e : k = ns
    · subst e
      rw [if_pos rfl, if_pos rfl]
      exact ⟨by rw [mw_ne _ _ (Or.inl (by decide)), mw_ne _ _ (Or.inl (by decide)), mw_same], by rw [mw_ne _ _ (Or.inl (by decide)), mw_same], hf, hh⟩
    · rw [if_neg e, if_neg e]
      have := e2 k (by omega)
      exact ⟨by rw [mw_ne _ _ (Or.inl (by decide)), mw_ne _ _ (Or.inl (by decide)), mw_ne _ _ (Or.inr e)]; exact this.1, by rw [mw_ne _ _ (Or.inl (by decide)), mw_ne _ _ (Or.inr e), mw_ne _ _ (Or.inl (by decide))]; exact this.2.1, this.2.2⟩
/-- all that is seen is so with these moves -/
def fitP (R : Rl) (H : Hd) (ns : Nat) (sf sh : Nat → Nat) (mv : Nat → Nat) : Prop := ∀ k, k < ns → sf k < rFc R → bH1 (0, mv, 0) (feOf R H (sf k)) = sh k
/-- Sightings.fitsAll -/
theorem c_X9_fitsAll (G : qG) (l : Launch) {μ : Mem} {R : Rl} {H : Hd} {ns : Nat} {sf sh mv : Nat → Nat} (hR0 : RlOK R) (hH0 : HdOK R H) (hR1 : RollAt μ R) (hH1 : HoldAt μ 38 R H) (hs : SeenAt μ ns sf sh) (hk : μ.1 126 0 = nI 0) (hm : ∀ j, j < 3 → μ.1 127 j = nI (mv j) ∧ mv j < 5) : CtrI G l M_X9_fitsAll [.ref (qB G + 125)] μ (fun r μ' => Fr [35, 36] μ μ' ∧ ((r = nI 1 ∧ fitP R H ns sf sh mv) ∨ (r = nI 0 ∧ ¬ fitP R H ns sf sh mv))) := by
  refine m_enterI [some (.ref (qB G + 125)), none, none] (by decide +kernel) rfl (Nat.le_of_ble_eq_true rfl) (fun X hE hR => ?_)
  have hR : qR X = rm_X9_fitsAll := hR
  have hE : EI G X _ (some .boolean) := hE
  show Zm G X cX9_fitsAll RX9 _ 0 [some (.ref (qB G + 125)), none, none] []
  have h6 := hR0.1
  have loop : ∀ (n k : Nat) (μ1 : Mem) (w : Option Value), n + k = ns → Fr [35, 36] μ μ1 → (∀ i, i < k → sf i < rFc R → bH1 (0, mv, 0) (feOf R H (sf i)) = sh i) → Zm G X cX9_fitsAll RX9 μ1 2 [some (.ref (qB G + 125)), some (.int (nI k)), w] [] := by
    intro n
    induction n with
    | zero =>
      intro k μ1 w hn hF hP
      have hns := hs.1
      refine z_iload_1 iX9_fitsAll_2 ?_
      refine z_aload_0 iX9_fitsAll_3 ?_
      refine m_getI iX9_fitsAll_4 g_9_33 rfl ?_
      refine z_top ((congrFun (hF.1 125 (by decide)) 4).trans hs.2.1) ?_
      refine z_icmp_geN iX9_fitsAll_7 (by omega) (by omega) (fun q => ?_) (fun q => ?_)
      · refine z_iconst iX9_fitsAll_100 kI_1 ?_
        exact m_zret hE iX9_fitsAll_101 rfl ⟨hF, Or.inl ⟨rfl, fun i hi => hP i (by omega)⟩⟩
      · omega
    | succ n ih =>
      intro k μ1 w hn hF hP
      have hns := hs.1
      obtain ⟨s1, s2, s3, s4⟩ := hs.2.2 k (by omega)
      have hR2 : RollAt μ1 R := hR1.fr hR0 hF (by decide)
      have hH2 : HoldAt μ1 38 R H := hH1.fr hF (by decide)
      refine z_iload_1 iX9_fitsAll_2 ?_
      refine z_aload_0 iX9_fitsAll_3 ?_
      refine m_getI iX9_fitsAll_4 g_9_33 rfl ?_
      refine z_top ((congrFun (hF.1 125 (by decide)) 4).trans hs.2.1) ?_
      refine z_icmp_geN iX9_fitsAll_7 (by omega) (by omega) (fun q => ?_) (fun q => ?_)
      · omega
      · refine z_aload_0 iX9_fitsAll_10 ?_
        refine m_getR iX9_fitsAll_11 g_9_18 rfl ?_
        refine z_iload_1 iX9_fitsAll_14 ?_
        refine m_ialdN iX9_fitsAll_15 rfl (by omega) ?_
        refine z_top ((congrFun (hF.1 128 (by decide)) k).trans s1) ?_
        refine z_istore_2 iX9_fitsAll_16 rfl ?_
        refine z_aload_0 iX9_fitsAll_17 ?_
        refine m_getR iX9_fitsAll_18 g_9_25 rfl ?_
        refine m_getR iX9_fitsAll_21 g_9_53 rfl ?_
        refine z_iload_2 iX9_fitsAll_24 ?_
        refine m_callVi iX9_fitsAll_25 l_9_59 f_X7_hasFencer (c_hasF G _ rfl hR2.1 (by omega) (by omega)) rfl rfl rfl (Nat.le_of_ble_eq_true rfl) hR ft_X9_fitsAll_X7_hasFencer ⟨rfl, rfl⟩ ?_
        rintro r μ2 ⟨rfl, h | h⟩ <;> obtain ⟨rfl, h⟩ := h
        · refine z_if_eq iX9_fitsAll_28 (fun q2 => ?_) (fun q2 => ?_)
          · exact absurd q2 nI10
          · have f6 : sf k < 6 := by omega
            refine z_aload_0 iX9_fitsAll_31 ?_
            refine m_getR iX9_fitsAll_32 g_9_25 rfl ?_
            refine m_getR iX9_fitsAll_35 g_9_65 rfl ?_
            refine z_aload_0 iX9_fitsAll_38 ?_
            refine m_getR iX9_fitsAll_39 g_9_12 rfl ?_
            refine z_iconst iX9_fitsAll_42 kI_0 ?_
            refine z_aload_0 iX9_fitsAll_43 ?_
            refine m_getR iX9_fitsAll_44 g_9_25 rfl ?_
            refine m_getR iX9_fitsAll_47 g_9_53 rfl ?_
            refine m_getR iX9_fitsAll_50 g_9_69 rfl ?_
            refine z_iload_2 iX9_fitsAll_53 ?_
            refine m_aaldN iX9_fitsAll_54 rfl (by decide) f6 ?_
            refine z_aload_0 iX9_fitsAll_55 ?_
            refine m_getR iX9_fitsAll_56 g_9_25 rfl ?_
            refine m_getR iX9_fitsAll_59 g_9_73 rfl ?_
            refine m_getR iX9_fitsAll_62 g_9_77 rfl ?_
            refine z_iload_2 iX9_fitsAll_65 ?_
            refine m_ialdN iX9_fitsAll_66 rfl f6 ?_
            refine z_top (hH2.2.2.1 _ f6) ?_
            refine z_bipush iX9_fitsAll_67 kB_9 ?_
            refine z_iconst iX9_fitsAll_69 kI_3 ?_
            refine m_callVv iX9_fitsAll_70 l_9_82 f_X1_fight (c_X1_fight (F1 := (0, mv, 0)) (F2 := feOf R H (sf k)) (most := 9) (en := 3) G _ isFen_mask (isFen_roll _ f6) ⟨(congrFun (hF.1 126 (by decide)) 0).trans hk, fun j hj => (congrFun (hF.1 127 (by decide)) j).trans (hm j hj).1⟩ (hR2.fen h) ⟨by show 0 < 4; decide, fun j hj => (hm j hj).2, by show 0 < 3; decide⟩ (feOK hR0 hH0 h) (by omega) (by omega) (by decide) (by decide) (fen_out f6).1 (fen_out f6).2) rfl rfl rfl (Nat.le_of_ble_eq_true rfl) hR ft_X9_fitsAll_X1_fight ⟨rfl, rfl⟩ ?_
            rintro μ3 ⟨hF3, hB⟩
            have hF4 := hF.trans hF3
            have hb9 := bH_le (0, mv, 0) (feOf R H (sf k))
            refine z_aload_0 iX9_fitsAll_73 ?_
            refine m_getR iX9_fitsAll_74 g_9_25 rfl ?_
            refine m_getR iX9_fitsAll_77 g_9_65 rfl ?_
            refine m_getI iX9_fitsAll_80 g_9_88 rfl ?_
            refine z_top ((show _ = nI (bH1 (0, mv, 0) (feOf R H (sf k))) from hB.1)) ?_
            refine z_aload_0 iX9_fitsAll_83 ?_
            refine m_getR iX9_fitsAll_84 g_9_22 rfl ?_
            refine z_iload_1 iX9_fitsAll_87 ?_
            refine m_ialdN iX9_fitsAll_88 rfl (by omega) ?_
            refine z_top ((congrFun (hF4.1 129 (by decide)) k).trans s2) ?_
            refine z_icmp_eqN iX9_fitsAll_89 (by omega) (by omega) (fun q3 => ?_) (fun q3 => ?_)
            · refine z_iinc_1N iX9_fitsAll_94 rfl ?_
              refine z_goto iX9_fitsAll_97 ?_
              refine ih (k + 1) μ3 _ (by omega) hF4 (fun i hi hf => ?_)
              by_cases e : i = k
              · subst e; exact q3
              · exact hP i (by omega) hf
            · refine z_iconst iX9_fitsAll_92 kI_0 ?_
              exact m_zret hE iX9_fitsAll_93 rfl ⟨hF4, Or.inr ⟨rfl, fun z => q3 (z k (by omega) h)⟩⟩
        · refine z_if_eq iX9_fitsAll_28 (fun q2 => ?_) (fun q2 => ?_)
          · refine z_iinc_1N iX9_fitsAll_94 rfl ?_
            refine z_goto iX9_fitsAll_97 ?_
            refine ih (k + 1) μ2 _ (by omega) hF (fun i hi hf => ?_)
            by_cases e : i = k
            · subst e; omega
            · exact hP i (by omega) hf
          · exact absurd nI00 q2
  refine z_iconst iX9_fitsAll_0 kI_0 ?_
  refine z_istore_1 iX9_fitsAll_1 rfl ?_
  exact loop ns 0 μ _ (by omega) Fr.rf (fun i hi => absurd hi (by omega))
/-- the moves of mask number n -/
def mkMv (n : Nat) : Nat → Nat := fun j => if j = 0 then n / 16 + 1 else if j = 1 then n / 4 % 4 + 1 else n % 4 + 1
theorem mkMv_lt {n j : Nat} (h : n < 64) : mkMv n j < 5 := by unfold mkMv; repeat (first | omega | split)
/-- Sightings.findMasks -/
theorem c_X9_findMasks (G : qG) (l : Launch) {μ : Mem} {R : Rl} {H : Hd} {ns : Nat} {sf sh : Nat → Nat} {p : Nat → Bool} (hR0 : RlOK R) (hH0 : HdOK R H) (hR1 : RollAt μ R) (hH1 : HoldAt μ 38 R H) (hs : SeenAt μ ns sf sh) (hk : μ.1 126 0 = nI 0) (hp : ∀ n, n < 64 → (p n = true ↔ fitP R H ns sf sh (mkMv n))) : CtrV G l M_X9_findMasks [.ref (qB G + 125)] μ (fun μ' => Fr [35, 36, 125, 127] μ μ' ∧ μ'.1 125 4 = μ.1 125 4 ∧ μ'.1 125 5 = nI (cnt p 64) ∧ μ'.1 125 6 = fstV p (fun n => nI (100 * mkMv n 0 + 10 * mkMv n 1 + mkMv n 2)) 64) := by
  refine m_enterV [some (.ref (qB G + 125)), none] (by decide +kernel) rfl (Nat.le_of_ble_eq_true rfl) rfl (fun X hE hR => ?_)
  have hR : qR X = rm_X9_findMasks := hR
  show Zm G X cX9_findMasks RX9 _ 0 [some (.ref (qB G + 125)), none] []
  have h6 := hR0.1
  have loop : ∀ (m n : Nat) (μ1 : Mem), m + n = 64 → Fr [35, 36, 125, 127] μ μ1 → μ1.1 125 4 = μ.1 125 4 → μ1.1 125 5 = nI (cnt p n) → μ1.1 125 6 = fstV p (fun n => nI (100 * mkMv n 0 + 10 * mkMv n 1 + mkMv n 2)) n → Zm G X cX9_findMasks RX9 μ1 13 [some (.ref (qB G + 125)), some (.int (nI n))] [] := by
    intro m
    induction m with
    | zero =>
      intro n μ1 hn hF e4 e5 e6
      refine z_iload_1 iX9_findMasks_13 ?_
      refine z_bipush iX9_findMasks_14 kB_64 ?_
      refine z_icmp_geN iX9_findMasks_16 (by omega) (by omega) (fun q => ?_) (fun q => ?_)
      · exact m_vret hE iX9_findMasks_112 ⟨hF, e4, by rw [e5, show n = 64 by omega], by rw [e6, show n = 64 by omega]⟩
      · omega
    | succ m ih =>
      intro n μ1 hn hF e4 e5 e6
      have hn64 : n < 64 := by omega
      have hc := cnt_le p n
      refine z_iload_1 iX9_findMasks_13 ?_
      refine z_bipush iX9_findMasks_14 kB_64 ?_
      refine z_icmp_geN iX9_findMasks_16 (by omega) (by omega) (fun q => ?_) (fun q => ?_)
      · omega
      · refine z_aload_0 iX9_findMasks_19 ?_
        refine m_getR iX9_findMasks_20 g_9_12 rfl ?_
        refine m_getR iX9_findMasks_23 g_9_42 rfl ?_
        refine z_iconst iX9_findMasks_26 kI_0 ?_
        refine z_iload_1 iX9_findMasks_27 ?_
        refine z_bipush iX9_findMasks_28 kB_16 ?_
        refine z_idivN iX9_findMasks_30 (by omega) (by omega) (by omega) ?_
        refine z_iconst iX9_findMasks_31 kI_1 ?_
        refine z_iaddN iX9_findMasks_32 ?_
        refine m_iastN iX9_findMasks_33 rfl (by omega) ?_
        refine z_aload_0 iX9_findMasks_34 ?_
        refine m_getR iX9_findMasks_35 g_9_12 rfl ?_
        refine m_getR iX9_findMasks_38 g_9_42 rfl ?_
        refine z_iconst iX9_findMasks_41 kI_1 ?_
        refine z_iload_1 iX9_findMasks_42 ?_
        refine z_iconst iX9_findMasks_43 kI_4 ?_
        refine z_idivN iX9_findMasks_44 (by omega) (by omega) (by omega) ?_
        refine z_iconst iX9_findMasks_45 kI_4 ?_
        refine z_iremN iX9_findMasks_46 (by omega) (by omega) (by omega) ?_
        refine z_iconst iX9_findMasks_47 kI_1 ?_
        refine z_iaddN iX9_findMasks_48 ?_
        refine m_iastN iX9_findMasks_49 rfl (by omega) ?_
        refine z_aload_0 iX9_findMasks_50 ?_
        refine m_getR iX9_findMasks_51 g_9_12 rfl ?_
        refine m_getR iX9_findMasks_54 g_9_42 rfl ?_
        refine z_iconst iX9_findMasks_57 kI_2 ?_
        refine z_iload_1 iX9_findMasks_58 ?_
        refine z_iconst iX9_findMasks_59 kI_4 ?_
        refine z_iremN iX9_findMasks_60 (by omega) (by omega) (by omega) ?_
        refine z_iconst iX9_findMasks_61 kI_1 ?_
        refine z_iaddN iX9_findMasks_62 ?_
        refine m_iastN iX9_findMasks_63 rfl (by omega) ?_
        refine z_aload_0 iX9_findMasks_64 ?_
        generalize hμ2 : mw (mw (mw μ1 127 0 (nI (n / 16 + 1))) 127 1 (nI (n / 4 % 4 + 1))) 127 2 (nI (n % 4 + 1)) = μ2
        have hF2 : Fr [127] μ1 μ2 := by rw [← hμ2]; exact ((Fr.rf.mw _ _ (by decide)).mw _ _ (by decide)).mw _ _ (by decide)
        have hmv : ∀ j, j < 3 → μ2.1 127 j = nI (mkMv n j) ∧ mkMv n j < 5 := by
          intro j hj
          refine ⟨?_, mkMv_lt hn64⟩
          rw [← hμ2]
          rcases (show j = 0 ∨ j = 1 ∨ j = 2 by omega) with rfl | rfl | rfl
          · rw [mw_ne _ _ (Or.inr (by decide)), mw_ne _ _ (Or.inr (by decide)), mw_same]; rfl
          · rw [mw_ne _ _ (Or.inr (by decide)), mw_same]; rfl
          · rw [mw_same]; rfl
        have hF3 := hF.trans (hF2.mono (by decide))
        have hR2 : RollAt μ2 R := hR1.fr hR0 hF3 (by decide)
        have hH2 : HoldAt μ2 38 R H := hH1.fr hF3 (by decide)
        have hs2 : SeenAt μ2 ns sf sh := ⟨hs.1, by rw [hF2.1 125 (by decide), e4]; exact hs.2.1, fun k hk => by rw [hF3.1 128 (by decide), hF3.1 129 (by decide)]; exact hs.2.2 k hk⟩
        refine m_callVi iX9_findMasks_65 l_9_45 f_X9_fitsAll (c_X9_fitsAll G _ hR0 hH0 hR2 hH2 hs2 (by rw [hF3.1 126 (by decide)]; exact hk) hmv) rfl rfl rfl (Nat.le_of_ble_eq_true rfl) hR ft_X9_findMasks_X9_fitsAll ⟨rfl, rfl⟩ ?_
        rintro r μ3 ⟨hF4, h⟩
        have hF5 := hF3.trans (hF4.mono (by decide))
        have r125 : μ3.1 125 = μ1.1 125 := by rw [hF4.1 125 (by decide), hF2.1 125 (by decide)]
        have g4 : μ3.1 125 4 = μ.1 125 4 := by rw [r125]; exact e4
        have g5 : μ3.1 125 5 = nI (cnt p n) := by rw [r125]; exact e5
        have g6 : μ3.1 125 6 = fstV p (fun n => nI (100 * mkMv n 0 + 10 * mkMv n 1 + mkMv n 2)) n := by rw [r125]; exact e6
        rcases h with ⟨rfl, h⟩ | ⟨rfl, h⟩
        · have hpn : p n = true := (hp n hn64).mpr h
          have ec : cnt p (n + 1) = cnt p n + 1 := by simp [cnt, hpn]
          have fin : ∀ v : Int32, v = fstV p (fun n => nI (100 * mkMv n 0 + 10 * mkMv n 1 + mkMv n 2)) (n + 1) → Zm G X cX9_findMasks RX9 μ3 93 [some (.ref (qB G + 125)), some (.int (nI n))] [.int v, .ref (qB G + 125)] := by
            intro v hv
            refine m_putI iX9_findMasks_93 p_9_39 rfl ?_
            refine z_aload_0 iX9_findMasks_96 ?_
            refine z_dup iX9_findMasks_97 rfl ?_
            refine m_getI iX9_findMasks_98 g_9_36 rfl ?_
            refine z_top ((mw_ne _ _ (Or.inr (by decide))).trans g5) ?_
            refine z_iconst iX9_findMasks_101 kI_1 ?_
            refine z_iaddN iX9_findMasks_102 ?_
            refine m_putI iX9_findMasks_103 p_9_36 rfl ?_
            refine z_iinc_1N iX9_findMasks_106 rfl ?_
            refine z_goto iX9_findMasks_109 ?_
            refine ih (n + 1) _ (by omega) ((hF5.mw _ _ (by decide)).mw _ _ (by decide)) ?_ ?_ ?_
            · rw [mw_ne _ _ (Or.inr (by decide)), mw_ne _ _ (Or.inr (by decide))]; exact g4
            · rw [mw_same, ec]
            · rw [mw_ne _ _ (Or.inr (by decide)), mw_same]; exact hv
          refine z_if_eq iX9_findMasks_68 (fun q2 => ?_) (fun q2 => ?_)
          · exact absurd q2 nI10
          · refine z_aload_0 iX9_findMasks_71 ?_
            refine z_aload_0 iX9_findMasks_72 ?_
            refine m_getI iX9_findMasks_73 g_9_36 rfl ?_
            refine z_top (g5) ?_
            refine z_if_neN iX9_findMasks_76 (by omega) (fun q3 => ?_) (fun q3 => ?_)
            · refine z_aload_0 iX9_findMasks_89 ?_
              refine m_getI iX9_findMasks_90 g_9_39 rfl ?_
              refine z_top (g6) ?_
              exact fin _ (fstV_s2 q3).symm
            · refine z_aload_0 iX9_findMasks_79 ?_
              refine m_getR iX9_findMasks_80 g_9_12 rfl ?_
              refine m_callVi iX9_findMasks_83 l_9_49 f_X4_movesAsFigures (c_X4_movesAsFigures (mv := mkMv n) G _ isFen_mask (fun j hj => by rw [show (126 : Nat) + 1 = 127 from rfl, hF4.1 127 (by decide)]; exact (hmv j hj).1)) rfl rfl rfl (Nat.le_of_ble_eq_true rfl) hR ft_X9_findMasks_X4_movesAsFigures ⟨rfl, rfl⟩ ?_
              rintro r μ4 ⟨rfl, rfl⟩
              refine z_goto iX9_findMasks_86 ?_
              exact fin _ (by rw [fstV_s1 hpn q3])
        · have hpn : p n = false := by
            cases hq : p n with
            | false => rfl
            | true => exact absurd ((hp n hn64).mp hq) h
          refine z_if_eq iX9_findMasks_68 (fun q2 => ?_) (fun q2 => ?_)
          · refine z_iinc_1N iX9_findMasks_106 rfl ?_
            refine z_goto iX9_findMasks_109 ?_
            exact ih (n + 1) μ3 (by omega) hF5 g4 (by rw [g5, cnt_f hpn]) (by rw [g6, fstV_s3 hpn])
          · exact absurd nI00 q2
  refine z_aload_0 iX9_findMasks_0 ?_
  refine z_iconst iX9_findMasks_1 kI_0 ?_
  refine m_putI iX9_findMasks_2 p_9_36 rfl ?_
  refine z_aload_0 iX9_findMasks_5 ?_
  refine z_bipush (x := -9) iX9_findMasks_6 (by decide) ?_
  refine m_putI iX9_findMasks_8 p_9_39 rfl ?_
  refine z_iconst iX9_findMasks_11 kI_0 ?_
  refine z_istore_1 iX9_findMasks_12 rfl ?_
  refine loop 64 0 _ (by omega) ((Fr.rf.mw _ _ (by decide)).mw _ _ (by decide)) ?_ ?_ ?_
  · rw [mw_ne _ _ (Or.inr (by decide)), mw_ne _ _ (Or.inr (by decide))]
  · rw [mw_ne _ _ (Or.inr (by decide)), mw_same]; rfl
  · rw [mw_same]; rfl

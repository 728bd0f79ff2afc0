/-! SALLE: told doings, feasts, sets, leads -/
theorem q_sign {a b : Nat} (ha : a < 1000) (hb : b < 1000) : (nI a - nI b ≤ 0) ↔ a ≤ b := by
  have h := pk_sub_toInt (a := a) (b := b) (by omega) (by omega)
  rw [Int32.le_iff_toInt_le, h]
  have : (0 : Int32).toInt = 0 := by decide
  rw [this]
  omega
/-- Salle.holdsTrue -/
theorem c_X8_holdsTrue (G : qG) (l : Launch) {μ : Mem} {s d a b : Nat} {R : Rl} {H : Hd} (hs : isSal s) (hR0 : RlOK R) (hH0 : HdOK R H) (hR1 : RollAt μ R) (hH1 : HoldAt μ (s + 1) R H) (hd : d < 10) (ha : a < 10) (hb : b < 10) : CtrI G l M_X8_holdsTrue [.ref (qB G + s), .int (nI d), .int (nI a), .int (nI b)] μ (fun r μ' => Fr [35, 36, s + 1, s + 1 + 1, s + 1 + 2, s + 1 + 3] μ μ' ∧ HoldAt μ' (s + 1) R (doH R H d a b) ∧ HdOK R (doH R H d a b) ∧ ((r = nI 1 ∧ doP R H d a b) ∨ (r = nI 0 ∧ ¬ doP R H d a b))) := by
  refine m_enterI [some (.ref (qB G + s)), some (.int (nI d)), some (.int (nI a)), some (.int (nI b))] (by decide +kernel) rfl (Nat.le_of_ble_eq_true rfl) (fun X hE hR => ?_)
  have hR : qR X = rm_X8_holdsTrue := hR
  have hE : EI G X _ (some .boolean) := hE
  show Zm G X cX8_holdsTrue RX8 _ 0 [some (.ref (qB G + s)), some (.int (nI d)), some (.int (nI a)), some (.int (nI b))] []
  obtain ⟨s0, s1, s2, s3, sC, hhd, -, -, sm⟩ := id hs
  obtain ⟨f0, f1, f2, f3, a1, a2, a3, aC⟩ := id hhd
  have hs37 : 37 ≤ s := by simp only [List.mem_cons, List.not_mem_nil, or_false] at sm; omega
  have h6 := hR0.1
  have h5 := hR0.2.1
  have sub : ∀ a, a ∈ [35, 36] → a ∈ [35, 36, s + 1, s + 1 + 1, s + 1 + 2, s + 1 + 3] := fun a h => by simp at h ⊢; omega
  have sub3 : ∀ a, a ∈ [s + 1 + 3] → a ∈ [35, 36, s + 1, s + 1 + 1, s + 1 + 2, s + 1 + 3] := fun a h => by simp at h ⊢; omega
  have keep : ∀ {μ' : Mem}, Fr [35, 36] μ μ' → HoldAt μ' (s + 1) R H := fun hF => hH1.fr hF (fun a h => by simp at h; omega)
  refine z_iload_1 iX8_holdsTrue_0 ?_
  rcases (show d = 1 ∨ d = 2 ∨ d = 3 ∨ d = 4 ∨ d = 5 ∨ (d < 1 ∨ 5 < d) by omega) with rfl | rfl | rfl | rfl | rfl | hd5
  · refine z_tableIn (off := 35) (tgt := 36) iX8_holdsTrue_1 (by decide) (by decide) (by decide) (by decide) ?_
    refine z_aload_0 iX8_holdsTrue_36 ?_
    refine z_iload_2 iX8_holdsTrue_37 ?_
    refine z_iload_3 iX8_holdsTrue_38 ?_
    refine m_callVi iX8_holdsTrue_39 l_8_96 f_X8_canTrade (c_X8_canTrade G _ hs hR0 hH0 hR1 hH1 (by omega) (by omega)) sC rfl rfl (Nat.le_of_ble_eq_true rfl) hR ft_X8_holdsTrue_X8_canTrade ⟨rfl, rfl⟩ ?_
    rintro r μ1 ⟨rfl, h | h⟩ <;> obtain ⟨rfl, h⟩ := h
    · refine z_if_ne iX8_holdsTrue_42 (fun q => ?_) (fun q => ?_)
      · refine z_aload_0 iX8_holdsTrue_47 ?_
        refine z_iload_2 iX8_holdsTrue_48 ?_
        refine z_iload_3 iX8_holdsTrue_49 ?_
        refine m_callVv iX8_holdsTrue_50 l_8_100 f_X8_letMeet (c_X8_letMeet G _ hs hR0 hH0 hR1 hH1 h.1 h.2.1) sC rfl rfl (Nat.le_of_ble_eq_true rfl) hR ft_X8_holdsTrue_X8_letMeet ⟨rfl, rfl⟩ ?_
        rintro μ2 ⟨hF2, hH2⟩
        have hOK := meetOK hR0 hH0 h.1 h.2.1
        have ho := hOK.1 b h.2.1
        have eH : doH R H 1 a b = meetH R H a b := by unfold doH; rw [if_pos ⟨rfl, h⟩]
        have hb5 := h.2.1
        refine z_aload_0 iX8_holdsTrue_53 ?_
        refine m_getR iX8_holdsTrue_54 g_8_12 s2 ?_
        refine m_getR iX8_holdsTrue_57 g_8_47 f0 ?_
        refine z_iload_3 iX8_holdsTrue_60 ?_
        refine m_ialdN iX8_holdsTrue_61 a1 (by omega) ?_
        refine z_top (hH2.1 b h.2.1) ?_
        refine z_iload_2 iX8_holdsTrue_62 ?_
        refine z_icmp_neN iX8_holdsTrue_63 (by omega) (by omega) (fun q2 => ?_) (fun q2 => ?_)
        · refine z_iconst iX8_holdsTrue_70 kI_0 ?_
          exact m_zret hE iX8_holdsTrue_71 rfl ⟨hF2, by rw [eH]; exact hH2, by rw [eH]; exact hOK, Or.inr ⟨rfl, fun z => by unfold doP at z; omega⟩⟩
        · refine z_iconst iX8_holdsTrue_66 kI_1 ?_
          refine z_goto iX8_holdsTrue_67 ?_
          exact m_zret hE iX8_holdsTrue_71 rfl ⟨hF2, by rw [eH]; exact hH2, by rw [eH]; exact hOK, Or.inl ⟨rfl, Or.inl ⟨rfl, h, q2⟩⟩⟩
      · exact absurd q nI10
    · have eH : doH R H 1 a b = H := by unfold doH; rw [if_neg (fun z => h z.2), if_neg (by omega), if_neg (by omega)]
      refine z_if_ne iX8_holdsTrue_42 (fun q => ?_) (fun q => ?_)
      · exact absurd nI00 q
      · refine z_iconst iX8_holdsTrue_45 kI_0 ?_
        exact m_zret hE iX8_holdsTrue_46 rfl ⟨Fr.rf, by rw [eH]; exact hH1, by rw [eH]; exact hH0, Or.inr ⟨rfl, fun z => by unfold doP at z; rcases z with z | z | z | z | z <;> first | exact h z.2.1 | omega⟩⟩
  · refine z_tableIn (off := 71) (tgt := 72) iX8_holdsTrue_1 (by decide) (by decide) (by decide) (by decide) ?_
    refine z_iload_2 iX8_holdsTrue_72 ?_
    refine z_if_neN iX8_holdsTrue_73 (by omega) (fun q => ?_) (fun q => ?_)
    · have eH : doH R H 2 a b = H := by unfold doH; rw [if_neg (by omega), if_neg (by omega), if_neg (by omega)]
      refine z_iconst iX8_holdsTrue_87 kI_0 ?_
      exact m_zret hE iX8_holdsTrue_88 rfl ⟨Fr.rf, by rw [eH]; exact hH1, by rw [eH]; exact hH0, Or.inr ⟨rfl, fun z => by unfold doP at z; omega⟩⟩
    · refine z_aload_0 iX8_holdsTrue_76 ?_
      refine m_getR iX8_holdsTrue_77 g_8_23 s0 ?_
      refine z_iload_3 iX8_holdsTrue_80 ?_
      refine m_callVi iX8_holdsTrue_81 l_8_89 f_X7_hasFencer (c_hasF G _ rfl hR1.1 (by omega) (by omega)) rfl rfl rfl (Nat.le_of_ble_eq_true rfl) hR ft_X8_holdsTrue_X7_hasFencer ⟨rfl, rfl⟩ ?_
      rintro r μ1 ⟨rfl, h | h⟩ <;> obtain ⟨rfl, h⟩ := h
      · have eH : doH R H 2 a b = stepH R H b := by unfold doH; rw [if_neg (by omega), if_pos ⟨rfl, q, h⟩]
        refine z_if_ne iX8_holdsTrue_84 (fun q2 => ?_) (fun q2 => ?_)
        · refine z_aload_0 iX8_holdsTrue_89 ?_
          refine z_iload_3 iX8_holdsTrue_90 ?_
          refine m_callVv iX8_holdsTrue_91 l_8_76 f_X8_letStep (c_X8_letStep G _ hs hR0 hH0 hR1 hH1 h) sC rfl rfl (Nat.le_of_ble_eq_true rfl) hR ft_X8_holdsTrue_X8_letStep ⟨rfl, rfl⟩ ?_
          rintro μ2 ⟨hF2, hH2⟩
          refine z_iconst iX8_holdsTrue_94 kI_1 ?_
          exact m_zret hE iX8_holdsTrue_95 rfl ⟨hF2.mono sub3, by rw [eH]; exact hH2, by rw [eH]; exact stepOK hR0 hH0 h, Or.inl ⟨rfl, Or.inr (Or.inl ⟨rfl, q, h⟩)⟩⟩
        · exact absurd q2 nI10
      · have eH : doH R H 2 a b = H := by unfold doH; rw [if_neg (by omega), if_neg (by omega), if_neg (by omega)]
        refine z_if_ne iX8_holdsTrue_84 (fun q2 => ?_) (fun q2 => ?_)
        · exact absurd nI00 q2
        · refine z_iconst iX8_holdsTrue_87 kI_0 ?_
          exact m_zret hE iX8_holdsTrue_88 rfl ⟨Fr.rf, by rw [eH]; exact hH1, by rw [eH]; exact hH0, Or.inr ⟨rfl, fun z => by unfold doP at z; omega⟩⟩
  · refine z_tableIn (off := 95) (tgt := 96) iX8_holdsTrue_1 (by decide) (by decide) (by decide) (by decide) ?_
    have no : ¬ (a < rFc R ∧ 1 ≤ b) → ¬ doP R H 3 a b := fun h z => by unfold doP at z; omega
    have noH : ¬ (a < rFc R ∧ 1 ≤ b) → doH R H 3 a b = H := fun h => by unfold doH; rw [if_neg (by omega), if_neg (by omega), if_neg (by omega)]
    refine z_aload_0 iX8_holdsTrue_96 ?_
    refine m_getR iX8_holdsTrue_97 g_8_23 s0 ?_
    refine z_iload_2 iX8_holdsTrue_100 ?_
    refine m_callVi iX8_holdsTrue_101 l_8_89 f_X7_hasFencer (c_hasF G _ rfl hR1.1 (by omega) (by omega)) rfl rfl rfl (Nat.le_of_ble_eq_true rfl) hR ft_X8_holdsTrue_X7_hasFencer ⟨rfl, rfl⟩ ?_
    rintro r μ1 ⟨rfl, h | h⟩ <;> obtain ⟨rfl, h⟩ := h
    · refine z_if_eq iX8_holdsTrue_104 (fun q => ?_) (fun q => ?_)
      · exact absurd q nI10
      · refine z_iload_3 iX8_holdsTrue_107 ?_
        refine z_iconst iX8_holdsTrue_108 kI_1 ?_
        refine z_icmp_ltN iX8_holdsTrue_109 (by omega) (by omega) (fun q2 => ?_) (fun q2 => ?_)
        · refine z_iconst iX8_holdsTrue_118 kI_0 ?_
          exact m_zret hE iX8_holdsTrue_119 rfl ⟨Fr.rf, by rw [noH (by omega)]; exact hH1, by rw [noH (by omega)]; exact hH0, Or.inr ⟨rfl, no (by omega)⟩⟩
        · refine z_iload_3 iX8_holdsTrue_112 ?_
          refine z_bipush iX8_holdsTrue_113 kB_9 ?_
          refine z_icmp_leN iX8_holdsTrue_115 (by omega) (by omega) (fun q3 => ?_) (fun q3 => ?_)
          · have eH : doH R H 3 a b = fillH H a b := by unfold doH; rw [if_neg (by omega), if_neg (by omega), if_pos ⟨rfl, h, q2⟩]
            refine z_aload_0 iX8_holdsTrue_120 ?_
            refine m_getR iX8_holdsTrue_121 g_8_12 s2 ?_
            refine z_iload_2 iX8_holdsTrue_124 ?_
            refine z_iload_3 iX8_holdsTrue_125 ?_
            refine m_callVv iX8_holdsTrue_126 l_8_73 f_X5_fill (c_X5_fill G _ hhd (by omega) (hH1.2.1 a (by omega)) (hH0.2.1 a (by omega)).1 (by omega)) aC rfl rfl (Nat.le_of_ble_eq_true rfl) hR ft_X8_holdsTrue_X5_fill ⟨rfl, rfl⟩ ?_
            rintro μ2 rfl
            refine z_iconst iX8_holdsTrue_129 kI_1 ?_
            exact m_zret hE iX8_holdsTrue_130 rfl ⟨Fr.rf.mw _ _ (by simp), by rw [eH]; exact hH1.fill, by rw [eH]; exact fillOK hR0 hH0 h, Or.inl ⟨rfl, Or.inr (Or.inr (Or.inl ⟨rfl, h, q2⟩))⟩⟩
          · omega
    · refine z_if_eq iX8_holdsTrue_104 (fun q => ?_) (fun q => ?_)
      · refine z_iconst iX8_holdsTrue_118 kI_0 ?_
        exact m_zret hE iX8_holdsTrue_119 rfl ⟨Fr.rf, by rw [noH (by omega)]; exact hH1, by rw [noH (by omega)]; exact hH0, Or.inr ⟨rfl, no (by omega)⟩⟩
      · exact absurd nI00 q
  · refine z_tableIn (off := 130) (tgt := 131) iX8_holdsTrue_1 (by decide) (by decide) (by decide) (by decide) ?_
    have eH : doH R H 4 a b = H := by unfold doH; rw [if_neg (by omega), if_neg (by omega), if_neg (by omega)]
    have no : ¬ (a < rFc R ∧ b < rFc R ∧ a ≠ b) → ¬ doP R H 4 a b := fun h z => by unfold doP at z; omega
    refine z_aload_0 iX8_holdsTrue_131 ?_
    refine m_getR iX8_holdsTrue_132 g_8_23 s0 ?_
    refine z_iload_2 iX8_holdsTrue_135 ?_
    refine m_callVi iX8_holdsTrue_136 l_8_89 f_X7_hasFencer (c_hasF G _ rfl hR1.1 (by omega) (by omega)) rfl rfl rfl (Nat.le_of_ble_eq_true rfl) hR ft_X8_holdsTrue_X7_hasFencer ⟨rfl, rfl⟩ ?_
    rintro r μ1 ⟨rfl, h | h⟩ <;> obtain ⟨rfl, h⟩ := h
    · refine z_if_eq iX8_holdsTrue_139 (fun q => ?_) (fun q => ?_)
      · exact absurd q nI10
      · refine z_aload_0 iX8_holdsTrue_142 ?_
        refine m_getR iX8_holdsTrue_143 g_8_23 s0 ?_
        refine z_iload_3 iX8_holdsTrue_146 ?_
        refine m_callVi iX8_holdsTrue_147 l_8_89 f_X7_hasFencer (c_hasF G _ rfl hR1.1 (by omega) (by omega)) rfl rfl rfl (Nat.le_of_ble_eq_true rfl) hR ft_X8_holdsTrue_X7_hasFencer ⟨rfl, rfl⟩ ?_
        rintro r μ1 ⟨rfl, h' | h'⟩ <;> obtain ⟨rfl, h'⟩ := h'
        · refine z_if_eq iX8_holdsTrue_150 (fun q => ?_) (fun q => ?_)
          · exact absurd q nI10
          · refine z_iload_2 iX8_holdsTrue_153 ?_
            refine z_iload_3 iX8_holdsTrue_154 ?_
            refine z_icmp_neN iX8_holdsTrue_155 (by omega) (by omega) (fun q2 => ?_) (fun q2 => ?_)
            · refine z_aload_0 iX8_holdsTrue_160 ?_
              refine z_iload_2 iX8_holdsTrue_161 ?_
              refine z_iload_3 iX8_holdsTrue_162 ?_
              refine m_callVv iX8_holdsTrue_163 l_8_50 f_X8_fightNow (c_X8_fightNow G _ hs hR0 hH0 hR1 hH1 h h') sC rfl rfl (Nat.le_of_ble_eq_true rfl) hR ft_X8_holdsTrue_X8_fightNow ⟨rfl, rfl⟩ ?_
              rintro μ2 ⟨hF2, hB⟩
              have hb9 := bH_le (feOf R H a) (feOf R H b)
              refine z_aload_0 iX8_holdsTrue_166 ?_
              refine m_getR iX8_holdsTrue_167 g_8_27 s1 ?_
              refine m_callVi iX8_holdsTrue_170 l_8_57 f_X1_lead (c_X1_lead G _) rfl rfl rfl (Nat.le_of_ble_eq_true rfl) hR ft_X8_holdsTrue_X1_lead ⟨rfl, rfl⟩ ?_
              rintro r μ3 ⟨rfl, rfl⟩
              refine z_top (show _ = nI (bH1 (feOf R H a) (feOf R H b)) - nI (bH2 (feOf R H a) (feOf R H b)) from by rw [hB.1, hB.2.1]; rfl) ?_
              refine z_if_le iX8_holdsTrue_173 (fun q3 => ?_) (fun q3 => ?_)
              · have q4 := (q_sign (by omega) (by omega)).mp q3
                refine z_iconst iX8_holdsTrue_180 kI_0 ?_
                exact m_zret hE iX8_holdsTrue_181 rfl ⟨hF2.mono sub, by rw [eH]; exact keep hF2, by rw [eH]; exact hH0, Or.inr ⟨rfl, fun z => by unfold doP bt at z; omega⟩⟩
              · have q4 : ¬ bH1 (feOf R H a) (feOf R H b) ≤ bH2 (feOf R H a) (feOf R H b) := fun z => q3 ((q_sign (by omega) (by omega)).mpr z)
                refine z_iconst iX8_holdsTrue_176 kI_1 ?_
                refine z_goto iX8_holdsTrue_177 ?_
                exact m_zret hE iX8_holdsTrue_181 rfl ⟨hF2.mono sub, by rw [eH]; exact keep hF2, by rw [eH]; exact hH0, Or.inl ⟨rfl, Or.inr (Or.inr (Or.inr (Or.inl ⟨rfl, h, h', q2, by unfold bt; omega⟩)))⟩⟩
            · refine z_iconst iX8_holdsTrue_158 kI_0 ?_
              exact m_zret hE iX8_holdsTrue_159 rfl ⟨Fr.rf, by rw [eH]; exact hH1, by rw [eH]; exact hH0, Or.inr ⟨rfl, no (by omega)⟩⟩
        · refine z_if_eq iX8_holdsTrue_150 (fun q => ?_) (fun q => ?_)
          · refine z_iconst iX8_holdsTrue_158 kI_0 ?_
            exact m_zret hE iX8_holdsTrue_159 rfl ⟨Fr.rf, by rw [eH]; exact hH1, by rw [eH]; exact hH0, Or.inr ⟨rfl, no (by omega)⟩⟩
          · exact absurd nI00 q
    · refine z_if_eq iX8_holdsTrue_139 (fun q => ?_) (fun q => ?_)
      · refine z_iconst iX8_holdsTrue_158 kI_0 ?_
        exact m_zret hE iX8_holdsTrue_159 rfl ⟨Fr.rf, by rw [eH]; exact hH1, by rw [eH]; exact hH0, Or.inr ⟨rfl, no (by omega)⟩⟩
      · exact absurd nI00 q
  · refine z_tableIn (off := 181) (tgt := 182) iX8_holdsTrue_1 (by decide) (by decide) (by decide) (by decide) ?_
    have eH : doH R H 5 a b = H := by unfold doH; rw [if_neg (by omega), if_neg (by omega), if_neg (by omega)]
    have no : ¬ (a < rFc R ∧ b < rGc R ∧ hOw H b = a) → ¬ doP R H 5 a b := fun h z => by unfold doP at z; omega
    refine z_aload_0 iX8_holdsTrue_182 ?_
    refine m_getR iX8_holdsTrue_183 g_8_23 s0 ?_
    refine z_iload_2 iX8_holdsTrue_186 ?_
    refine m_callVi iX8_holdsTrue_187 l_8_89 f_X7_hasFencer (c_hasF G _ rfl hR1.1 (by omega) (by omega)) rfl rfl rfl (Nat.le_of_ble_eq_true rfl) hR ft_X8_holdsTrue_X7_hasFencer ⟨rfl, rfl⟩ ?_
    rintro r μ1 ⟨rfl, h | h⟩ <;> obtain ⟨rfl, h⟩ := h
    · refine z_if_eq iX8_holdsTrue_190 (fun q => ?_) (fun q => ?_)
      · exact absurd q nI10
      · refine z_aload_0 iX8_holdsTrue_193 ?_
        refine m_getR iX8_holdsTrue_194 g_8_23 s0 ?_
        refine z_iload_3 iX8_holdsTrue_197 ?_
        refine m_callVi iX8_holdsTrue_198 l_8_93 f_X7_hasGood (c_hasG G _ rfl hR1.2.1 (by omega) (by omega)) rfl rfl rfl (Nat.le_of_ble_eq_true rfl) hR ft_X8_holdsTrue_X7_hasGood ⟨rfl, rfl⟩ ?_
        rintro r μ1 ⟨rfl, h' | h'⟩ <;> obtain ⟨rfl, h'⟩ := h'
        · refine z_if_eq iX8_holdsTrue_201 (fun q => ?_) (fun q => ?_)
          · exact absurd q nI10
          · have ho := hH0.1 b h'
            refine z_aload_0 iX8_holdsTrue_204 ?_
            refine m_getR iX8_holdsTrue_205 g_8_12 s2 ?_
            refine m_getR iX8_holdsTrue_208 g_8_47 f0 ?_
            refine z_iload_3 iX8_holdsTrue_211 ?_
            refine m_ialdN iX8_holdsTrue_212 a1 (by omega) ?_
            refine z_top (hH1.1 b h') ?_
            refine z_iload_2 iX8_holdsTrue_213 ?_
            refine z_icmp_neN iX8_holdsTrue_214 (by omega) (by omega) (fun q2 => ?_) (fun q2 => ?_)
            · refine z_iconst iX8_holdsTrue_221 kI_0 ?_
              exact m_zret hE iX8_holdsTrue_222 rfl ⟨Fr.rf, by rw [eH]; exact hH1, by rw [eH]; exact hH0, Or.inr ⟨rfl, no (by omega)⟩⟩
            · refine z_iconst iX8_holdsTrue_217 kI_1 ?_
              refine z_goto iX8_holdsTrue_218 ?_
              exact m_zret hE iX8_holdsTrue_222 rfl ⟨Fr.rf, by rw [eH]; exact hH1, by rw [eH]; exact hH0, Or.inl ⟨rfl, Or.inr (Or.inr (Or.inr (Or.inr ⟨rfl, h, h', q2⟩)))⟩⟩
        · refine z_if_eq iX8_holdsTrue_201 (fun q => ?_) (fun q => ?_)
          · refine z_iconst iX8_holdsTrue_221 kI_0 ?_
            exact m_zret hE iX8_holdsTrue_222 rfl ⟨Fr.rf, by rw [eH]; exact hH1, by rw [eH]; exact hH0, Or.inr ⟨rfl, no (by omega)⟩⟩
          · exact absurd nI00 q
    · refine z_if_eq iX8_holdsTrue_190 (fun q => ?_) (fun q => ?_)
      · refine z_iconst iX8_holdsTrue_221 kI_0 ?_
        exact m_zret hE iX8_holdsTrue_222 rfl ⟨Fr.rf, by rw [eH]; exact hH1, by rw [eH]; exact hH0, Or.inr ⟨rfl, no (by omega)⟩⟩
      · exact absurd nI00 q
  · have eT : (nI d).toInt = (d : Int) := nI_toInt (by omega)
    have eH : doH R H d a b = H := by unfold doH; rw [if_neg (by omega), if_neg (by omega), if_neg (by omega)]
    refine z_tableOut (tgt := 223) iX8_holdsTrue_1 (by rw [eT]; omega) (by decide) ?_
    refine z_iconst iX8_holdsTrue_223 kI_0 ?_
    exact m_zret hE iX8_holdsTrue_224 rfl ⟨Fr.rf, by rw [eH]; exact hH1, by rw [eH]; exact hH0, Or.inr ⟨rfl, fun z => by unfold doP at z; omega⟩⟩
/-- what a feast's draw does -/
def feastH (R : Rl) (H : Hd) (v : Nat) : Hd := if v < 30 then doH R H 1 (v / 5) (v % 5) else if v < 36 then doH R H 2 0 (v - 30) else doH R H 3 (v - 36) 2
/-- Salle.feast -/
theorem c_X8_feast (G : qG) (l : Launch) {μ : Mem} {s v : Nat} {R : Rl} {H : Hd} (hs : isSal s) (hR0 : RlOK R) (hH0 : HdOK R H) (hR1 : RollAt μ R) (hH1 : HoldAt μ (s + 1) R H) (hv : v < 42) : CtrV G l M_X8_feast [.ref (qB G + s), .int (nI v)] μ (fun μ' => Fr [35, 36, s + 1, s + 1 + 1, s + 1 + 2, s + 1 + 3] μ μ' ∧ HoldAt μ' (s + 1) R (feastH R H v) ∧ HdOK R (feastH R H v)) := by
  refine m_enterV [some (.ref (qB G + s)), some (.int (nI v))] (by decide +kernel) rfl (Nat.le_of_ble_eq_true rfl) rfl (fun X hE hR => ?_)
  have hR : qR X = rm_X8_feast := hR
  show Zm G X cX8_feast RX8 _ 0 [some (.ref (qB G + s)), some (.int (nI v))] []
  obtain ⟨s0, s1, s2, s3, sC, hhd, -, -, sm⟩ := id hs
  obtain ⟨f0, f1, f2, f3, a1, a2, a3, aC⟩ := id hhd
  have h6 := hR0.1
  have h5 := hR0.2.1
  have sub3 : ∀ a, a ∈ [s + 1 + 3] → a ∈ [35, 36, s + 1, s + 1 + 1, s + 1 + 2, s + 1 + 3] := fun a h => by simp at h ⊢; omega
  refine z_iload_1 iX8_feast_0 ?_
  refine z_bipush iX8_feast_1 kB_30 ?_
  refine z_icmp_geN iX8_feast_3 (by omega) (by omega) (fun q1 => ?_) (fun q1 => ?_)
  · refine z_iload_1 iX8_feast_32 ?_
    refine z_bipush iX8_feast_33 kB_36 ?_
    refine z_icmp_geN iX8_feast_35 (by omega) (by omega) (fun q2 => ?_) (fun q2 => ?_)
    · refine z_aload_0 iX8_feast_63 ?_
      refine m_getR iX8_feast_64 g_8_23 s0 ?_
      refine z_iload_1 iX8_feast_67 ?_
      refine z_bipush iX8_feast_68 kB_36 ?_
      refine z_isubN iX8_feast_70 (by omega) ?_
      refine m_callVi iX8_feast_71 l_8_89 f_X7_hasFencer (c_hasF G _ rfl hR1.1 (by omega) (by omega)) rfl rfl rfl (Nat.le_of_ble_eq_true rfl) hR ft_X8_feast_X7_hasFencer ⟨rfl, rfl⟩ ?_
      rintro r μ1 ⟨rfl, h | h⟩ <;> obtain ⟨rfl, h⟩ := h
      · have eH : feastH R H v = fillH H (v - 36) 2 := by unfold feastH doH; rw [if_neg (by omega), if_neg (by omega), if_neg (by omega), if_neg (by omega), if_pos ⟨rfl, h, by omega⟩]
        refine z_if_eq iX8_feast_74 (fun q => ?_) (fun q => ?_)
        · exact absurd q nI10
        · refine z_aload_0 iX8_feast_77 ?_
          refine m_getR iX8_feast_78 g_8_12 s2 ?_
          refine z_iload_1 iX8_feast_81 ?_
          refine z_bipush iX8_feast_82 kB_36 ?_
          refine z_isubN iX8_feast_84 (by omega) ?_
          refine z_iconst iX8_feast_85 kI_2 ?_
          refine m_callVv iX8_feast_86 l_8_73 f_X5_fill (c_X5_fill G _ hhd (by omega) (hH1.2.1 _ (by omega)) (hH0.2.1 _ (by omega)).1 (by omega)) aC rfl rfl (Nat.le_of_ble_eq_true rfl) hR ft_X8_feast_X5_fill ⟨rfl, rfl⟩ ?_
          rintro μ2 rfl
          exact m_vret hE iX8_feast_89 ⟨Fr.rf.mw _ _ (by simp), by rw [eH]; exact hH1.fill, by rw [eH]; exact fillOK hR0 hH0 h⟩
      · have eH : feastH R H v = H := by unfold feastH doH; rw [if_neg (by omega), if_neg (by omega), if_neg (by omega), if_neg (by omega), if_neg (by omega)]
        refine z_if_eq iX8_feast_74 (fun q => ?_) (fun q => ?_)
        · exact m_vret hE iX8_feast_89 ⟨Fr.rf, by rw [eH]; exact hH1, by rw [eH]; exact hH0⟩
        · exact absurd nI00 q
    · refine z_aload_0 iX8_feast_38 ?_
      refine m_getR iX8_feast_39 g_8_23 s0 ?_
      refine z_iload_1 iX8_feast_42 ?_
      refine z_bipush iX8_feast_43 kB_30 ?_
      refine z_isubN iX8_feast_45 (by omega) ?_
      refine m_callVi iX8_feast_46 l_8_89 f_X7_hasFencer (c_hasF G _ rfl hR1.1 (by omega) (by omega)) rfl rfl rfl (Nat.le_of_ble_eq_true rfl) hR ft_X8_feast_X7_hasFencer ⟨rfl, rfl⟩ ?_
      rintro r μ1 ⟨rfl, h | h⟩ <;> obtain ⟨rfl, h⟩ := h
      · have eH : feastH R H v = stepH R H (v - 30) := by unfold feastH doH; rw [if_neg (by omega), if_pos (by omega), if_neg (by omega), if_pos ⟨rfl, rfl, h⟩]
        refine z_if_eq iX8_feast_49 (fun q => ?_) (fun q => ?_)
        · exact absurd q nI10
        · refine z_aload_0 iX8_feast_52 ?_
          refine z_iload_1 iX8_feast_53 ?_
          refine z_bipush iX8_feast_54 kB_30 ?_
          refine z_isubN iX8_feast_56 (by omega) ?_
          refine m_callVv iX8_feast_57 l_8_76 f_X8_letStep (c_X8_letStep G _ hs hR0 hH0 hR1 hH1 h) sC rfl rfl (Nat.le_of_ble_eq_true rfl) hR ft_X8_feast_X8_letStep ⟨rfl, rfl⟩ ?_
          rintro μ2 ⟨hF2, hH2⟩
          refine z_goto iX8_feast_60 ?_
          exact m_vret hE iX8_feast_89 ⟨hF2.mono sub3, by rw [eH]; exact hH2, by rw [eH]; exact stepOK hR0 hH0 h⟩
      · have eH : feastH R H v = H := by unfold feastH doH; rw [if_neg (by omega), if_pos (by omega), if_neg (by omega), if_neg (by omega), if_neg (by omega)]
        refine z_if_eq iX8_feast_49 (fun q => ?_) (fun q => ?_)
        · exact m_vret hE iX8_feast_89 ⟨Fr.rf, by rw [eH]; exact hH1, by rw [eH]; exact hH0⟩
        · exact absurd nI00 q
  · refine z_aload_0 iX8_feast_6 ?_
    refine z_iload_1 iX8_feast_7 ?_
    refine z_iconst iX8_feast_8 kI_5 ?_
    refine z_idivN iX8_feast_9 (by omega) (by omega) (by omega) ?_
    refine z_iload_1 iX8_feast_10 ?_
    refine z_iconst iX8_feast_11 kI_5 ?_
    refine z_iremN iX8_feast_12 (by omega) (by omega) (by omega) ?_
    refine m_callVi iX8_feast_13 l_8_96 f_X8_canTrade (c_X8_canTrade G _ hs hR0 hH0 hR1 hH1 (by omega) (by omega)) sC rfl rfl (Nat.le_of_ble_eq_true rfl) hR ft_X8_feast_X8_canTrade ⟨rfl, rfl⟩ ?_
    rintro r μ1 ⟨rfl, h | h⟩ <;> obtain ⟨rfl, h⟩ := h
    · have eH : feastH R H v = meetH R H (v / 5) (v % 5) := by unfold feastH doH; rw [if_pos (by omega), if_pos ⟨rfl, h⟩]
      refine z_if_eq iX8_feast_16 (fun q => ?_) (fun q => ?_)
      · exact absurd q nI10
      · refine z_aload_0 iX8_feast_19 ?_
        refine z_iload_1 iX8_feast_20 ?_
        refine z_iconst iX8_feast_21 kI_5 ?_
        refine z_idivN iX8_feast_22 (by omega) (by omega) (by omega) ?_
        refine z_iload_1 iX8_feast_23 ?_
        refine z_iconst iX8_feast_24 kI_5 ?_
        refine z_iremN iX8_feast_25 (by omega) (by omega) (by omega) ?_
        refine m_callVv iX8_feast_26 l_8_100 f_X8_letMeet (c_X8_letMeet G _ hs hR0 hH0 hR1 hH1 h.1 h.2.1) sC rfl rfl (Nat.le_of_ble_eq_true rfl) hR ft_X8_feast_X8_letMeet ⟨rfl, rfl⟩ ?_
        rintro μ2 ⟨hF2, hH2⟩
        refine z_goto iX8_feast_29 ?_
        exact m_vret hE iX8_feast_89 ⟨hF2, by rw [eH]; exact hH2, by rw [eH]; exact meetOK hR0 hH0 h.1 h.2.1⟩
    · have eH : feastH R H v = H := by unfold feastH doH; rw [if_pos (by omega), if_neg (fun z => h z.2), if_neg (by omega), if_neg (by omega)]
      refine z_if_eq iX8_feast_16 (fun q => ?_) (fun q => ?_)
      · exact m_vret hE iX8_feast_89 ⟨Fr.rf, by rw [eH]; exact hH1, by rw [eH]; exact hH0⟩
      · exact absurd nI00 q

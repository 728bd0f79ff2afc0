/-! THE REFERENCE: told doings, sightings, seed, feasts, slots, counts -/
theorem c_X11_layTrial (G : qG) (l : Launch) {μ : Mem} : CtrV G l M_X11_layTrial [.ref (qB G + 140)] μ (fun μ' => NF 1 μ μ' ∧ ∀ R H, RlOK R → NowAt μ 145 0 R H → NowAt μ' 145 18 R H) := by
  refine m_enterV [some (.ref (qB G + 140)), none] (by decide +kernel) rfl (Nat.le_of_ble_eq_true rfl) rfl (fun X hE hR => ?_)
  have hR : qR X = rm_X11_layTrial := hR
  show Zm G X cX11_layTrial RX11 _ 0 [some (.ref (qB G + 140)), none] []
  have loop : ∀ (m k : Nat) (μ' : Mem), m + k = 18 → Cp 145 18 145 0 k μ μ' → Zm G X cX11_layTrial RX11 μ' 2 [some (.ref (qB G + 140)), some (.int (nI k))] [] := by
    intro m
    induction m with
    | zero =>
      intro k μ' hk hC
      rw [show k = 18 by omega] at hC ⊢
      refine z_iload_1 iX11_layTrial_2 ?_
      refine z_bipush iX11_layTrial_3 kB_18 ?_
      refine z_icmp_geN iX11_layTrial_5 (by omega) (by omega) (fun q2 => ?_) (fun q2 => ?_)
      · exact m_vret hE iX11_layTrial_29 ⟨⟨(hC.fm (by decide)).mono (by decide) (by decide), fun k hk => hC.2.1 k (by omega)⟩, fun R H hR0 hN => hN.cp hR0 hC⟩
      · omega
    | succ m ih =>
      intro k μ' hk hC
      refine z_iload_1 iX11_layTrial_2 ?_
      refine z_bipush iX11_layTrial_3 kB_18 ?_
      refine z_icmp_geN iX11_layTrial_5 (by omega) (by omega) (fun q2 => ?_) (fun q2 => ?_)
      · omega
      · refine z_aload_0 iX11_layTrial_8 ?_
        refine m_getR iX11_layTrial_9 g_11_22 rfl ?_
        refine z_bipush iX11_layTrial_12 kB_18 ?_
        refine z_iload_1 iX11_layTrial_14 ?_
        refine z_iaddN iX11_layTrial_15 ?_
        refine z_aload_0 iX11_layTrial_16 ?_
        refine m_getR iX11_layTrial_17 g_11_22 rfl ?_
        refine z_iload_1 iX11_layTrial_20 ?_
        refine m_ialdN iX11_layTrial_21 rfl (by omega) ?_
        refine m_iastN iX11_layTrial_22 rfl (by omega) ?_
        refine z_iinc_1N iX11_layTrial_23 rfl ?_
        refine z_goto iX11_layTrial_26 ?_
        exact ih (k + 1) _ (by omega) (hC.step (Or.inr (Or.inl (by decide))) (by omega) rfl (by omega))
  refine z_iconst iX11_layTrial_0 kI_0 ?_
  refine z_istore_1 iX11_layTrial_1 rfl ?_
  exact loop 18 0 μ (by decide) Cp.zero
theorem step_ow (R : Rl) (H : Hd) (f : Nat) : hOw (stepH R H f) = hOw H := by unfold stepH; split <;> rfl
theorem meet_ow {R : Rl} {H : Hd} {f g : Nat} (h : hOw H g ≠ f) : hOw (meetH R H f g) g = f ↔ costH R H f (hOw H g) g ≤ hPu H f := by
  have e : hOw (meetH R H f g) = hOw (buyH R H f g) := by
    unfold meetH
    show hOw (stepH R (stepH R (buyH R H f g) f) (hOw H g)) = _
    rw [step_ow, step_ow]
  rw [e]
  unfold buyH
  split
  · next z =>
    refine ⟨fun _ => z, fun _ => ?_⟩
    show updN (hOw H) g f g = f
    unfold updN
    rw [if_pos rfl]
  · next z => exact ⟨fun q => absurd q h, fun q => absurd q z⟩
theorem doOK {R : Rl} {H : Hd} {d a b : Nat} (hR : RlOK R) (hH : HdOK R H) : HdOK R (doH R H d a b) := by
  unfold doH
  split
  · next z => exact meetOK hR hH z.2.1 z.2.2.1
  · split
    · next z => exact stepOK hR hH z.2.2
    · split
      · next z => exact fillOK hR hH z.2.1
      · exact hH
theorem c_X11_tryThing (G : qG) (l : Launch) {μ : Mem} {d a b : Nat} {R : Rl} {H : Hd} (hR0 : RlOK R) (hH0 : HdOK R H) (hR1 : MRoll μ R) (hH1 : NowAt μ 145 18 R H) (hd : d < 10) (ha : a < 10) (hb : b < 10) : CtrI G l M_X11_tryThing [.ref (qB G + 140), .int (nI d), .int (nI a), .int (nI b)] μ (fun r μ' => NF 1 μ μ' ∧ NowAt μ' 145 18 R (doH R H d a b) ∧ ((r = nI 1 ∧ doP R H d a b) ∨ (r = nI 0 ∧ ¬ doP R H d a b))) := by
  refine m_enterI [some (.ref (qB G + 140)), some (.int (nI d)), some (.int (nI a)), some (.int (nI b)), none, none] (by decide +kernel) rfl (Nat.le_of_ble_eq_true rfl) (fun X hE hR => ?_)
  have hR : qR X = rm_X11_tryThing := hR
  have hE : EI G X _ (some .boolean) := hE
  show Zm G X cX11_tryThing RX11 _ 0 [some (.ref (qB G + 140)), some (.int (nI d)), some (.int (nI a)), some (.int (nI b)), none, none] []
  have h6 := hR0.1
  have h5 := hR0.2.1
  have cF : ∀ {n : Nat} {μ : Mem} {c : Nat}, c < 10 → (∀ f, f < n → nI c ≠ nI f) → n ≤ 6 → ¬ c < n := fun {n μ c} _ h _ q => h c q rfl
  have eF : ∀ {c n f : Nat}, c < 10 → n ≤ 6 → f < n → nI c = nI f → c < n := fun {c n f} h1 h2 h3 e => by have := (nI_eq (a := c) (b := f) (by omega) (by omega)).mp e; omega
  refine z_iload_1 iX11_tryThing_0 ?_
  by_cases hd5 : 1 ≤ d ∧ d ≤ 5
  · have eT : (nI d).toInt = (d : Int) := nI_toInt (by omega)
    rcases (show d = 1 ∨ d = 2 ∨ d = 3 ∨ d = 4 ∨ d = 5 by omega) with rfl | rfl | rfl | rfl | rfl
    · refine z_tableIn (tgt := 36) iX11_tryThing_1 (by decide) (by decide) rfl (by decide) ?_
      have no : ¬ (a < rFc R ∧ b < rGc R ∧ hOw H b ≠ a) → Zm G X cX11_tryThing RX11 μ 79 [some (.ref (qB G + 140)), some (.int (nI 1)), some (.int (nI a)), some (.int (nI b)), none, none] [] := by
        intro z
        refine z_iconst iX11_tryThing_79 kI_0 ?_
        refine m_zret hE iX11_tryThing_80 rfl ⟨NF.rf, ?_, Or.inr ⟨rfl, fun q => ?_⟩⟩
        · have e : doH R H 1 a b = H := by unfold doH; rw [if_neg (by omega), if_neg (by omega), if_neg (by omega)]
          rw [e]; exact hH1
        · unfold doP canT at q; rcases q with q | q | q | q | q
          · exact z q.2.1
          · omega
          · omega
          · omega
          · omega
      refine z_aload_0 iX11_tryThing_36 ?_
      refine z_iload_2 iX11_tryThing_37 ?_
      refine m_callVi iX11_tryThing_38 l_11_153 f_X11_isFencer (c_X11_isFencer G _ hR1.1 (by omega) (nI a)) rfl rfl rfl (Nat.le_of_ble_eq_true rfl) hR ft_X11_tryThing_X11_isFencer ⟨rfl, rfl⟩ ?_
      rintro r μ1 ⟨rfl, ⟨rfl, f, hf, ef⟩ | ⟨rfl, hn⟩⟩
      · have ha' := eF ha h6 hf ef
        refine z_if_eq iX11_tryThing_41 (fun q => ?_) (fun q => ?_)
        · exact absurd q nI10
        · refine z_aload_0 iX11_tryThing_44 ?_
          refine z_iload_3 iX11_tryThing_45 ?_
          refine m_callVi iX11_tryThing_46 l_11_163 f_X11_isGood (c_X11_isGood G _ hR1.2.1 (by omega) (nI b)) rfl rfl rfl (Nat.le_of_ble_eq_true rfl) hR ft_X11_tryThing_X11_isGood ⟨rfl, rfl⟩ ?_
          rintro r μ2 ⟨rfl, ⟨rfl, g, hg, eg⟩ | ⟨rfl, hn⟩⟩
          · have hb' := eF hb (by omega) hg eg
            have hob := hH0.1 b hb'
            refine z_if_eq iX11_tryThing_49 (fun q => ?_) (fun q => ?_)
            · exact absurd q nI10
            · refine z_aload_0 iX11_tryThing_52 ?_
              refine m_getR iX11_tryThing_53 g_11_22 rfl ?_
              refine z_bipush iX11_tryThing_56 kB_18 ?_
              refine z_iload_3 iX11_tryThing_58 ?_
              refine z_iaddN iX11_tryThing_59 ?_
              refine m_ialdN iX11_tryThing_60 rfl (by omega) ?_
              refine z_top (hH1.1 b hb') ?_
              refine z_iload_2 iX11_tryThing_61 ?_
              refine z_icmp_eqN iX11_tryThing_62 (by omega) (by omega) (fun q1 => ?_) (fun q1 => ?_)
              · exact no (by omega)
              · refine z_aload_0 iX11_tryThing_65 ?_
                refine z_iconst iX11_tryThing_66 kI_1 ?_
                refine z_iload_2 iX11_tryThing_67 ?_
                refine z_iload_3 iX11_tryThing_68 ?_
                refine m_callVi iX11_tryThing_69 l_11_184 f_X11_meetOn (c_X11_meetOn (lv := 1) G _ hR0 hH0 hR1 (by decide) hH1 ha' hb') rfl rfl rfl (Nat.le_of_ble_eq_true rfl) hR ft_X11_tryThing_X11_meetOn ⟨rfl, rfl⟩ ?_
                rintro r μ3 ⟨hF3, hN3, hr⟩
                have e : doH R H 1 a b = meetH R H a b := by unfold doH; rw [if_pos ⟨rfl, ha', hb', q1⟩]
                rcases hr with ⟨rfl, hr⟩ | ⟨rfl, hr⟩
                · refine z_if_eq iX11_tryThing_72 (fun q2 => ?_) (fun q2 => ?_)
                  · exact absurd q2 nI10
                  · refine z_iconst iX11_tryThing_75 kI_1 ?_
                    refine z_goto iX11_tryThing_76 ?_
                    refine m_zret hE iX11_tryThing_80 rfl ⟨hF3, by rw [e]; exact hN3, Or.inl ⟨rfl, Or.inl ⟨rfl, ⟨ha', hb', q1⟩, (meet_ow q1).mpr hr⟩⟩⟩
                · refine z_if_eq iX11_tryThing_72 (fun q2 => ?_) (fun q2 => ?_)
                  · refine z_iconst iX11_tryThing_79 kI_0 ?_
                    refine m_zret hE iX11_tryThing_80 rfl ⟨hF3, by rw [e]; exact hN3, Or.inr ⟨rfl, fun q => ?_⟩⟩
                    unfold doP at q
                    rcases q with q | q | q | q | q
                    · exact hr ((meet_ow q1).mp q.2.2)
                    · omega
                    · omega
                    · omega
                    · omega
                  · exact absurd nI00 q2
          · refine z_if_eq iX11_tryThing_49 (fun q => ?_) (fun q => ?_)
            · exact no (fun z => hn b z.2.1 rfl)
            · exact absurd nI00 q
      · refine z_if_eq iX11_tryThing_41 (fun q => ?_) (fun q => ?_)
        · exact no (fun z => hn a z.1 rfl)
        · exact absurd nI00 q
    · refine z_tableIn (tgt := 81) iX11_tryThing_1 (by decide) (by decide) rfl (by decide) ?_
      have no : ¬ (a = 0 ∧ b < rFc R) → Zm G X cX11_tryThing RX11 μ 97 [some (.ref (qB G + 140)), some (.int (nI 2)), some (.int (nI a)), some (.int (nI b)), none, none] [] := by
        intro z
        refine z_iconst iX11_tryThing_97 kI_0 ?_
        refine z_istore_4 iX11_tryThing_98 rfl ?_
        refine z_iload_4 iX11_tryThing_100 ?_
        refine z_if_eq iX11_tryThing_102 (fun q => ?_) (fun q => ?_)
        · refine z_iload_4 iX11_tryThing_111 ?_
          refine m_zret hE iX11_tryThing_113 rfl ⟨NF.rf, ?_, Or.inr ⟨rfl, fun q => ?_⟩⟩
          · have e : doH R H 2 a b = H := by unfold doH; rw [if_neg (by omega), if_neg (by omega), if_neg (by omega)]
            rw [e]; exact hH1
          · unfold doP canT at q; omega
        · exact absurd nI00 q
      refine z_iload_2 iX11_tryThing_81 ?_
      refine z_if_neN iX11_tryThing_82 (by omega) (fun q => ?_) (fun q => ?_)
      · exact no (by omega)
      · refine z_aload_0 iX11_tryThing_85 ?_
        refine z_iload_3 iX11_tryThing_86 ?_
        refine m_callVi iX11_tryThing_87 l_11_153 f_X11_isFencer (c_X11_isFencer G _ hR1.1 (by omega) (nI b)) rfl rfl rfl (Nat.le_of_ble_eq_true rfl) hR ft_X11_tryThing_X11_isFencer ⟨rfl, rfl⟩ ?_
        rintro r μ1 ⟨rfl, ⟨rfl, f, hf, ef⟩ | ⟨rfl, hn⟩⟩
        · have hb' := eF hb h6 hf ef
          refine z_if_eq iX11_tryThing_90 (fun q1 => ?_) (fun q1 => ?_)
          · exact absurd q1 nI10
          · refine z_iconst iX11_tryThing_93 kI_1 ?_
            refine z_goto iX11_tryThing_94 ?_
            refine z_istore_4 iX11_tryThing_98 rfl ?_
            refine z_iload_4 iX11_tryThing_100 ?_
            refine z_if_eq iX11_tryThing_102 (fun q2 => ?_) (fun q2 => ?_)
            · exact absurd q2 nI10
            · refine z_aload_0 iX11_tryThing_105 ?_
              refine z_iconst iX11_tryThing_106 kI_1 ?_
              refine z_iload_3 iX11_tryThing_107 ?_
              refine m_callVv iX11_tryThing_108 l_11_177 f_X11_stepOn (c_X11_stepOn (lv := 1) G _ hR0 hH0 hR1 (by decide) hH1 hb') rfl rfl rfl (Nat.le_of_ble_eq_true rfl) hR ft_X11_tryThing_X11_stepOn ⟨rfl, rfl⟩ ?_
              rintro μ2 ⟨hF2, hN2⟩
              refine z_iload_4 iX11_tryThing_111 ?_
              have e : doH R H 2 a b = stepH R H b := by unfold doH; rw [if_neg (by omega), if_pos ⟨rfl, q, hb'⟩]
              exact m_zret hE iX11_tryThing_113 rfl ⟨hF2, by rw [e]; exact hN2, Or.inl ⟨rfl, Or.inr (Or.inl ⟨rfl, q, hb'⟩)⟩⟩
        · refine z_if_eq iX11_tryThing_90 (fun q1 => ?_) (fun q1 => ?_)
          · exact no (fun z => hn b z.2 rfl)
          · exact absurd nI00 q1
    · refine z_tableIn (tgt := 114) iX11_tryThing_1 (by decide) (by decide) rfl (by decide) ?_
      have no : ¬ (a < rFc R ∧ 1 ≤ b) → Zm G X cX11_tryThing RX11 μ 130 [some (.ref (qB G + 140)), some (.int (nI 3)), some (.int (nI a)), some (.int (nI b)), none, none] [] := by
        intro z
        refine z_iconst iX11_tryThing_130 kI_0 ?_
        refine z_istore_5 iX11_tryThing_131 rfl ?_
        refine z_iload_5 iX11_tryThing_133 ?_
        refine z_if_eq iX11_tryThing_135 (fun q => ?_) (fun q => ?_)
        · refine z_iload_5 iX11_tryThing_145 ?_
          refine m_zret hE iX11_tryThing_147 rfl ⟨NF.rf, ?_, Or.inr ⟨rfl, fun q => ?_⟩⟩
          · have e : doH R H 3 a b = H := by unfold doH; rw [if_neg (by omega), if_neg (by omega), if_neg (by omega)]
            rw [e]; exact hH1
          · unfold doP canT at q; omega
        · exact absurd nI00 q
      refine z_aload_0 iX11_tryThing_114 ?_
      refine z_iload_2 iX11_tryThing_115 ?_
      refine m_callVi iX11_tryThing_116 l_11_153 f_X11_isFencer (c_X11_isFencer G _ hR1.1 (by omega) (nI a)) rfl rfl rfl (Nat.le_of_ble_eq_true rfl) hR ft_X11_tryThing_X11_isFencer ⟨rfl, rfl⟩ ?_
      rintro r μ1 ⟨rfl, ⟨rfl, f, hf, ef⟩ | ⟨rfl, hn⟩⟩
      · have ha' := eF ha h6 hf ef
        refine z_if_eq iX11_tryThing_119 (fun q1 => ?_) (fun q1 => ?_)
        · exact absurd q1 nI10
        · refine z_iload_3 iX11_tryThing_122 ?_
          refine z_if_leN iX11_tryThing_123 (by omega) (fun q2 => ?_) (fun q2 => ?_)
          · exact no (by omega)
          · refine z_iconst iX11_tryThing_126 kI_1 ?_
            refine z_goto iX11_tryThing_127 ?_
            refine z_istore_5 iX11_tryThing_131 rfl ?_
            refine z_iload_5 iX11_tryThing_133 ?_
            refine z_if_eq iX11_tryThing_135 (fun q3 => ?_) (fun q3 => ?_)
            · exact absurd q3 nI10
            · refine z_aload_0 iX11_tryThing_138 ?_
              refine z_iconst iX11_tryThing_139 kI_1 ?_
              refine z_iload_2 iX11_tryThing_140 ?_
              refine z_iload_3 iX11_tryThing_141 ?_
              refine m_callVv iX11_tryThing_142 l_11_174 f_X11_giveOn (c_X11_giveOn (lv := 1) G _ hR0 (hH0.2.1 a (by omega)).1 (by decide) hH1 ha' (by omega)) rfl rfl rfl (Nat.le_of_ble_eq_true rfl) hR ft_X11_tryThing_X11_giveOn ⟨rfl, rfl⟩ ?_
              rintro μ2 ⟨hF2, hN2⟩
              refine z_iload_5 iX11_tryThing_145 ?_
              have e : doH R H 3 a b = fillH H a b := by unfold doH; rw [if_neg (by omega), if_neg (by omega), if_pos ⟨rfl, ha', q2⟩]
              exact m_zret hE iX11_tryThing_147 rfl ⟨hF2, by rw [e]; exact hN2, Or.inl ⟨rfl, Or.inr (Or.inr (Or.inl ⟨rfl, ha', q2⟩))⟩⟩
      · refine z_if_eq iX11_tryThing_119 (fun q1 => ?_) (fun q1 => ?_)
        · exact no (fun z => hn a z.1 rfl)
        · exact absurd nI00 q1
    · refine z_tableIn (tgt := 148) iX11_tryThing_1 (by decide) (by decide) rfl (by decide) ?_
      have e : doH R H 4 a b = H := by unfold doH; rw [if_neg (by omega), if_neg (by omega), if_neg (by omega)]
      have no : ∀ μ', Fm [] kB μ μ' → ¬ (a < rFc R ∧ b < rFc R ∧ btB R H a b = true) → Zm G X cX11_tryThing RX11 μ' 178 [some (.ref (qB G + 140)), some (.int (nI 4)), some (.int (nI a)), some (.int (nI b)), none, none] [] := by
        intro μ' hF z
        refine z_iconst iX11_tryThing_178 kI_0 ?_
        refine m_zret hE iX11_tryThing_179 rfl ⟨NF.of hF, ?_, Or.inr ⟨rfl, fun q => ?_⟩⟩
        · rw [e]; exact hH1.fm hR0 hF (by decide) (by decide)
        · unfold doP canT at q
          rcases q with q | q | q | q | q
          · omega
          · omega
          · omega
          · exact z ⟨q.2.1, q.2.2.1, btB_iff.mpr q.2.2.2.2⟩
          · omega
      refine z_aload_0 iX11_tryThing_148 ?_
      refine z_iload_2 iX11_tryThing_149 ?_
      refine m_callVi iX11_tryThing_150 l_11_153 f_X11_isFencer (c_X11_isFencer G _ hR1.1 (by omega) (nI a)) rfl rfl rfl (Nat.le_of_ble_eq_true rfl) hR ft_X11_tryThing_X11_isFencer ⟨rfl, rfl⟩ ?_
      rintro r μ1 ⟨rfl, ⟨rfl, f, hf, ef⟩ | ⟨rfl, hn⟩⟩
      · have ha' := eF ha h6 hf ef
        refine z_if_eq iX11_tryThing_153 (fun q1 => ?_) (fun q1 => ?_)
        · exact absurd q1 nI10
        · refine z_aload_0 iX11_tryThing_156 ?_
          refine z_iload_3 iX11_tryThing_157 ?_
          refine m_callVi iX11_tryThing_158 l_11_153 f_X11_isFencer (c_X11_isFencer G _ hR1.1 (by omega) (nI b)) rfl rfl rfl (Nat.le_of_ble_eq_true rfl) hR ft_X11_tryThing_X11_isFencer ⟨rfl, rfl⟩ ?_
          rintro r μ2 ⟨rfl, ⟨rfl, f2, hf2, ef2⟩ | ⟨rfl, hn⟩⟩
          · have hb' := eF hb h6 hf2 ef2
            refine z_if_eq iX11_tryThing_161 (fun q2 => ?_) (fun q2 => ?_)
            · exact absurd q2 nI10
            · refine z_aload_0 iX11_tryThing_164 ?_
              refine z_iconst iX11_tryThing_165 kI_1 ?_
              refine z_iload_2 iX11_tryThing_166 ?_
              refine z_iload_3 iX11_tryThing_167 ?_
              refine m_callVi iX11_tryThing_168 l_11_149 f_X11_beats (c_X11_beats (lv := 1) G _ hR0 hH0 hR1 (by decide) hH1 ha' hb') rfl rfl rfl (Nat.le_of_ble_eq_true rfl) hR ft_X11_tryThing_X11_beats ⟨rfl, rfl⟩ ?_
              rintro r μ3 ⟨hF3, ⟨rfl, hb3⟩ | ⟨rfl, hb3⟩⟩
              · refine z_if_eq iX11_tryThing_171 (fun q3 => ?_) (fun q3 => ?_)
                · exact absurd q3 nI10
                · refine z_iconst iX11_tryThing_174 kI_1 ?_
                  refine z_goto iX11_tryThing_175 ?_
                  have hab : a ≠ b := fun z => by rw [z, btB_self] at hb3; cases hb3
                  exact m_zret hE iX11_tryThing_179 rfl ⟨NF.of hF3, by rw [e]; exact hH1.fm hR0 hF3 (by decide) (by decide), Or.inl ⟨rfl, Or.inr (Or.inr (Or.inr (Or.inl ⟨rfl, ha', hb', hab, btB_iff.mp hb3⟩)))⟩⟩
              · refine z_if_eq iX11_tryThing_171 (fun q3 => ?_) (fun q3 => ?_)
                · exact no μ3 hF3 (fun z => by rw [hb3] at z; exact absurd z.2.2 (by decide))
                · exact absurd nI00 q3
          · refine z_if_eq iX11_tryThing_161 (fun q2 => ?_) (fun q2 => ?_)
            · exact no μ2 Fm.rf (fun z => hn b z.2.1 rfl)
            · exact absurd nI00 q2
      · refine z_if_eq iX11_tryThing_153 (fun q1 => ?_) (fun q1 => ?_)
        · exact no μ1 Fm.rf (fun z => hn a z.1 rfl)
        · exact absurd nI00 q1
    · refine z_tableIn (tgt := 180) iX11_tryThing_1 (by decide) (by decide) rfl (by decide) ?_
      have e : doH R H 5 a b = H := by unfold doH; rw [if_neg (by omega), if_neg (by omega), if_neg (by omega)]
      have no : ¬ (a < rFc R ∧ b < rGc R ∧ hOw H b = a) → Zm G X cX11_tryThing RX11 μ 213 [some (.ref (qB G + 140)), some (.int (nI 5)), some (.int (nI a)), some (.int (nI b)), none, none] [] := by
        intro z
        refine z_iconst iX11_tryThing_213 kI_0 ?_
        refine m_zret hE iX11_tryThing_214 rfl ⟨NF.rf, by rw [e]; exact hH1, Or.inr ⟨rfl, fun q => ?_⟩⟩
        unfold doP canT at q
        rcases q with q | q | q | q | q
        · omega
        · omega
        · omega
        · omega
        · exact z q.2
      refine z_aload_0 iX11_tryThing_180 ?_
      refine z_iload_2 iX11_tryThing_181 ?_
      refine m_callVi iX11_tryThing_182 l_11_153 f_X11_isFencer (c_X11_isFencer G _ hR1.1 (by omega) (nI a)) rfl rfl rfl (Nat.le_of_ble_eq_true rfl) hR ft_X11_tryThing_X11_isFencer ⟨rfl, rfl⟩ ?_
      rintro r μ1 ⟨rfl, ⟨rfl, f, hf, ef⟩ | ⟨rfl, hn⟩⟩
      · have ha' := eF ha h6 hf ef
        refine z_if_eq iX11_tryThing_185 (fun q1 => ?_) (fun q1 => ?_)
        · exact absurd q1 nI10
        · refine z_aload_0 iX11_tryThing_188 ?_
          refine z_iload_3 iX11_tryThing_189 ?_
          refine m_callVi iX11_tryThing_190 l_11_163 f_X11_isGood (c_X11_isGood G _ hR1.2.1 (by omega) (nI b)) rfl rfl rfl (Nat.le_of_ble_eq_true rfl) hR ft_X11_tryThing_X11_isGood ⟨rfl, rfl⟩ ?_
          rintro r μ2 ⟨rfl, ⟨rfl, g, hg, eg⟩ | ⟨rfl, hn⟩⟩
          · have hb' := eF hb (by omega) hg eg
            have hob := hH0.1 b hb'
            refine z_if_eq iX11_tryThing_193 (fun q2 => ?_) (fun q2 => ?_)
            · exact absurd q2 nI10
            · refine z_aload_0 iX11_tryThing_196 ?_
              refine m_getR iX11_tryThing_197 g_11_22 rfl ?_
              refine z_bipush iX11_tryThing_200 kB_18 ?_
              refine z_iload_3 iX11_tryThing_202 ?_
              refine z_iaddN iX11_tryThing_203 ?_
              refine m_ialdN iX11_tryThing_204 rfl (by omega) ?_
              refine z_top (hH1.1 b hb') ?_
              refine z_iload_2 iX11_tryThing_205 ?_
              refine z_icmp_neN iX11_tryThing_206 (by omega) (by omega) (fun q3 => ?_) (fun q3 => ?_)
              · exact no (by omega)
              · refine z_iconst iX11_tryThing_209 kI_1 ?_
                refine z_goto iX11_tryThing_210 ?_
                exact m_zret hE iX11_tryThing_214 rfl ⟨NF.rf, by rw [e]; exact hH1, Or.inl ⟨rfl, Or.inr (Or.inr (Or.inr (Or.inr ⟨rfl, ha', hb', q3⟩)))⟩⟩
          · refine z_if_eq iX11_tryThing_193 (fun q2 => ?_) (fun q2 => ?_)
            · exact no (fun z => hn b z.2.1 rfl)
            · exact absurd nI00 q2
      · refine z_if_eq iX11_tryThing_185 (fun q1 => ?_) (fun q1 => ?_)
        · exact no (fun z => hn a z.1 rfl)
        · exact absurd nI00 q1
  · refine z_tableOut (tgt := 215) iX11_tryThing_1 (by rw [nI_toInt (by omega)]; omega) (by decide) ?_
    refine z_iconst iX11_tryThing_215 kI_0 ?_
    refine m_zret hE iX11_tryThing_216 rfl ⟨NF.rf, ?_, Or.inr ⟨rfl, fun q => ?_⟩⟩
    · have e : doH R H d a b = H := by unfold doH; rw [if_neg (by omega), if_neg (by omega), if_neg (by omega)]
      rw [e]; exact hH1
    · unfold doP at q; omega
theorem c_X11_strayed (G : qG) (l : Launch) {μ : Mem} {lv : Nat} {R : Rl} {H : Hd} (hR0 : RlOK R) (hH0 : HdOK R H) (hR1 : MRoll μ R) (hlv : lv < 2) (hH1 : NowAt μ 145 (18 * lv) R H) : CtrI G l M_X11_strayed [.ref (qB G + 140), .int (nI lv)] μ (fun r μ' => μ' = μ ∧ r = nI (bset (fun g => decide (hOw H g ≠ rTl R g)) (rGc R))) := by
  refine m_enterI [some (.ref (qB G + 140)), some (.int (nI lv)), none, none] (by decide +kernel) rfl (Nat.le_of_ble_eq_true rfl) (fun X hE hR => ?_)
  have hR : qR X = rm_X11_strayed := hR
  have hE : EI G X _ (some .int) := hE
  show Zm G X cX11_strayed RX11 _ 0 [some (.ref (qB G + 140)), some (.int (nI lv)), none, none] []
  have h6 := hR0.1
  have h5 := hR0.2.1
  have loop : ∀ (n o : Nat), n + o = rGc R → Zm G X cX11_strayed RX11 μ 4 [some (.ref (qB G + 140)), some (.int (nI lv)), some (.int (nI (bset (fun g => decide (hOw H g ≠ rTl R g)) o))), some (.int (nI o))] [] := by
    intro n
    induction n with
    | zero =>
      intro o ho
      refine z_iload_3 iX11_strayed_4 ?_
      refine z_aload_0 iX11_strayed_5 ?_
      refine m_getI iX11_strayed_6 g_11_102 rfl ?_
      refine z_top (hR1.2.1) ?_
      refine z_icmp_geN iX11_strayed_9 (by omega) (by omega) (fun q => ?_) (fun q => ?_)
      · refine z_iload_2 iX11_strayed_48 ?_
        exact m_iret hE iX11_strayed_49 ⟨rfl, by rw [show o = rGc R by omega]⟩
      · omega
    | succ n ih =>
      intro o ho
      have hg : o < rGc R := by omega
      have hl := hH0.1 o hg
      have ht := (hR0.2.2.2 o hg).2
      refine z_iload_3 iX11_strayed_4 ?_
      refine z_aload_0 iX11_strayed_5 ?_
      refine m_getI iX11_strayed_6 g_11_102 rfl ?_
      refine z_top (hR1.2.1) ?_
      refine z_icmp_geN iX11_strayed_9 (by omega) (by omega) (fun q => ?_) (fun q => ?_)
      · omega
      · refine z_iload_2 iX11_strayed_12 ?_
        refine z_aload_0 iX11_strayed_13 ?_
        refine m_getR iX11_strayed_14 g_11_22 rfl ?_
        refine z_bipush iX11_strayed_17 kB_18 ?_
        refine z_iload_1 iX11_strayed_19 ?_
        refine z_imulN iX11_strayed_20 ?_
        refine z_iload_3 iX11_strayed_21 ?_
        refine z_iaddN iX11_strayed_22 ?_
        refine m_ialdN iX11_strayed_23 rfl (by omega) ?_
        refine z_top (hH1.1 o hg) ?_
        refine z_aload_0 iX11_strayed_24 ?_
        refine m_getR iX11_strayed_25 g_11_16 rfl ?_
        refine z_iload_3 iX11_strayed_28 ?_
        refine m_ialdN iX11_strayed_29 rfl (by omega) ?_
        refine z_top ((hR1.2.2.2 o hg).1) ?_
        refine z_icmp_neN iX11_strayed_30 (by omega) (by omega) (fun q2 => ?_) (fun q2 => ?_)
        · refine z_iconst iX11_strayed_37 kI_1 ?_
          refine z_iload_3 iX11_strayed_38 ?_
          refine z_ishl iX11_strayed_39 ?_
          refine z_ior iX11_strayed_40 ?_
          refine z_top (bset_or (p := fun g => decide (hOw H g ≠ rTl R g)) (by omega) (by simp [q2])) ?_
          refine z_istore_2 iX11_strayed_41 rfl ?_
          refine z_iinc_3N iX11_strayed_42 rfl ?_
          refine z_goto iX11_strayed_45 ?_
          exact ih (o + 1) (by omega)
        · refine z_iconst iX11_strayed_33 kI_0 ?_
          refine z_goto iX11_strayed_34 ?_
          refine z_ior iX11_strayed_40 ?_
          refine z_top (or_0 _) ?_
          refine z_istore_2 iX11_strayed_41 rfl ?_
          refine z_iinc_3N iX11_strayed_42 rfl ?_
          refine z_goto iX11_strayed_45 ?_
          rw [← bset_no (p := fun g => decide (hOw H g ≠ rTl R g)) (g := o) (by simp [q2])]
          exact ih (o + 1) (by omega)
  refine z_iconst iX11_strayed_0 kI_0 ?_
  refine z_istore_2 iX11_strayed_1 rfl ?_
  refine z_iconst iX11_strayed_2 kI_0 ?_
  refine z_istore_3 iX11_strayed_3 rfl ?_
  exact loop (rGc R) 0 (by omega)

/-! THE REFERENCE: chain. Its sums are the class's, cut at 9999 -/
def fb (t : Nat) (w : Nat → Nat) : Prop := ∀ k, w k = 1000000 ∨ w k ≤ 18 * t
theorem fb.sx {c : Nat → Nat → Nat} {ow a b t : Nat} {w : Nat → Nat} (h : fb t w) (hc : ∀ a b, c a b ≤ 18) : fb (t + 1) (rlx c ow w a b) := by
  intro k
  have := hc a b
  have ha := h a
  have hb := h b
  have hk := h k
  unfold rlx
  split
  · unfold updN
    split
    · omega
    · omega
  · omega
theorem fb.rB {c : Nat → Nat → Nat} {ow a t : Nat} {w : Nat → Nat} (h : fb t w) (hc : ∀ a b, c a b ≤ 18) : ∀ n, fb (t + n) (rB c ow a w n)
  | 0 => h
  | n + 1 => (fb.rB h hc n).sx hc
theorem fb.rA {c : Nat → Nat → Nat} {ow fc t : Nat} {w : Nat → Nat} (h : fb t w) (hc : ∀ a b, c a b ≤ 18) : ∀ n, fb (t + fc * n) (rA c ow fc w n)
  | 0 => h
  | n + 1 => by
    have := (fb.rA (fc := fc) (ow := ow) h hc n).rB (ow := ow) (a := n) hc fc
    rw [Nat.mul_add, Nat.mul_one, ← Nat.add_assoc]
    exact this
theorem fb.rR {c : Nat → Nat → Nat} {ow fc t : Nat} {w : Nat → Nat} (h : fb t w) (hc : ∀ a b, c a b ≤ 18) : ∀ n, fb (t + fc * fc * n) (rR c ow fc w n)
  | 0 => h
  | n + 1 => by
    have := (fb.rR (fc := fc) (ow := ow) h hc n).rA (ow := ow) (fc := fc) hc fc
    rw [Nat.mul_add, Nat.mul_one, ← Nat.add_assoc]
    exact this
theorem fb.far (f : Nat) : fb 0 (updN (fun _ => 1000000) f 0) := by
  intro k
  unfold updN
  split
  · exact Or.inr (Nat.le_refl _)
  · exact Or.inl rfl
theorem rlx_0 {c : Nat → Nat → Nat} {ow a b f : Nat} {w : Nat → Nat} (h : w f = 0) : rlx c ow w a b f = 0 := by
  unfold rlx
  split
  · unfold updN
    split
    · next z => subst z; rw [h]; exact Nat.zero_min _
    · exact h
  · exact h
theorem rB_0 {c : Nat → Nat → Nat} {ow a f : Nat} {w : Nat → Nat} (h : w f = 0) : ∀ n, rB c ow a w n f = 0
  | 0 => h
  | n + 1 => rlx_0 (rB_0 h n)
theorem rA_0 {c : Nat → Nat → Nat} {ow fc f : Nat} {w : Nat → Nat} (h : w f = 0) : ∀ n, rA c ow fc w n f = 0
  | 0 => h
  | n + 1 => rB_0 (rA_0 h n) fc
theorem rR_0 {c : Nat → Nat → Nat} {ow fc f : Nat} {w : Nat → Nat} (h : w f = 0) : ∀ n, rR c ow fc w n f = 0
  | 0 => h
  | n + 1 => rA_0 (rR_0 h n) fc
def SumAt (μ : Mem) (fc : Nat) (w : Nat → Nat) : Prop := ∀ k, k < fc → μ.1 150 k = nI (min (w k) 9999)
theorem SumAt.fm {μ μ' : Mem} {fc : Nat} {w : Nat → Nat} {L K : List Nat} (h : SumAt μ fc w) (hF : Fm L K μ μ') (h1 : 150 ∉ L) : SumAt μ' fc w := fun k hk => by rw [hF.1 150 h1 (by decide)]; exact h k hk
theorem mul6 {a b : Nat} (ha : a ≤ 6) (hb : b ≤ 6) : a * b ≤ 36 := Nat.mul_le_mul ha hb
theorem c_X11_sumsTo (G : qG) (l : Launch) {μ : Mem} {f g : Nat} {R : Rl} {H : Hd} (hR0 : RlOK R) (hH0 : HdOK R H) (hR1 : MRoll μ R) (hH1 : NowAt μ 145 0 R H) (hf : f < rFc R) (hg : g < rGc R) : CtrV G l M_X11_sumsTo [.ref (qB G + 140), .int (nI f), .int (nI g)] μ (fun μ' => Fm [150] kB μ μ' ∧ SumAt μ' (rFc R) (rR (hnd R H (rPr R g)) (hOw H g) (rFc R) (updN (fun _ => 1000000) f 0) (rFc R))) := by
  refine m_enterV [some (.ref (qB G + 140)), some (.int (nI f)), some (.int (nI g)), none, none, none, none] (by decide +kernel) rfl (Nat.le_of_ble_eq_true rfl) rfl (fun X hE hR => ?_)
  have hR : qR X = rm_X11_sumsTo := hR
  show Zm G X cX11_sumsTo RX11 _ 0 [some (.ref (qB G + 140)), some (.int (nI f)), some (.int (nI g)), none, none, none, none] []
  have h6 := hR0.1
  have h5 := hR0.2.1
  have ho := hH0.1 g hg
  have hc : ∀ a b, hnd R H (rPr R g) a b ≤ 18 := fun a b => hnd_le (hR0.2.2.2 g hg).1
  have loopB : ∀ (n b t a rd : Nat) (w : Nat → Nat) (o : Option Value) (μ' : Mem), n + b = rFc R → a < rFc R → rd < 1000 → (o = none ∨ ∃ w, o = some (.int w)) → fb t w → t + rFc R ≤ 300 → Fm [150] kB μ μ' → SumAt μ' (rFc R) (rB (hnd R H (rPr R g)) (hOw H g) a w b) → (∀ (o' : Option Value) (μ'' : Mem), (o' = none ∨ ∃ w, o' = some (.int w)) → Fm [150] kB μ μ'' → SumAt μ'' (rFc R) (rB (hnd R H (rPr R g)) (hOw H g) a w (rFc R)) → Zm G X cX11_sumsTo RX11 μ'' 167 [some (.ref (qB G + 140)), some (.int (nI f)), some (.int (nI g)), some (.int (nI rd)), some (.int (nI a)), some (.int (nI (rFc R))), o'] []) → Zm G X cX11_sumsTo RX11 μ' 59 [some (.ref (qB G + 140)), some (.int (nI f)), some (.int (nI g)), some (.int (nI rd)), some (.int (nI a)), some (.int (nI b)), o] [] := by
    intro n
    induction n with
    | zero =>
      intro b t a rd w o μ' hn ha hrd hoo hfb ht hF hSm kk
      rw [show b = rFc R by omega] at hSm ⊢
      have hR2 := hR1.fm hF (by decide) (by decide)
      refine z_iload_5 iX11_sumsTo_59 ?_
      refine z_aload_0 iX11_sumsTo_61 ?_
      refine m_getI iX11_sumsTo_62 g_11_99 rfl ?_
      refine z_top (hR2.1) ?_
      refine z_icmp_geN iX11_sumsTo_65 (by omega) (by omega) (fun q => ?_) (fun q => ?_)
      · exact kk o μ' hoo hF hSm
      · omega
    | succ n ih =>
      intro b t a rd w o μ' hn ha hrd hoo hfb ht hF hSm kk
      have hb : b < rFc R := by omega
      have hR2 := hR1.fm hF (by decide) (by decide)
      have hN2 := hH1.fm hR0 hF (by decide) (by decide)
      have hf2 := hfb.rB (ow := hOw H g) (a := a) hc b
      have next : ∀ (o' : Option Value) (μ'' : Mem), (o' = none ∨ ∃ w, o' = some (.int w)) → Fm [150] kB μ μ'' → SumAt μ'' (rFc R) (rB (hnd R H (rPr R g)) (hOw H g) a w (b + 1)) → Zm G X cX11_sumsTo RX11 μ'' 161 [some (.ref (qB G + 140)), some (.int (nI f)), some (.int (nI g)), some (.int (nI rd)), some (.int (nI a)), some (.int (nI b)), o'] [] := by
        intro o' μ'' ho' hF' hS'
        rcases ho' with rfl | ⟨w, rfl⟩
        · refine z_iinc_5N iX11_sumsTo_161 rfl ?_
          refine z_goto iX11_sumsTo_164 ?_
          exact ih (b + 1) t a rd w _ μ'' (by omega) ha hrd (Or.inl rfl) hfb ht hF' hS' kk
        · refine z_iinc_5N iX11_sumsTo_161 rfl ?_
          refine z_goto iX11_sumsTo_164 ?_
          exact ih (b + 1) t a rd _ _ μ'' (by omega) ha hrd (Or.inr ⟨_, rfl⟩) hfb ht hF' hS' kk
      have skip : ¬ (a ≠ hOw H g ∧ b ≠ hOw H g ∧ a ≠ b) → Zm G X cX11_sumsTo RX11 μ' 161 [some (.ref (qB G + 140)), some (.int (nI f)), some (.int (nI g)), some (.int (nI rd)), some (.int (nI a)), some (.int (nI b)), o] [] := by
        intro z
        refine next o μ' hoo hF ?_
        have : rB (hnd R H (rPr R g)) (hOw H g) a w (b + 1) = rB (hnd R H (rPr R g)) (hOw H g) a w b := by
          show rlx _ _ _ _ _ = _
          unfold rlx
          rw [if_neg z]
        rw [this]
        exact hSm
      refine z_iload_5 iX11_sumsTo_59 ?_
      refine z_aload_0 iX11_sumsTo_61 ?_
      refine m_getI iX11_sumsTo_62 g_11_99 rfl ?_
      refine z_top (hR2.1) ?_
      refine z_icmp_geN iX11_sumsTo_65 (by omega) (by omega) (fun q => ?_) (fun q => ?_)
      · omega
      · refine z_iload_4 iX11_sumsTo_68 ?_
        refine z_iload_5 iX11_sumsTo_70 ?_
        refine z_icmp_eqN iX11_sumsTo_72 (by omega) (by omega) (fun q1 => ?_) (fun q1 => ?_)
        · exact skip (fun z => z.2.2 q1)
        · refine z_iload_4 iX11_sumsTo_75 ?_
          refine z_aload_0 iX11_sumsTo_77 ?_
          refine m_getR iX11_sumsTo_78 g_11_22 rfl ?_
          refine z_iload_2 iX11_sumsTo_81 ?_
          refine m_ialdN iX11_sumsTo_82 rfl (by omega) ?_
          refine z_top (hN2.ow0 hg) ?_
          refine z_icmp_eqN iX11_sumsTo_83 (by omega) (by omega) (fun q2 => ?_) (fun q2 => ?_)
          · exact skip (fun z => z.1 q2)
          · refine z_iload_5 iX11_sumsTo_86 ?_
            refine z_aload_0 iX11_sumsTo_88 ?_
            refine m_getR iX11_sumsTo_89 g_11_22 rfl ?_
            refine z_iload_2 iX11_sumsTo_92 ?_
            refine m_ialdN iX11_sumsTo_93 rfl (by omega) ?_
            refine z_top (hN2.ow0 hg) ?_
            refine z_icmp_eqN iX11_sumsTo_94 (by omega) (by omega) (fun q3 => ?_) (fun q3 => ?_)
            · exact skip (fun z => z.2.1 q3)
            · have er : rB (hnd R H (rPr R g)) (hOw H g) a w (b + 1) = updN (rB (hnd R H (rPr R g)) (hOw H g) a w b) a (min (rB (hnd R H (rPr R g)) (hOw H g) a w b a) (rB (hnd R H (rPr R g)) (hOw H g) a w b b + hnd R H (rPr R g) a b)) := by
                show rlx _ _ _ _ _ = _
                unfold rlx
                rw [if_pos ⟨q2, q3, q1⟩]
              have ka := hf2 a
              have kb := hf2 b
              have kc := hc a b
              generalize rB (hnd R H (rPr R g)) (hOw H g) a w b = w1 at hSm er ka kb
              refine z_aload_0 iX11_sumsTo_97 ?_
              refine m_getR iX11_sumsTo_98 g_11_37 rfl ?_
              refine z_iload_5 iX11_sumsTo_101 ?_
              refine m_ialdN iX11_sumsTo_103 rfl (by omega) ?_
              refine z_top (hSm b hb) ?_
              refine z_sipush iX11_sumsTo_104 kS_9999 ?_
              refine z_icmp_geN iX11_sumsTo_107 (by omega) (by omega) (fun q4 => ?_) (fun q4 => ?_)
              · refine next o μ' hoo hF ?_
                rw [er]
                intro k hk
                rw [hSm k hk]
                unfold updN
                split
                · next z => subst z; congr 1; omega
                · rfl
              · refine z_aload_0 iX11_sumsTo_110 ?_
                refine m_getR iX11_sumsTo_111 g_11_37 rfl ?_
                refine z_iload_5 iX11_sumsTo_114 ?_
                refine m_ialdN iX11_sumsTo_116 rfl (by omega) ?_
                refine z_top (hSm b hb) ?_
                refine z_aload_0 iX11_sumsTo_117 ?_
                refine z_iconst iX11_sumsTo_118 kI_0 ?_
                refine z_iload_5 iX11_sumsTo_119 ?_
                refine z_iload_4 iX11_sumsTo_121 ?_
                refine z_iload_2 iX11_sumsTo_123 ?_
                refine m_callVi iX11_sumsTo_124 l_11_168 f_X11_costFrom (c_X11_costFrom (lv := 0) G _ hR0 hH0 hR2 (by decide) hN2 hb ha hg) rfl rfl rfl (Nat.le_of_ble_eq_true rfl) hR ft_X11_sumsTo_X11_costFrom ⟨rfl, rfl⟩ ?_
                rintro r μ2 ⟨hF2, rfl⟩
                have hSm2 := hSm.fm hF2 (by decide)
                have ec : costH R H b a g = hnd R H (rPr R g) a b := rfl
                rw [ec]
                have fin : ∀ v : Nat, v = min (min (w1 a) (w1 b + hnd R H (rPr R g) a b)) 9999 → Zm G X cX11_sumsTo RX11 μ2 160 [some (.ref (qB G + 140)), some (.int (nI f)), some (.int (nI g)), some (.int (nI rd)), some (.int (nI a)), some (.int (nI b)), some (.int (nI (min (w1 b) 9999 + hnd R H (rPr R g) a b)))] [.int (nI v), .int (nI a), .ref (qB G + 150)] := by
                  intro v hv
                  refine m_iastN iX11_sumsTo_160 rfl (by omega) ?_
                  refine next _ _ (Or.inr ⟨_, rfl⟩) ((hF.trans (hF2.mono (by decide) (fun _ z => z))).mw _ _ (by decide) (by decide)) ?_
                  rw [er]
                  intro k hk
                  unfold updN
                  by_cases z : k = a
                  · rw [z, mw_same, if_pos rfl, hv]
                  · rw [mw_ne _ _ (Or.inr z), if_neg z]; exact hSm2 k hk
                rcases hoo with rfl | ⟨w9, rfl⟩
                all_goals {
                refine z_iaddN iX11_sumsTo_127 ?_
                refine z_istore_6 iX11_sumsTo_128 rfl ?_
                refine z_aload_0 iX11_sumsTo_130 ?_
                refine m_getR iX11_sumsTo_131 g_11_37 rfl ?_
                refine z_iload_4 iX11_sumsTo_134 ?_
                refine z_iload_6 iX11_sumsTo_136 ?_
                refine z_aload_0 iX11_sumsTo_138 ?_
                refine m_getR iX11_sumsTo_139 g_11_37 rfl ?_
                refine z_iload_4 iX11_sumsTo_142 ?_
                refine m_ialdN iX11_sumsTo_144 rfl (by omega) ?_
                refine z_top (hSm2 a ha) ?_
                refine z_icmp_geN iX11_sumsTo_145 (by omega) (by omega) (fun q5 => ?_) (fun q5 => ?_)
                · refine z_aload_0 iX11_sumsTo_153 ?_
                  refine m_getR iX11_sumsTo_154 g_11_37 rfl ?_
                  refine z_iload_4 iX11_sumsTo_157 ?_
                  refine m_ialdN iX11_sumsTo_159 rfl (by omega) ?_
                  refine z_top (hSm2 a ha) ?_
                  exact fin _ (by omega)
                · refine z_iload_6 iX11_sumsTo_148 ?_
                  refine z_goto iX11_sumsTo_150 ?_
                  exact fin _ (by omega) }
  have loopA : ∀ (n a t rd : Nat) (w : Nat → Nat) (v5 o : Option Value) (μ' : Mem), n + a = rFc R → rd < 1000 → (v5 = none ∨ ∃ w, v5 = some (.int w)) → (o = none ∨ ∃ w, o = some (.int w)) → fb t w → t + 36 ≤ 250 → Fm [150] kB μ μ' → SumAt μ' (rFc R) (rA (hnd R H (rPr R g)) (hOw H g) (rFc R) w a) → (∀ (v5 o' : Option Value) (μ'' : Mem), (v5 = none ∨ ∃ w, v5 = some (.int w)) → (o' = none ∨ ∃ w, o' = some (.int w)) → Fm [150] kB μ μ'' → SumAt μ'' (rFc R) (rA (hnd R H (rPr R g)) (hOw H g) (rFc R) w (rFc R)) → Zm G X cX11_sumsTo RX11 μ'' 173 [some (.ref (qB G + 140)), some (.int (nI f)), some (.int (nI g)), some (.int (nI rd)), some (.int (nI (rFc R))), v5, o'] []) → Zm G X cX11_sumsTo RX11 μ' 47 [some (.ref (qB G + 140)), some (.int (nI f)), some (.int (nI g)), some (.int (nI rd)), some (.int (nI a)), v5, o] [] := by
    intro n
    induction n with
    | zero =>
      intro a t rd w v5 o μ' hn hrd hv5 hoo hfb ht hF hSm kk
      rw [show a = rFc R by omega] at hSm ⊢
      have hR2 := hR1.fm hF (by decide) (by decide)
      refine z_iload_4 iX11_sumsTo_47 ?_
      refine z_aload_0 iX11_sumsTo_49 ?_
      refine m_getI iX11_sumsTo_50 g_11_99 rfl ?_
      refine z_top (hR2.1) ?_
      refine z_icmp_geN iX11_sumsTo_53 (by omega) (by omega) (fun q => ?_) (fun q => ?_)
      · exact kk v5 o μ' hv5 hoo hF hSm
      · omega
    | succ n ih =>
      intro a t rd w v5 o μ' hn hrd hv5 hoo hfb ht hF hSm kk
      have hR2 := hR1.fm hF (by decide) (by decide)
      have hfa := hfb.rA (ow := hOw H g) (fc := rFc R) hc a
      have hm := mul6 (a := rFc R) (b := a + 1) (by omega) (by omega)
      rw [Nat.mul_add, Nat.mul_one] at hm
      refine z_iload_4 iX11_sumsTo_47 ?_
      refine z_aload_0 iX11_sumsTo_49 ?_
      refine m_getI iX11_sumsTo_50 g_11_99 rfl ?_
      refine z_top (hR2.1) ?_
      refine z_icmp_geN iX11_sumsTo_53 (by omega) (by omega) (fun q => ?_) (fun q => ?_)
      · omega
      · rcases hv5 with rfl | ⟨w5, rfl⟩
        all_goals {
        refine z_iconst iX11_sumsTo_56 kI_0 ?_
        refine z_istore_5 iX11_sumsTo_57 rfl ?_
        refine loopB (rFc R) 0 _ a rd _ o μ' (by omega) (by omega) hrd hoo hfa (by omega) hF hSm (fun o' μ'' ho' hF' hS' => ?_)
        rcases ho' with rfl | ⟨w6, rfl⟩
        · refine z_iinc_4N iX11_sumsTo_167 rfl ?_
          refine z_goto iX11_sumsTo_170 ?_
          exact ih (a + 1) t rd w _ _ μ'' (by omega) hrd (Or.inr ⟨_, rfl⟩) (Or.inl rfl) hfb ht hF' hS' kk
        · refine z_iinc_4N iX11_sumsTo_167 rfl ?_
          refine z_goto iX11_sumsTo_170 ?_
          exact ih (a + 1) t rd w _ _ μ'' (by omega) hrd (Or.inr ⟨_, rfl⟩) (Or.inr ⟨_, rfl⟩) hfb ht hF' hS' kk }
  have loopR : ∀ (n rd : Nat) (v4 v5 o : Option Value) (μ' : Mem), n + rd = rFc R → (v4 = none ∨ ∃ w, v4 = some (.int w)) → (v5 = none ∨ ∃ w, v5 = some (.int w)) → (o = none ∨ ∃ w, o = some (.int w)) → Fm [150] kB μ μ' → SumAt μ' (rFc R) (rR (hnd R H (rPr R g)) (hOw H g) (rFc R) (updN (fun _ => 1000000) f 0) rd) → Zm G X cX11_sumsTo RX11 μ' 36 [some (.ref (qB G + 140)), some (.int (nI f)), some (.int (nI g)), some (.int (nI rd)), v4, v5, o] [] := by
    intro n
    induction n with
    | zero =>
      intro rd v4 v5 o μ' hn hv4 hv5 hoo hF hSm
      rw [show rd = rFc R by omega] at hSm ⊢
      have hR2 := hR1.fm hF (by decide) (by decide)
      refine z_iload_3 iX11_sumsTo_36 ?_
      refine z_aload_0 iX11_sumsTo_37 ?_
      refine m_getI iX11_sumsTo_38 g_11_99 rfl ?_
      refine z_top (hR2.1) ?_
      refine z_icmp_geN iX11_sumsTo_41 (by omega) (by omega) (fun q => ?_) (fun q => ?_)
      · exact m_vret hE iX11_sumsTo_179 ⟨hF, hSm⟩
      · omega
    | succ n ih =>
      intro rd v4 v5 o μ' hn hv4 hv5 hoo hF hSm
      have hR2 := hR1.fm hF (by decide) (by decide)
      have hfr := (fb.far f).rR (ow := hOw H g) (fc := rFc R) hc rd
      have hm := mul6 (a := rFc R) (b := rFc R) h6 h6
      have hm2 : rFc R * rFc R * rd ≤ 36 * 5 := Nat.mul_le_mul hm (by omega)
      refine z_iload_3 iX11_sumsTo_36 ?_
      refine z_aload_0 iX11_sumsTo_37 ?_
      refine m_getI iX11_sumsTo_38 g_11_99 rfl ?_
      refine z_top (hR2.1) ?_
      refine z_icmp_geN iX11_sumsTo_41 (by omega) (by omega) (fun q => ?_) (fun q => ?_)
      · omega
      · rcases hv4 with rfl | ⟨w4, rfl⟩
        all_goals {
        refine z_iconst iX11_sumsTo_44 kI_0 ?_
        refine z_istore_4 iX11_sumsTo_45 rfl ?_
        refine loopA (rFc R) 0 _ rd _ v5 o μ' (by omega) (by omega) hv5 hoo hfr (by omega) hF hSm (fun v5' o' μ'' h5' ho' hF' hS' => ?_)
        refine z_iinc_3N iX11_sumsTo_173 rfl ?_
        refine z_goto iX11_sumsTo_176 ?_
        exact ih (rd + 1) _ _ _ μ'' (by omega) (Or.inr ⟨_, rfl⟩) h5' ho' hF' hS' }
  have loop0 : ∀ (n k : Nat) (μ' : Mem), n + k = rFc R → Fm [150] kB μ μ' → (∀ j, j < k → μ'.1 150 j = nI (min (updN (fun _ => 1000000) f 0 j) 9999)) → Zm G X cX11_sumsTo RX11 μ' 2 [some (.ref (qB G + 140)), some (.int (nI f)), some (.int (nI g)), some (.int (nI k)), none, none, none] [] := by
    intro n
    induction n with
    | zero =>
      intro k μ' hn hF hz
      have hR2 := hR1.fm hF (by decide) (by decide)
      refine z_iload_3 iX11_sumsTo_2 ?_
      refine z_aload_0 iX11_sumsTo_3 ?_
      refine m_getI iX11_sumsTo_4 g_11_99 rfl ?_
      refine z_top (hR2.1) ?_
      refine z_icmp_geN iX11_sumsTo_7 (by omega) (by omega) (fun q => ?_) (fun q => ?_)
      · refine z_iconst iX11_sumsTo_34 kI_0 ?_
        refine z_istore_3 iX11_sumsTo_35 rfl ?_
        exact loopR (rFc R) 0 none none none μ' (by omega) (Or.inl rfl) (Or.inl rfl) (Or.inl rfl) hF (fun j hj => hz j (by omega))
      · omega
    | succ n ih =>
      intro k μ' hn hF hz
      have hR2 := hR1.fm hF (by decide) (by decide)
      have fin : ∀ v : Nat, v = min (updN (fun _ => 1000000) f 0 k) 9999 → Zm G X cX11_sumsTo RX11 μ' 27 [some (.ref (qB G + 140)), some (.int (nI f)), some (.int (nI g)), some (.int (nI k)), none, none, none] [.int (nI v), .int (nI k), .ref (qB G + 150)] := by
        intro v hv
        refine m_iastN iX11_sumsTo_27 rfl (by omega) ?_
        refine z_iinc_3N iX11_sumsTo_28 rfl ?_
        refine z_goto iX11_sumsTo_31 ?_
        refine ih (k + 1) _ (by omega) (hF.mw _ _ (by decide) (by decide)) (fun j hj => ?_)
        by_cases z : j = k
        · rw [z, mw_same, hv]
        · rw [mw_ne _ _ (Or.inr z)]; exact hz j (by omega)
      refine z_iload_3 iX11_sumsTo_2 ?_
      refine z_aload_0 iX11_sumsTo_3 ?_
      refine m_getI iX11_sumsTo_4 g_11_99 rfl ?_
      refine z_top (hR2.1) ?_
      refine z_icmp_geN iX11_sumsTo_7 (by omega) (by omega) (fun q => ?_) (fun q => ?_)
      · omega
      · refine z_aload_0 iX11_sumsTo_10 ?_
        refine m_getR iX11_sumsTo_11 g_11_37 rfl ?_
        refine z_iload_3 iX11_sumsTo_14 ?_
        refine z_iload_3 iX11_sumsTo_15 ?_
        refine z_iload_1 iX11_sumsTo_16 ?_
        refine z_icmp_neN iX11_sumsTo_17 (by omega) (by omega) (fun q2 => ?_) (fun q2 => ?_)
        · refine z_sipush iX11_sumsTo_24 kS_9999 ?_
          exact fin 9999 (by unfold updN; rw [if_neg q2]; rfl)
        · refine z_iconst iX11_sumsTo_20 kI_0 ?_
          refine z_goto iX11_sumsTo_21 ?_
          exact fin 0 (by unfold updN; rw [if_pos q2]; rfl)
  refine z_iconst iX11_sumsTo_0 kI_0 ?_
  refine z_istore_3 iX11_sumsTo_1 rfl ?_
  exact loop0 (rFc R) 0 μ (by omega) Fm.rf (fun j hj => absurd hj (Nat.not_lt_zero j))

/-! THE REFERENCE: what copies, the row of acts, undone -/
def Cp (a b a0 b0 k : Nat) (μ μ' : Mem) : Prop := (∀ c, c ≠ a → μ'.1 c = μ.1 c) ∧ (∀ j, ¬ (b ≤ j ∧ j < b + k) → μ'.1 a j = μ.1 a j) ∧ (∀ j, j < k → μ'.1 a (b + j) = μ.1 a0 (b0 + j)) ∧ μ'.2 = μ.2
theorem Cp.zero {a b a0 b0 : Nat} {μ : Mem} : Cp a b a0 b0 0 μ μ := ⟨fun _ _ => rfl, fun _ _ => rfl, fun j hj => absurd hj (Nat.not_lt_zero j), rfl⟩
theorem Cp.step {a b a0 b0 k i j : Nat} {μ μ' : Mem} (h : Cp a b a0 b0 k μ μ') (hd : a0 ≠ a ∨ b0 + 18 ≤ b ∨ b + 18 ≤ b0) (hk : k < 18) (hi : i = b + k) (hj : j = b0 + k) : Cp a b a0 b0 (k + 1) μ (mw μ' a i (μ'.1 a0 j)) := by
  subst hi hj
  obtain ⟨h1, h2, h3, h4⟩ := h
  refine ⟨fun c hc => by rw [mw_other _ _ hc]; exact h1 c hc, fun j hj => by rw [mw_ne _ _ (Or.inr (by omega))]; exact h2 j (by omega), fun j hj => ?_, h4⟩
  by_cases e : j = k
  · subst e
    rw [mw_same]
    rcases hd with hd | hd
    · rw [h1 a0 hd]
    · by_cases z : a0 = a
      · subst z
        exact h2 _ (by omega)
      · rw [h1 a0 z]
  · rw [mw_ne _ _ (Or.inr (by omega))]; exact h3 j (by omega)
theorem NowAt.cp {a b a0 b0 : Nat} {μ μ' : Mem} {R : Rl} {H : Hd} (h : NowAt μ a0 b0 R H) (hR : RlOK R) (hC : Cp a b a0 b0 18 μ μ') : NowAt μ' a b R H := by
  have h5 := hR.2.1
  have k := hC.2.2.1
  refine ⟨fun g hg => by rw [k g (by omega)]; exact h.1 g hg, fun f hf => ?_, fun f hf => ?_, ?_⟩
  · rw [Nat.add_assoc, k (5 + f) (by omega), ← Nat.add_assoc]; exact h.2.1 f hf
  · rw [Nat.add_assoc, k (11 + f) (by omega), ← Nat.add_assoc]; exact h.2.2.1 f hf
  · rw [k 17 (by omega)]; exact h.2.2.2
theorem Cp.fm {a b a0 b0 k : Nat} {μ μ' : Mem} (h : Cp a b a0 b0 k μ μ') (ha : a ≠ 140) : Fm [a] [] μ μ' := ⟨fun c hc _ => h.1 c (fun z => hc (by rw [z]; exact List.mem_singleton.mpr rfl)), fun k _ => by rw [h.1 140 (fun z => ha z.symm)], h.2.2.2⟩
theorem c_X11_keepAct (G : qG) (l : Launch) {μ : Mem} {R : Rl} {n : Nat} {A : Nat → Hd} {H : Hd} (hR0 : RlOK R) (hn : n ≤ 14) (hA : MActs μ R n A) (hH1 : NowAt μ 145 0 R H) : CtrV G l M_X11_keepAct [.ref (qB G + 140)] μ (fun μ' => Fm [149] [20, 21] μ μ' ∧ MActs μ' R (pushN n) (pushA n A H)) := by
  refine m_enterV [some (.ref (qB G + 140)), none] (by decide +kernel) rfl (Nat.le_of_ble_eq_true rfl) rfl (fun X hE hR => ?_)
  have hR : qR X = rm_X11_keepAct := hR
  show Zm G X cX11_keepAct RX11 _ 0 [some (.ref (qB G + 140)), none] []
  obtain ⟨a1, nx, a2, a3, a4⟩ := hA
  have fin : ∀ μ' : Mem, Cp 149 (18 * nx) 145 0 18 μ μ' → Zm G X cX11_keepAct RX11 μ' 34 [some (.ref (qB G + 140)), some (.int (nI 18))] [] := by
    intro μ' hC
    have hF := hC.fm (by decide)
    have b3 : μ'.1 140 21 = nI nx := by rw [hF.2.1 21 (by decide)]; exact a3
    have b1 : μ'.1 140 20 = nI n := by rw [hF.2.1 20 (by decide)]; exact a1
    have b1' : (mw μ' 140 21 (nI ((nx + 1) % 14))).1 140 20 = nI n := by rw [mw_ne _ _ (Or.inr (by decide))]; exact b1
    have post : ∀ n' : Nat, n' = pushN n → Fm [149] [20, 21] μ (mw (mw μ' 140 21 (nI ((nx + 1) % 14))) 140 20 (nI n')) ∧ MActs (mw (mw μ' 140 21 (nI ((nx + 1) % 14))) 140 20 (nI n')) R (pushN n) (pushA n A H) := by
      rintro n' rfl
      refine ⟨((hF.mono (fun _ z => z) (by decide)).put _ _ (by decide)).put _ _ (by decide), mw_same _ _ _ _, (nx + 1) % 14, Nat.mod_lt _ (by decide), by rw [mw_ne _ _ (Or.inr (by decide)), mw_same], fun k hk => ?_⟩
      have er : ∀ b R H, NowAt μ' 149 b R H → NowAt (mw (mw μ' 140 21 (nI ((nx + 1) % 14))) 140 20 (nI (pushN n))) 149 b R H := fun b R H z => z.ms (by rw [mw_other _ _ (by decide), mw_other _ _ (by decide)])
      refine er _ _ _ ?_
      have hnew : NowAt μ' 149 (18 * nx) R H := hH1.cp hR0 hC
      have hold : ∀ b, b < 14 → b ≠ nx → ∀ Hx, NowAt μ 149 (18 * b) R Hx → NowAt μ' 149 (18 * b) R Hx := fun b hb hne Hx z => z.row hR0 (fun k h1 h2 => hC.2.1 k (by omega))
      unfold pushN at hk ⊢
      unfold pushA
      by_cases z : n < 14
      · rw [if_pos z] at hk ⊢
        rw [if_pos z]
        by_cases e : k = n
        · rw [if_pos e, show ((nx + 1) % 14 + 14 - (n + 1) + k) % 14 = nx by omega]
          exact hnew
        · rw [if_neg e, show ((nx + 1) % 14 + 14 - (n + 1) + k) % 14 = (nx + 14 - n + k) % 14 by omega]
          exact hold _ (by omega) (by omega) _ (a4 k (by omega))
      · rw [if_neg z] at hk ⊢
        rw [if_neg z]
        by_cases e : k = 13
        · rw [if_pos e, show ((nx + 1) % 14 + 14 - 14 + k) % 14 = nx by omega]
          exact hnew
        · rw [if_neg e, show ((nx + 1) % 14 + 14 - 14 + k) % 14 = (nx + 14 - n + (k + 1)) % 14 by omega]
          exact hold _ (by omega) (by omega) _ (a4 (k + 1) (by omega))
    refine z_aload_0 iX11_keepAct_34 ?_
    refine z_aload_0 iX11_keepAct_35 ?_
    refine m_getI iX11_keepAct_36 g_11_171 rfl ?_
    refine z_top (b3) ?_
    refine z_iconst iX11_keepAct_39 kI_1 ?_
    refine z_iaddN iX11_keepAct_40 ?_
    refine z_bipush iX11_keepAct_41 kB_14 ?_
    refine z_iremN iX11_keepAct_43 (by omega) (by omega) (by omega) ?_
    refine m_putI iX11_keepAct_44 p_11_171 rfl ?_
    refine z_aload_0 iX11_keepAct_47 ?_
    refine z_aload_0 iX11_keepAct_48 ?_
    refine m_getI iX11_keepAct_49 g_11_105 rfl ?_
    refine z_top (b1') ?_
    refine z_bipush iX11_keepAct_52 kB_14 ?_
    refine z_icmp_geN iX11_keepAct_54 (by omega) (by omega) (fun q => ?_) (fun q => ?_)
    · refine z_bipush iX11_keepAct_66 kB_14 ?_
      refine m_putI iX11_keepAct_68 p_11_105 rfl ?_
      exact m_vret hE iX11_keepAct_71 (post 14 (by unfold pushN; rw [if_neg (by omega)]))
    · refine z_aload_0 iX11_keepAct_57 ?_
      refine m_getI iX11_keepAct_58 g_11_105 rfl ?_
      refine z_top (b1') ?_
      refine z_iconst iX11_keepAct_61 kI_1 ?_
      refine z_iaddN iX11_keepAct_62 ?_
      refine z_goto iX11_keepAct_63 ?_
      refine m_putI iX11_keepAct_68 p_11_105 rfl ?_
      exact m_vret hE iX11_keepAct_71 (post (n + 1) (by unfold pushN; rw [if_pos (by omega)]))
  have loop : ∀ (m k : Nat) (μ' : Mem), m + k = 18 → Cp 149 (18 * nx) 145 0 k μ μ' → Zm G X cX11_keepAct RX11 μ' 2 [some (.ref (qB G + 140)), some (.int (nI k))] [] := by
    intro m
    induction m with
    | zero =>
      intro k μ' hk hC
      rw [show k = 18 by omega] at hC ⊢
      refine z_iload_1 iX11_keepAct_2 ?_
      refine z_bipush iX11_keepAct_3 kB_18 ?_
      refine z_icmp_geN iX11_keepAct_5 (by omega) (by omega) (fun q => ?_) (fun q => ?_)
      · exact fin μ' hC
      · omega
    | succ m ih =>
      intro k μ' hk hC
      have b3 : μ'.1 140 21 = nI nx := by rw [hC.1 140 (by decide)]; exact a3
      refine z_iload_1 iX11_keepAct_2 ?_
      refine z_bipush iX11_keepAct_3 kB_18 ?_
      refine z_icmp_geN iX11_keepAct_5 (by omega) (by omega) (fun q => ?_) (fun q => ?_)
      · omega
      · refine z_aload_0 iX11_keepAct_8 ?_
        refine m_getR iX11_keepAct_9 g_11_34 rfl ?_
        refine z_bipush iX11_keepAct_12 kB_18 ?_
        refine z_aload_0 iX11_keepAct_14 ?_
        refine m_getI iX11_keepAct_15 g_11_171 rfl ?_
        refine z_top (b3) ?_
        refine z_imulN iX11_keepAct_18 ?_
        refine z_iload_1 iX11_keepAct_19 ?_
        refine z_iaddN iX11_keepAct_20 ?_
        refine z_aload_0 iX11_keepAct_21 ?_
        refine m_getR iX11_keepAct_22 g_11_22 rfl ?_
        refine z_iload_1 iX11_keepAct_25 ?_
        refine m_ialdN iX11_keepAct_26 rfl (by omega) ?_
        refine m_iastN iX11_keepAct_27 rfl (by omega) ?_
        refine z_iinc_1N iX11_keepAct_28 rfl ?_
        refine z_goto iX11_keepAct_31 ?_
        exact ih (k + 1) _ (by omega) (hC.step (Or.inl (by decide)) (by omega) rfl (by omega))
  refine z_iconst iX11_keepAct_0 kI_0 ?_
  refine z_istore_1 iX11_keepAct_1 rfl ?_
  exact loop 18 0 μ (by decide) Cp.zero
theorem MAt.acted {μ μ1 μ2 : Mem} {S : St} {H' : Hd} {n : Nat} {A : Nat → Hd} {L K : List Nat} (h : MAt μ S) (hS : SOK S) (hF1 : Fm [149] [20, 21] μ μ1) (hA : MActs μ1 (sR S) n A) (hF2 : NF 0 μ1 μ2) (hN : NowAt μ2 145 0 (sR S) H') : MAt μ2 (setHA S H' n A) ∧ CSame μ μ2 := by
  obtain ⟨h1, h2, h3, h4, h5, h6, h7, h8⟩ := h
  have hR := hS.2.2.1
  have hF : Fm [145, 149] [15, 16, 17, 18, 19, 20, 21] μ μ2 := (hF1.mono (by decide) (by decide)).trans (hF2.1.mono (by decide) (by decide))
  exact ⟨⟨h1.fm hF (by decide) (by decide), hN, h3.fm hF (by decide) (by decide), hA.fm hR hF2.1 (by decide) (by decide) (by decide), h5.fm hR hF (by decide) (by decide), h6.fm hF (by decide) (by decide) (by decide), by rw [hF.2.2]; exact h7, by rw [hF.1 141 (by decide) (by decide)]; exact h8⟩, hF.cs (by decide)⟩
theorem aMeet_in {S : St} {f g : Nat} (hS : SOK S) (hf : f < rFc (sR S)) (hg : g < rGc (sR S)) : aMeet S (nI f) (nI g) = if hOw (sH S) g = f then (-3, S) else (nI (hOw (meetH (sR S) (sH S) f g) g), setHA S (meetH (sR S) (sH S) f g) (pushN (sN S)) (pushA (sN S) (sA S) (sH S))) := by
  have h6 := hS.2.2.1.1
  have h5 := hS.2.2.1.2.1
  unfold aMeet
  rw [idx_some (by omega) hf, idx_some (by omega) hg]
theorem c_X11_meet (G : qG) (l : Launch) {μ : Mem} {S : St} (h : MAt μ S) (hS : SOK S) (x y : Int32) : CtrI G l M_X11_meet [.ref (qB G + 140), .int x, .int y] μ (PM μ (aMeet S x y)) := by
  refine m_enterI [some (.ref (qB G + 140)), some (.int x), some (.int y)] (by decide +kernel) rfl (Nat.le_of_ble_eq_true rfl) (fun X hE hR => ?_)
  have hR : qR X = rm_X11_meet := hR
  have hE : EI G X _ (some .int) := hE
  show Zm G X cX11_meet RX11 _ 0 [some (.ref (qB G + 140)), some (.int x), some (.int y)] []
  obtain ⟨h1, h2, h3, h4, h5, h6, h7, h8⟩ := id h
  have hQ := hS.2.2.1
  have n6 := hQ.1
  have n5 := hQ.2.1
  have no : (idx x (rFc (sR S)) = none ∨ idx y (rGc (sR S)) = none) → Zm G X cX11_meet RX11 μ 16 [some (.ref (qB G + 140)), some (.int x), some (.int y)] [] := by
    intro hn
    refine z_iconst (x := -1) iX11_meet_16 (by decide) ?_
    exact m_iret hE iX11_meet_17 (PM.rf h (aMeet_no hn))
  refine z_aload_0 iX11_meet_0 ?_
  refine z_iload_1 iX11_meet_1 ?_
  refine m_callVi iX11_meet_2 l_11_153 f_X11_isFencer (c_X11_isFencer G _ h1.1 (by omega) x) rfl rfl rfl (Nat.le_of_ble_eq_true rfl) hR ft_X11_meet_X11_isFencer ⟨rfl, rfl⟩ ?_
  rintro r μ1 ⟨rfl, ⟨rfl, f, hf, rfl⟩ | ⟨rfl, hn⟩⟩
  · refine z_if_eq iX11_meet_5 (fun q => ?_) (fun q => ?_)
    · exact absurd q nI10
    · refine z_aload_0 iX11_meet_8 ?_
      refine z_iload_2 iX11_meet_9 ?_
      refine m_callVi iX11_meet_10 l_11_163 f_X11_isGood (c_X11_isGood G _ h1.2.1 (by omega) y) rfl rfl rfl (Nat.le_of_ble_eq_true rfl) hR ft_X11_meet_X11_isGood ⟨rfl, rfl⟩ ?_
      rintro r μ2 ⟨rfl, ⟨rfl, g, hg, rfl⟩ | ⟨rfl, hn⟩⟩
      · have e := aMeet_in hS hf hg
        have ho := hS.2.2.2.1.1 g hg
        refine z_if_ne iX11_meet_13 (fun q => ?_) (fun q => ?_)
        · refine z_aload_0 iX11_meet_18 ?_
          refine m_getR iX11_meet_19 g_11_22 rfl ?_
          refine z_iload_2 iX11_meet_22 ?_
          refine m_ialdN iX11_meet_23 rfl (by omega) ?_
          refine z_top (h2.ow0 hg) ?_
          refine z_iload_1 iX11_meet_24 ?_
          refine z_icmp_neN iX11_meet_25 (by omega) (by omega) (fun q1 => ?_) (fun q1 => ?_)
          · rw [e, if_neg q1] at hE
            refine z_aload_0 iX11_meet_31 ?_
            refine m_callVv iX11_meet_32 l_11_181 f_X11_keepAct (c_X11_keepAct G _ hQ hS.2.2.2.2.1 h4 h2) rfl rfl rfl (Nat.le_of_ble_eq_true rfl) hR ft_X11_meet_X11_keepAct ⟨rfl, rfl⟩ ?_
            rintro μ3 ⟨hF3, hA3⟩
            refine z_aload_0 iX11_meet_35 ?_
            refine z_iconst iX11_meet_36 kI_0 ?_
            refine z_iload_1 iX11_meet_37 ?_
            refine z_iload_2 iX11_meet_38 ?_
            refine m_callVi iX11_meet_39 l_11_184 f_X11_meetOn (c_X11_meetOn (lv := 0) G _ hQ hS.2.2.2.1 (h1.fm hF3 (by decide) (by decide)) (by decide) (h2.fm hQ hF3 (by decide) (by decide)) hf hg) rfl rfl rfl (Nat.le_of_ble_eq_true rfl) hR ft_X11_meet_X11_meetOn ⟨rfl, rfl⟩ ?_
            rintro r μ4 ⟨hF4, hN4, -⟩
            refine z_pop iX11_meet_42 rfl ?_
            refine z_aload_0 iX11_meet_43 ?_
            refine m_getR iX11_meet_44 g_11_22 rfl ?_
            refine z_iload_2 iX11_meet_47 ?_
            refine m_ialdN iX11_meet_48 rfl (by omega) ?_
            refine z_top (hN4.ow0 hg) ?_
            exact m_iret hE iX11_meet_49 ⟨rfl, (h.acted (L := []) (K := []) hS hF3 hA3 hF4 hN4).1, (h.acted (L := []) (K := []) hS hF3 hA3 hF4 hN4).2⟩
          · refine z_bipush (x := -3) iX11_meet_28 (by decide) ?_
            exact m_iret hE iX11_meet_30 (PM.rf h (by rw [e, if_pos q1]))
        · exact absurd q nI10
      · refine z_if_ne iX11_meet_13 (fun q => ?_) (fun q => ?_)
        · exact absurd nI00 q
        · exact no (Or.inr (idx_none hn))
  · refine z_if_eq iX11_meet_5 (fun q => ?_) (fun q => ?_)
    · exact no (Or.inl (idx_none hn))
    · exact absurd nI00 q
theorem c_X11_step (G : qG) (l : Launch) {μ : Mem} {S : St} (h : MAt μ S) (hS : SOK S) (x : Int32) : CtrI G l M_X11_step [.ref (qB G + 140), .int x] μ (PM μ (aStep S x)) := by
  refine m_enterI [some (.ref (qB G + 140)), some (.int x)] (by decide +kernel) rfl (Nat.le_of_ble_eq_true rfl) (fun X hE hR => ?_)
  have hR : qR X = rm_X11_step := hR
  have hE : EI G X _ (some .int) := hE
  show Zm G X cX11_step RX11 _ 0 [some (.ref (qB G + 140)), some (.int x)] []
  obtain ⟨h1, h2, h3, h4, h5, h6, h7, h8⟩ := id h
  have hQ := hS.2.2.1
  have n6 := hQ.1
  refine z_aload_0 iX11_step_0 ?_
  refine z_iload_1 iX11_step_1 ?_
  refine m_callVi iX11_step_2 l_11_153 f_X11_isFencer (c_X11_isFencer G _ h1.1 (by omega) x) rfl rfl rfl (Nat.le_of_ble_eq_true rfl) hR ft_X11_step_X11_isFencer ⟨rfl, rfl⟩ ?_
  rintro r μ1 ⟨rfl, ⟨rfl, f, hf, rfl⟩ | ⟨rfl, hn⟩⟩
  · refine z_if_ne iX11_step_5 (fun q => ?_) (fun q => ?_)
    · have e : aStep S (nI f) = (nI (hFe (stepH (sR S) (sH S) f) f), setHA S (stepH (sR S) (sH S) f) (pushN (sN S)) (pushA (sN S) (sA S) (sH S))) := by unfold aStep; rw [idx_some (by omega) hf]
      rw [e] at hE
      refine z_aload_0 iX11_step_10 ?_
      refine m_callVv iX11_step_11 l_11_181 f_X11_keepAct (c_X11_keepAct G _ hQ hS.2.2.2.2.1 h4 h2) rfl rfl rfl (Nat.le_of_ble_eq_true rfl) hR ft_X11_step_X11_keepAct ⟨rfl, rfl⟩ ?_
      rintro μ3 ⟨hF3, hA3⟩
      refine z_aload_0 iX11_step_14 ?_
      refine z_iconst iX11_step_15 kI_0 ?_
      refine z_iload_1 iX11_step_16 ?_
      refine m_callVv iX11_step_17 l_11_177 f_X11_stepOn (c_X11_stepOn (lv := 0) G _ hQ hS.2.2.2.1 (h1.fm hF3 (by decide) (by decide)) (by decide) (h2.fm hQ hF3 (by decide) (by decide)) hf) rfl rfl rfl (Nat.le_of_ble_eq_true rfl) hR ft_X11_step_X11_stepOn ⟨rfl, rfl⟩ ?_
      rintro μ4 ⟨hF4, hN4⟩
      refine z_aload_0 iX11_step_20 ?_
      refine m_getR iX11_step_21 g_11_22 rfl ?_
      refine z_bipush iX11_step_24 kB_11 ?_
      refine z_iload_1 iX11_step_26 ?_
      refine z_iaddN iX11_step_27 ?_
      refine m_ialdN iX11_step_28 rfl (by omega) ?_
      refine z_top (hN4.fe0 (by omega)) ?_
      exact m_iret hE iX11_step_29 ⟨rfl, (h.acted (L := []) (K := []) hS hF3 hA3 hF4 hN4).1, (h.acted (L := []) (K := []) hS hF3 hA3 hF4 hN4).2⟩
    · exact absurd q nI10
  · refine z_if_ne iX11_step_5 (fun q => ?_) (fun q => ?_)
    · exact absurd nI00 q
    · refine z_iconst (x := -1) iX11_step_8 (by decide) ?_
      exact m_iret hE iX11_step_9 (PM.rf h (by unfold aStep; rw [idx_none hn]))
theorem c_X11_salute (G : qG) (l : Launch) {μ : Mem} {S : St} (h : MAt μ S) (hS : SOK S) (x y : Int32) : CtrI G l M_X11_salute [.ref (qB G + 140), .int x, .int y] μ (PM μ (aSalute S x y)) := by
  refine m_enterI [some (.ref (qB G + 140)), some (.int x), some (.int y)] (by decide +kernel) rfl (Nat.le_of_ble_eq_true rfl) (fun X hE hR => ?_)
  have hR : qR X = rm_X11_salute := hR
  have hE : EI G X _ (some .int) := hE
  show Zm G X cX11_salute RX11 _ 0 [some (.ref (qB G + 140)), some (.int x), some (.int y)] []
  obtain ⟨h1, h2, h3, h4, h5, h6, h7, h8⟩ := id h
  have hQ := hS.2.2.1
  have n6 := hQ.1
  refine z_aload_0 iX11_salute_0 ?_
  refine z_iload_1 iX11_salute_1 ?_
  refine m_callVi iX11_salute_2 l_11_153 f_X11_isFencer (c_X11_isFencer G _ h1.1 (by omega) x) rfl rfl rfl (Nat.le_of_ble_eq_true rfl) hR ft_X11_salute_X11_isFencer ⟨rfl, rfl⟩ ?_
  rintro r μ1 ⟨rfl, ⟨rfl, f, hf, rfl⟩ | ⟨rfl, hn⟩⟩
  · refine z_if_ne iX11_salute_5 (fun q => ?_) (fun q => ?_)
    · have out : (idx y 10 = none ∨ idx y 10 = some 0) → Zm G X cX11_salute RX11 μ1 22 [some (.ref (qB G + 140)), some (.int (nI f)), some (.int y)] [] := by
        intro z
        refine z_bipush (x := -2) iX11_salute_22 (by decide) ?_
        exact m_iret hE iX11_salute_24 (PM.rf h (by unfold aSalute; rw [idx_some (by omega) hf]; rcases z with z | z <;> rw [z]))
      refine z_iload_2 iX11_salute_10 ?_
      refine z_i2l iX11_salute_11 ?_
      refine z_lconst (x := 1) iX11_salute_12 rfl ?_
      refine z_ldc2 iX11_salute_13 k_11_187 ?_
      refine m_callSi iX11_salute_16 l_11_61 f_X11_in (c_inI G _ y (y := 1) (z := 9) (a := 1) (b := 9) rfl rfl) rfl rfl (Nat.le_of_ble_eq_true rfl) hR ft_X11_salute_X11_in ⟨rfl, rfl⟩ ?_
      rintro r μ3 ⟨rfl, hr⟩
      rcases q_cases y 10 (by decide) with ⟨k, hk, rfl, ei⟩ | ⟨ei, hx, -⟩
      · rw [nI_toInt (by omega)] at hr
        rcases hr with ⟨rfl, hr⟩ | ⟨rfl, hr⟩
        · refine z_if_ne iX11_salute_19 (fun q2 => ?_) (fun q2 => ?_)
          · obtain ⟨k, rfl⟩ : ∃ n, k = n + 1 := ⟨k - 1, by omega⟩
            have e : aSalute S (nI f) (nI (k + 1)) = (nI (hPu (fillH (sH S) f (k + 1)) f), setHA S (fillH (sH S) f (k + 1)) (pushN (sN S)) (pushA (sN S) (sA S) (sH S))) := by unfold aSalute; rw [idx_some (by omega) hf, ei]
            rw [e] at hE
            refine z_aload_0 iX11_salute_25 ?_
            refine m_callVv iX11_salute_26 l_11_181 f_X11_keepAct (c_X11_keepAct G _ hQ hS.2.2.2.2.1 h4 h2) rfl rfl rfl (Nat.le_of_ble_eq_true rfl) hR ft_X11_salute_X11_keepAct ⟨rfl, rfl⟩ ?_
            rintro μ4 ⟨hF3, hA3⟩
            refine z_aload_0 iX11_salute_29 ?_
            refine z_iconst iX11_salute_30 kI_0 ?_
            refine z_iload_1 iX11_salute_31 ?_
            refine z_iload_2 iX11_salute_32 ?_
            refine m_callVv iX11_salute_33 l_11_174 f_X11_giveOn (c_X11_giveOn (lv := 0) G _ hQ (hS.2.2.2.1.2.1 f (by omega)).1 (by decide) (h2.fm hQ hF3 (by decide) (by decide)) hf (by omega)) rfl rfl rfl (Nat.le_of_ble_eq_true rfl) hR ft_X11_salute_X11_giveOn ⟨rfl, rfl⟩ ?_
            rintro μ5 ⟨hF4, hN4⟩
            refine z_aload_0 iX11_salute_36 ?_
            refine m_getR iX11_salute_37 g_11_22 rfl ?_
            refine z_iconst iX11_salute_40 kI_5 ?_
            refine z_iload_1 iX11_salute_41 ?_
            refine z_iaddN iX11_salute_42 ?_
            refine m_ialdN iX11_salute_43 rfl (by omega) ?_
            refine z_top (hN4.pu0 (by omega)) ?_
            exact m_iret hE iX11_salute_44 ⟨rfl, (h.acted (L := []) (K := []) hS hF3 hA3 hF4 hN4).1, (h.acted (L := []) (K := []) hS hF3 hA3 hF4 hN4).2⟩
          · exact absurd q2 nI10
        · refine z_if_ne iX11_salute_19 (fun q2 => ?_) (fun q2 => ?_)
          · exact absurd nI00 q2
          · exact out (Or.inr (by rw [ei, show k = 0 by omega]))
      · rcases hr with ⟨rfl, hr⟩ | ⟨rfl, hr⟩
        · omega
        · refine z_if_ne iX11_salute_19 (fun q2 => ?_) (fun q2 => ?_)
          · exact absurd nI00 q2
          · exact out (Or.inl ei)
    · exact absurd q nI10
  · refine z_if_ne iX11_salute_5 (fun q => ?_) (fun q => ?_)
    · exact absurd nI00 q
    · refine z_iconst (x := -1) iX11_salute_8 (by decide) ?_
      exact m_iret hE iX11_salute_9 (PM.rf h (by unfold aSalute; rw [idx_none hn]))
theorem NF.cp {μ μ' : Mem} {a0 b0 : Nat} (h : Cp 145 0 a0 b0 18 μ μ') : NF 0 μ μ' := ⟨(h.fm (by decide)).mono (by decide) (by decide), fun k hk => h.2.1 k (by omega)⟩
theorem aUndo_succ {S : St} {n : Nat} (e : sN S = n + 1) : aUndo S = (nI n, setHA S (sA S n) n (sA S)) := by unfold aUndo; rw [e]
theorem c_X11_undo (G : qG) (l : Launch) {μ : Mem} {S : St} (h : MAt μ S) (hS : SOK S) : CtrI G l M_X11_undo [.ref (qB G + 140)] μ (PM μ (aUndo S)) := by
  refine m_enterI [some (.ref (qB G + 140)), none] (by decide +kernel) rfl (Nat.le_of_ble_eq_true rfl) (fun X hE hR => ?_)
  have hR : qR X = rm_X11_undo := hR
  have hE : EI G X _ (some .int) := hE
  show Zm G X cX11_undo RX11 _ 0 [some (.ref (qB G + 140)), none] []
  obtain ⟨h1, h2, h3, ⟨a1, nx, a2, a3, a4⟩, h5, h6, h7, h8⟩ := id h
  have hQ := hS.2.2.1
  have n14 := hS.2.2.2.2.1
  refine z_aload_0 iX11_undo_0 ?_
  refine m_getI iX11_undo_1 g_11_105 rfl ?_
  refine z_top (a1) ?_
  refine z_if_neN iX11_undo_4 (by omega) (fun q => ?_) (fun q => ?_)
  · obtain ⟨n, en⟩ : ∃ n, sN S = n + 1 := ⟨sN S - 1, by omega⟩
    rw [aUndo_succ en] at hE
    rw [en] at a1 a4 n14
    have k1 : (mw μ 140 20 (nI n)).1 140 21 = nI nx := by rw [mw_ne _ _ (Or.inr (by decide))]; exact a3
    refine z_aload_0 iX11_undo_10 ?_
    refine z_dup iX11_undo_11 rfl ?_
    refine m_getI iX11_undo_12 g_11_105 rfl ?_
    refine z_top (a1) ?_
    refine z_iconst iX11_undo_15 kI_1 ?_
    refine z_isubN iX11_undo_16 (by omega) ?_
    refine z_top (show nI (n + 1 - 1) = nI n from rfl) ?_
    refine m_putI iX11_undo_17 p_11_105 rfl ?_
    refine z_aload_0 iX11_undo_20 ?_
    refine z_aload_0 iX11_undo_21 ?_
    refine m_getI iX11_undo_22 g_11_171 rfl ?_
    refine z_top (k1) ?_
    refine z_bipush iX11_undo_25 kB_13 ?_
    refine z_iaddN iX11_undo_27 ?_
    refine z_bipush iX11_undo_28 kB_14 ?_
    refine z_iremN iX11_undo_30 (by omega) (by omega) (by omega) ?_
    refine m_putI iX11_undo_31 p_11_171 rfl ?_
    refine z_iconst iX11_undo_34 kI_0 ?_
    refine z_istore_1 iX11_undo_35 rfl ?_
    have hF1 : Fm [149] [20, 21] μ (mw (mw μ 140 20 (nI n)) 140 21 (nI ((nx + 13) % 14))) := (Fm.rf.put _ _ (by decide)).put _ _ (by decide)
    have g1 : (mw (mw μ 140 20 (nI n)) 140 21 (nI ((nx + 13) % 14))).1 140 20 = nI n := by simp [mw_rd]
    have g2 : (mw (mw μ 140 20 (nI n)) 140 21 (nI ((nx + 13) % 14))).1 140 21 = nI ((nx + 13) % 14) := by simp [mw_rd]
    have g3 : (mw (mw μ 140 20 (nI n)) 140 21 (nI ((nx + 13) % 14))).1 149 = μ.1 149 := by rw [mw_other _ _ (by decide), mw_other _ _ (by decide)]
    generalize mw (mw μ 140 20 (nI n)) 140 21 (nI ((nx + 13) % 14)) = μ1 at hF1 g1 g2 g3
    have hA1 : MActs μ1 (sR S) n (sA S) := by
      refine ⟨g1, (nx + 13) % 14, Nat.mod_lt _ (by decide), g2, fun k hk => ?_⟩
      have := (a4 k (by omega)).ms g3
      rw [show ((nx + 13) % 14 + 14 - n + k) % 14 = (nx + 14 - (n + 1) + k) % 14 by omega]
      exact this
    have hT : NowAt μ1 149 (18 * ((nx + 13) % 14)) (sR S) (sA S n) := by
      have := (a4 n (by omega)).ms g3
      rw [show (nx + 14 - (n + 1) + n) % 14 = (nx + 13) % 14 by omega] at this
      exact this
    have loop : ∀ (m k : Nat) (μ' : Mem), m + k = 18 → Cp 145 0 149 (18 * ((nx + 13) % 14)) k μ1 μ' → Zm G X cX11_undo RX11 μ' 36 [some (.ref (qB G + 140)), some (.int (nI k))] [] := by
      intro m
      induction m with
      | zero =>
        intro k μ' hk hC
        rw [show k = 18 by omega] at hC ⊢
        have b1 : μ'.1 140 20 = nI n := by rw [hC.1 140 (by decide)]; exact g1
        refine z_iload_1 iX11_undo_36 ?_
        refine z_bipush iX11_undo_37 kB_18 ?_
        refine z_icmp_geN iX11_undo_39 (by omega) (by omega) (fun q2 => ?_) (fun q2 => ?_)
        · refine z_aload_0 iX11_undo_68 ?_
          refine m_getI iX11_undo_69 g_11_105 rfl ?_
          refine z_top (b1) ?_
          have := h.acted (L := []) (K := []) hS hF1 hA1 (NF.cp hC) (hT.cp hQ hC)
          exact m_iret hE iX11_undo_72 ⟨rfl, this.1, this.2⟩
        · omega
      | succ m ih =>
        intro k μ' hk hC
        have b2 : μ'.1 140 21 = nI ((nx + 13) % 14) := by rw [hC.1 140 (by decide)]; exact g2
        refine z_iload_1 iX11_undo_36 ?_
        refine z_bipush iX11_undo_37 kB_18 ?_
        refine z_icmp_geN iX11_undo_39 (by omega) (by omega) (fun q2 => ?_) (fun q2 => ?_)
        · omega
        · refine z_aload_0 iX11_undo_42 ?_
          refine m_getR iX11_undo_43 g_11_22 rfl ?_
          refine z_iload_1 iX11_undo_46 ?_
          refine z_aload_0 iX11_undo_47 ?_
          refine m_getR iX11_undo_48 g_11_34 rfl ?_
          refine z_bipush iX11_undo_51 kB_18 ?_
          refine z_aload_0 iX11_undo_53 ?_
          refine m_getI iX11_undo_54 g_11_171 rfl ?_
          refine z_top (b2) ?_
          refine z_imulN iX11_undo_57 ?_
          refine z_iload_1 iX11_undo_58 ?_
          refine z_iaddN iX11_undo_59 ?_
          refine m_ialdN iX11_undo_60 rfl (by omega) ?_
          refine m_iastN iX11_undo_61 rfl (by omega) ?_
          refine z_iinc_1N iX11_undo_62 rfl ?_
          refine z_goto iX11_undo_65 ?_
          exact ih (k + 1) _ (by omega) (hC.step (Or.inl (by decide)) (by omega) (by omega) rfl)
    exact loop 18 0 μ1 (by decide) Cp.zero
  · refine z_bipush (x := -3) iX11_undo_7 (by decide) ?_
    exact m_iret hE iX11_undo_9 (PM.rf h (by unfold aUndo; rw [q]))

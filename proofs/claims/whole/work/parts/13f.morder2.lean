/-! THE REFERENCE: walks of nextOrder, against, figures -/
def StAt (μ : Mem) (n : Nat) (p : Nat → Nat) : Prop := ∀ j, j < n → μ.1 151 j = nI (p j)
theorem StAt.fm {μ μ' : Mem} {n : Nat} {p : Nat → Nat} {L K : List Nat} (h : StAt μ n p) (hF : Fm L K μ μ') (h1 : 151 ∉ L) : StAt μ' n p := fun j hj => by rw [hF.1 151 h1 (by decide)]; exact h j hj
theorem c_X11_swap (G : qG) (l : Launch) {μ : Mem} {n a b : Nat} {p : Nat → Nat} (hn : n ≤ 6) (ha : a < n) (hb : b < n) (hp : StAt μ n p) : CtrV G l M_X11_swap [.ref (qB G + 140), .int (nI a), .int (nI b)] μ (fun μ' => Fm [151] [] μ μ' ∧ StAt μ' n (swp p a b)) := by
  refine m_enterV [some (.ref (qB G + 140)), some (.int (nI a)), some (.int (nI b)), none] (by decide +kernel) rfl (Nat.le_of_ble_eq_true rfl) rfl (fun X hE hR => ?_)
  have hR : qR X = rm_X11_swap := hR
  show Zm G X cX11_swap RX11 _ 0 [some (.ref (qB G + 140)), some (.int (nI a)), some (.int (nI b)), none] []
  refine z_aload_0 iX11_swap_0 ?_
  refine m_getR iX11_swap_1 g_11_40 rfl ?_
  refine z_iload_1 iX11_swap_4 ?_
  refine m_ialdN iX11_swap_5 rfl (by omega) ?_
  refine z_top (hp a ha) ?_
  refine z_istore_3 iX11_swap_6 rfl ?_
  refine z_aload_0 iX11_swap_7 ?_
  refine m_getR iX11_swap_8 g_11_40 rfl ?_
  refine z_iload_1 iX11_swap_11 ?_
  refine z_aload_0 iX11_swap_12 ?_
  refine m_getR iX11_swap_13 g_11_40 rfl ?_
  refine z_iload_2 iX11_swap_16 ?_
  refine m_ialdN iX11_swap_17 rfl (by omega) ?_
  refine z_top (hp b hb) ?_
  refine m_iastN iX11_swap_18 rfl (by omega) ?_
  refine z_aload_0 iX11_swap_19 ?_
  refine m_getR iX11_swap_20 g_11_40 rfl ?_
  refine z_iload_2 iX11_swap_23 ?_
  refine z_iload_3 iX11_swap_24 ?_
  refine m_iastN iX11_swap_25 rfl (by omega) ?_
  refine m_vret hE iX11_swap_26 ⟨(Fm.rf.mw _ _ (by decide) (by decide)).mw _ _ (by decide) (by decide), fun j hj => ?_⟩
  unfold swp
  by_cases z : j = b
  · rw [z, mw_same, if_pos rfl]
  · rw [mw_ne _ _ (Or.inr z), if_neg z]
    by_cases y : j = a
    · rw [y, mw_same, if_pos rfl]
    · rw [mw_ne _ _ (Or.inr y), if_neg y]; exact hp j hj
theorem fk_lt {p : Nat → Nat} {k : Nat} : ∀ m, fk p m = some k → k < m
  | 0, h => by cases h
  | m + 1, h => by
    unfold fk at h
    split at h
    · have := fk_lt m h; omega
    · cases h; omega
theorem fe_le (p : Nat → Nat) (x : Nat) : ∀ e, fe p x e ≤ e
  | 0 => Nat.le_refl _
  | e + 1 => by
    unfold fe
    split
    · have := fe_le p x e; omega
    · exact Nat.le_refl _
theorem swp_lt {p : Nat → Nat} {n a b : Nat} (h : ∀ j, j < n → p j < 100) (ha : a < n) (hb : b < n) : ∀ j, j < n → swp p a b j < 100 := by
  intro j hj
  unfold swp
  split
  · exact h a ha
  · split
    · exact h b hb
    · exact h j hj
theorem c_X11_nextOrder (G : qG) (l : Launch) {μ : Mem} {n : Nat} {p : Nat → Nat} (hn : n ≤ 6) (h0 : μ.1 140 0 = nI n) (hp : StAt μ n p) (hlt : ∀ j, j < n → p j < 100) : CtrI G l M_X11_nextOrder [.ref (qB G + 140)] μ (fun r μ' => Fm [151] [] μ μ' ∧ ((r = nI 0 ∧ nxP n p = none) ∨ (r = nI 1 ∧ ∃ p', nxP n p = some p' ∧ StAt μ' n p'))) := by
  refine m_enterI [some (.ref (qB G + 140)), none, none, none, none] (by decide +kernel) rfl (Nat.le_of_ble_eq_true rfl) (fun X hE hR => ?_)
  have hR : qR X = rm_X11_nextOrder := hR
  have hE : EI G X _ (some .boolean) := hE
  show Zm G X cX11_nextOrder RX11 _ 0 [some (.ref (qB G + 140)), none, none, none, none] []
  have lneg : ∀ x : Int32, x < 0 → fk p (n - 1) = none → Zm G X cX11_nextOrder RX11 μ 34 [some (.ref (qB G + 140)), some (.int x), none, none, none] [] := by
    intro x hx hk
    refine z_iload_1 iX11_nextOrder_34 ?_
    refine z_if_ge iX11_nextOrder_35 (fun q => absurd hx (Int32.not_lt.mpr q)) (fun q => ?_)
    refine z_iconst iX11_nextOrder_38 kI_0 ?_
    exact m_zret hE iX11_nextOrder_39 rfl ⟨Fm.rf, Or.inl ⟨rfl, by unfold nxP; rw [hk]⟩⟩
  have lR : ∀ (t lo hi : Nat) (p1 : Nat → Nat) (μ' : Mem) (k e : Int32), lo < 100 → hi ≤ lo + t → hi < n → Fm [151] [] μ μ' → StAt μ' n p1 → nxP n p = some (rv t p1 lo hi) → Zm G X cX11_nextOrder RX11 μ' 86 [some (.ref (qB G + 140)), some (.int k), some (.int e), some (.int (nI lo)), some (.int (nI hi))] [] := by
    intro t
    induction t with
    | zero =>
      intro lo hi p1 μ' k e hlo ht hhi hF hS hx
      refine z_iload_3 iX11_nextOrder_86 ?_
      refine z_iload_4 iX11_nextOrder_87 ?_
      refine z_icmp_geN iX11_nextOrder_89 (by omega) (by omega) (fun q => ?_) (fun q => ?_)
      · refine z_iconst iX11_nextOrder_108 kI_1 ?_
        exact m_zret hE iX11_nextOrder_109 rfl ⟨hF, Or.inr ⟨rfl, _, hx, hS⟩⟩
      · omega
    | succ t ih =>
      intro lo hi p1 μ' k e hlo ht hhi hF hS hx
      refine z_iload_3 iX11_nextOrder_86 ?_
      refine z_iload_4 iX11_nextOrder_87 ?_
      refine z_icmp_geN iX11_nextOrder_89 (by omega) (by omega) (fun q => ?_) (fun q => ?_)
      · refine z_iconst iX11_nextOrder_108 kI_1 ?_
        have er : rv (t + 1) p1 lo hi = p1 := by unfold rv; exact if_neg (by omega)
        rw [er] at hx
        exact m_zret hE iX11_nextOrder_109 rfl ⟨hF, Or.inr ⟨rfl, _, hx, hS⟩⟩
      · obtain ⟨h', rfl⟩ : ∃ h', hi = h' + 1 := ⟨hi - 1, by omega⟩
        have er : rv (t + 1) p1 lo (h' + 1) = rv t (swp p1 lo (h' + 1)) (lo + 1) h' := by
          show (if lo < h' + 1 then _ else _) = _
          rw [if_pos q]; rfl
        rw [er] at hx
        refine z_aload_0 iX11_nextOrder_92 ?_
        refine z_iload_3 iX11_nextOrder_93 ?_
        refine z_iload_4 iX11_nextOrder_94 ?_
        refine m_callVv iX11_nextOrder_96 l_11_192 f_X11_swap (c_X11_swap G _ hn (show lo < n by omega) hhi hS) rfl rfl rfl (Nat.le_of_ble_eq_true rfl) hR ft_X11_nextOrder_X11_swap ⟨rfl, rfl⟩ ?_
        rintro μ2 ⟨hF2, hS2⟩
        refine z_iinc_3N iX11_nextOrder_99 rfl ?_
        refine z_iinc_4D iX11_nextOrder_102 rfl ?_
        refine z_goto iX11_nextOrder_105 ?_
        exact ih (lo + 1) h' _ μ2 k e (by omega) (by omega) (by omega) (hF.trans hF2) hS2 hx
  have lE : ∀ (e k : Nat), fk p (n - 1) = some k → k ≤ e → e < n → fe p (p k) e = fe p (p k) (n - 1) → Zm G X cX11_nextOrder RX11 μ 47 [some (.ref (qB G + 140)), some (.int (nI k)), some (.int (nI e)), none, none] [] := by
    intro e
    induction e with
    | zero =>
      intro k hk hle hen he
      have hk0 : k = 0 := by omega
      subst hk0
      have l0 := hlt 0 hen
      have hk1 := fk_lt _ hk
      refine z_aload_0 iX11_nextOrder_47 ?_
      refine m_getR iX11_nextOrder_48 g_11_40 rfl ?_
      refine z_iload_2 iX11_nextOrder_51 ?_
      refine m_ialdN iX11_nextOrder_52 rfl (by omega) ?_
      refine z_top (hp 0 hen) ?_
      refine z_aload_0 iX11_nextOrder_53 ?_
      refine m_getR iX11_nextOrder_54 g_11_40 rfl ?_
      refine z_iload_1 iX11_nextOrder_57 ?_
      refine m_ialdN iX11_nextOrder_58 rfl (by omega) ?_
      refine z_top (hp 0 hen) ?_
      refine z_icmp_geN iX11_nextOrder_59 (by omega) (by omega) (fun q => ?_) (fun q => ?_)
      · refine z_aload_0 iX11_nextOrder_68 ?_
        refine z_iload_1 iX11_nextOrder_69 ?_
        refine z_iload_2 iX11_nextOrder_70 ?_
        refine m_callVv iX11_nextOrder_71 l_11_192 f_X11_swap (c_X11_swap G _ hn hen hen hp) rfl rfl rfl (Nat.le_of_ble_eq_true rfl) hR ft_X11_nextOrder_X11_swap ⟨rfl, rfl⟩ ?_
        rintro μ2 ⟨hF2, hS2⟩
        have h02 : μ2.1 140 0 = nI n := by rw [hF2.2.1 0 (by decide)]; exact h0
        refine z_iload_1 iX11_nextOrder_74 ?_
        refine z_iconst iX11_nextOrder_75 kI_1 ?_
        refine z_iaddN iX11_nextOrder_76 ?_
        refine z_istore_3 iX11_nextOrder_77 rfl ?_
        refine z_aload_0 iX11_nextOrder_78 ?_
        refine m_getI iX11_nextOrder_79 g_11_99 rfl ?_
        refine z_top (h02) ?_
        refine z_iconst iX11_nextOrder_82 kI_1 ?_
        refine z_isubN iX11_nextOrder_83 (by omega) ?_
        refine z_istore_4 iX11_nextOrder_84 rfl ?_
        refine lR 6 1 (n - 1) _ μ2 _ _ (by decide) (by omega) (by omega) hF2 hS2 ?_
        unfold nxP; rw [hk]; simp only []; rw [← he]; rfl
      · omega
    | succ e ih =>
      intro k hk hle hen he
      have hk1 := fk_lt _ hk
      have l1 := hlt (e + 1) hen
      have l2 := hlt k (by omega)
      refine z_aload_0 iX11_nextOrder_47 ?_
      refine m_getR iX11_nextOrder_48 g_11_40 rfl ?_
      refine z_iload_2 iX11_nextOrder_51 ?_
      refine m_ialdN iX11_nextOrder_52 rfl (by omega) ?_
      refine z_top (hp (e + 1) hen) ?_
      refine z_aload_0 iX11_nextOrder_53 ?_
      refine m_getR iX11_nextOrder_54 g_11_40 rfl ?_
      refine z_iload_1 iX11_nextOrder_57 ?_
      refine m_ialdN iX11_nextOrder_58 rfl (by omega) ?_
      refine z_top (hp k (by omega)) ?_
      refine z_icmp_geN iX11_nextOrder_59 (by omega) (by omega) (fun q => ?_) (fun q => ?_)
      · have ee : fe p (p k) (e + 1) = e + 1 := by unfold fe; exact if_neg (by omega)
        rw [ee] at he
        refine z_aload_0 iX11_nextOrder_68 ?_
        refine z_iload_1 iX11_nextOrder_69 ?_
        refine z_iload_2 iX11_nextOrder_70 ?_
        refine m_callVv iX11_nextOrder_71 l_11_192 f_X11_swap (c_X11_swap G _ hn (show k < n by omega) hen hp) rfl rfl rfl (Nat.le_of_ble_eq_true rfl) hR ft_X11_nextOrder_X11_swap ⟨rfl, rfl⟩ ?_
        rintro μ2 ⟨hF2, hS2⟩
        have h02 : μ2.1 140 0 = nI n := by rw [hF2.2.1 0 (by decide)]; exact h0
        refine z_iload_1 iX11_nextOrder_74 ?_
        refine z_iconst iX11_nextOrder_75 kI_1 ?_
        refine z_iaddN iX11_nextOrder_76 ?_
        refine z_istore_3 iX11_nextOrder_77 rfl ?_
        refine z_aload_0 iX11_nextOrder_78 ?_
        refine m_getI iX11_nextOrder_79 g_11_99 rfl ?_
        refine z_top (h02) ?_
        refine z_iconst iX11_nextOrder_82 kI_1 ?_
        refine z_isubN iX11_nextOrder_83 (by omega) ?_
        refine z_istore_4 iX11_nextOrder_84 rfl ?_
        refine lR 6 (k + 1) (n - 1) _ μ2 _ _ (by omega) (by omega) (by omega) hF2 hS2 ?_
        unfold nxP; rw [hk]; simp only []; rw [← he]
      · have ee : fe p (p k) (e + 1) = fe p (p k) e := by
          show (if _ then _ else _) = _
          exact if_pos q
        rw [ee] at he
        have hne : k ≠ e + 1 := fun z => by rw [z] at q; omega
        refine z_iinc_2D iX11_nextOrder_62 rfl ?_
        refine z_goto iX11_nextOrder_65 ?_
        exact ih k hk (by omega) (by omega) he
  have found : ∀ k : Nat, fk p (n - 1) = some k → Zm G X cX11_nextOrder RX11 μ 34 [some (.ref (qB G + 140)), some (.int (nI k)), none, none, none] [] := by
    intro k hk
    have hk1 := fk_lt _ hk
    refine z_iload_1 iX11_nextOrder_34 ?_
    refine z_if_ge iX11_nextOrder_35 (fun q => ?_) (fun q => absurd (nI_pos' (by omega)) q)
    refine z_aload_0 iX11_nextOrder_40 ?_
    refine m_getI iX11_nextOrder_41 g_11_99 rfl ?_
    refine z_top (h0) ?_
    refine z_iconst iX11_nextOrder_44 kI_1 ?_
    refine z_isubN iX11_nextOrder_45 (by omega) ?_
    refine z_istore_2 iX11_nextOrder_46 rfl ?_
    exact lE (n - 1) k hk (by omega) (by omega) rfl
  have lK : ∀ m : Nat, m + 1 < n → fk p (m + 1) = fk p (n - 1) → Zm G X cX11_nextOrder RX11 μ 7 [some (.ref (qB G + 140)), some (.int (nI m)), none, none, none] [] := by
    intro m
    induction m with
    | zero =>
      intro hm he
      have l1 := hlt 0 (by omega)
      have l2 := hlt 1 hm
      refine z_iload_1 iX11_nextOrder_7 ?_
      refine z_if_ltN iX11_nextOrder_8 (by omega) ?_
      refine z_aload_0 iX11_nextOrder_11 ?_
      refine m_getR iX11_nextOrder_12 g_11_40 rfl ?_
      refine z_iload_1 iX11_nextOrder_15 ?_
      refine m_ialdN iX11_nextOrder_16 rfl (by omega) ?_
      refine z_top (hp 0 (by omega)) ?_
      refine z_aload_0 iX11_nextOrder_17 ?_
      refine m_getR iX11_nextOrder_18 g_11_40 rfl ?_
      refine z_iload_1 iX11_nextOrder_21 ?_
      refine z_iconst iX11_nextOrder_22 kI_1 ?_
      refine z_iaddN iX11_nextOrder_23 ?_
      refine m_ialdN iX11_nextOrder_24 rfl (by omega) ?_
      refine z_top (hp 1 hm) ?_
      refine z_icmp_leN iX11_nextOrder_25 (by omega) (by omega) (fun q => ?_) (fun q => ?_)
      · refine found 0 ?_
        rw [← he]
        show (if p 1 < p 0 then _ else _) = _
        exact if_neg (by omega)
      · refine z_iinc_1 iX11_nextOrder_28 rfl ?_
        refine z_goto iX11_nextOrder_31 ?_
        have en : nI 0 + Int32.ofInt (-1) < 0 := by decide
        generalize nI 0 + Int32.ofInt (-1) = x at en
        refine z_iload_1 iX11_nextOrder_7 ?_
        refine z_if_lt iX11_nextOrder_8 (fun _ => ?_) (fun z => absurd en z)
        refine lneg x en ?_
        rw [← he]
        show (if _ then _ else _) = _
        rw [if_pos q]
        rfl
    | succ m ih =>
      intro hm he
      have l1 := hlt (m + 1) (by omega)
      have l2 := hlt (m + 1 + 1) hm
      refine z_iload_1 iX11_nextOrder_7 ?_
      refine z_if_ltN iX11_nextOrder_8 (by omega) ?_
      refine z_aload_0 iX11_nextOrder_11 ?_
      refine m_getR iX11_nextOrder_12 g_11_40 rfl ?_
      refine z_iload_1 iX11_nextOrder_15 ?_
      refine m_ialdN iX11_nextOrder_16 rfl (by omega) ?_
      refine z_top (hp (m + 1) (by omega)) ?_
      refine z_aload_0 iX11_nextOrder_17 ?_
      refine m_getR iX11_nextOrder_18 g_11_40 rfl ?_
      refine z_iload_1 iX11_nextOrder_21 ?_
      refine z_iconst iX11_nextOrder_22 kI_1 ?_
      refine z_iaddN iX11_nextOrder_23 ?_
      refine m_ialdN iX11_nextOrder_24 rfl (by omega) ?_
      refine z_top (hp (m + 1 + 1) hm) ?_
      refine z_icmp_leN iX11_nextOrder_25 (by omega) (by omega) (fun q => ?_) (fun q => ?_)
      · refine found (m + 1) ?_
        rw [← he]
        show (if _ then _ else _) = _
        exact if_neg (by omega)
      · refine z_iinc_1D iX11_nextOrder_28 rfl ?_
        refine z_goto iX11_nextOrder_31 ?_
        refine ih (by omega) ?_
        rw [← he]
        show _ = (if _ then _ else _)
        rw [if_pos q]
  by_cases z : n < 2
  · have en : nI n - nI 2 < 0 := by
      rcases (show n = 0 ∨ n = 1 by omega) with rfl | rfl <;> decide
    refine z_aload_0 iX11_nextOrder_0 ?_
    refine m_getI iX11_nextOrder_1 g_11_99 rfl ?_
    refine z_top (h0) ?_
    refine z_iconst iX11_nextOrder_4 kI_2 ?_
    refine z_isub iX11_nextOrder_5 ?_
    refine z_istore_1 iX11_nextOrder_6 rfl ?_
    generalize nI n - nI 2 = x at en
    refine z_iload_1 iX11_nextOrder_7 ?_
    refine z_if_lt iX11_nextOrder_8 (fun _ => ?_) (fun z => absurd en z)
    exact lneg x en (by rw [show n - 1 = 0 by omega]; rfl)
  · refine z_aload_0 iX11_nextOrder_0 ?_
    refine m_getI iX11_nextOrder_1 g_11_99 rfl ?_
    refine z_top (h0) ?_
    refine z_iconst iX11_nextOrder_4 kI_2 ?_
    refine z_isubN iX11_nextOrder_5 (by omega) ?_
    refine z_istore_1 iX11_nextOrder_6 rfl ?_
    exact lK (n - 2) (by omega) (by rw [show n - 2 + 1 = n - 1 by omega])
def agR (bs p : Nat → Nat) (k e : Nat) : Nat := sumN (fun j => if k < j then bitN (bs (p j)) (p k) else 0) e
def agP (bs p : Nat → Nat) (n : Nat) : Nat := sumN (fun k => agR bs p k n) n
theorem agR_le (bs p : Nat → Nat) (k : Nat) : ∀ e, agR bs p k e ≤ e
  | 0 => Nat.le_refl _
  | e + 1 => by
    have := agR_le bs p k e
    have h2 := bitN_lt (bs (p e)) (p k)
    show agR bs p k e + (if k < e then bitN (bs (p e)) (p k) else 0) ≤ e + 1
    split <;> omega
theorem agR_0 (bs p : Nat → Nat) (k : Nat) : ∀ e, e ≤ k + 1 → agR bs p k e = 0
  | 0, _ => rfl
  | e + 1, h => by
    show agR bs p k e + (if k < e then bitN (bs (p e)) (p k) else 0) = 0
    rw [agR_0 bs p k e (by omega), if_neg (by omega)]
theorem agS_le (bs p : Nat → Nat) (n : Nat) : ∀ k, sumN (fun k => agR bs p k n) k ≤ k * n
  | 0 => by show 0 ≤ _; exact Nat.zero_le _
  | k + 1 => by
    have h1 := agS_le bs p n k
    have h2 := agR_le bs p k n
    show sumN (fun k => agR bs p k n) k + agR bs p k n ≤ (k + 1) * n
    rw [Nat.add_mul, Nat.one_mul]
    omega
theorem c_X11_against (G : qG) (l : Launch) {μ : Mem} {n : Nat} {p bs : Nat → Nat} (hn : n ≤ 6) (h0 : μ.1 140 0 = nI n) (hp : StAt μ n p) (hlt : ∀ j, j < n → p j < n) (hb : ∀ k, k < n → μ.1 152 k = nI (bs k) ∧ bs k < 64) : CtrI G l M_X11_against [.ref (qB G + 140)] μ (fun r μ' => μ' = μ ∧ r = nI (agP bs p n)) := by
  refine m_enterI [some (.ref (qB G + 140)), none, none, none] (by decide +kernel) rfl (Nat.le_of_ble_eq_true rfl) (fun X hE hR => ?_)
  have hR : qR X = rm_X11_against := hR
  have hE : EI G X _ (some .int) := hE
  show Zm G X cX11_against RX11 _ 0 [some (.ref (qB G + 140)), none, none, none] []
  have inner : ∀ (m e k : Nat) (μ0 : Mem), μ0 = μ → m + e = n → k < n → k < e → (Zm G X cX11_against RX11 μ0 61 [some (.ref (qB G + 140)), some (.int (nI (sumN (fun k => agR bs p k n) k + agR bs p k n))), some (.int (nI k)), some (.int (nI n))] []) → Zm G X cX11_against RX11 μ0 16 [some (.ref (qB G + 140)), some (.int (nI (sumN (fun k => agR bs p k n) k + agR bs p k e))), some (.int (nI k)), some (.int (nI e))] [] := by
    intro m
    induction m with
    | zero =>
      rintro e k μ0 rfl hm hk hke kk
      rw [show e = n by omega]
      refine z_iload_3 iX11_against_16 ?_
      refine z_aload_0 iX11_against_17 ?_
      refine m_getI iX11_against_18 g_11_99 rfl ?_
      refine z_top (h0) ?_
      refine z_icmp_geN iX11_against_21 (by omega) (by omega) (fun q => ?_) (fun q => ?_)
      · exact kk
      · omega
    | succ m ih =>
      rintro e k μ0 rfl hm hk hke kk
      have he : e < n := by omega
      have l1 := hlt e he
      have l2 := hlt k hk
      have hbt := bitN_lt (bs (p e)) (p k)
      refine z_iload_3 iX11_against_16 ?_
      refine z_aload_0 iX11_against_17 ?_
      refine m_getI iX11_against_18 g_11_99 rfl ?_
      refine z_top (h0) ?_
      refine z_icmp_geN iX11_against_21 (by omega) (by omega) (fun q => ?_) (fun q => ?_)
      · omega
      · refine z_iload_1 iX11_against_24 ?_
        refine z_aload_0 iX11_against_25 ?_
        refine m_getR iX11_against_26 g_11_43 rfl ?_
        refine z_aload_0 iX11_against_29 ?_
        refine m_getR iX11_against_30 g_11_40 rfl ?_
        refine z_iload_3 iX11_against_33 ?_
        refine m_ialdN iX11_against_34 rfl (by omega) ?_
        refine z_top (hp e he) ?_
        refine m_ialdN iX11_against_35 rfl (by omega) ?_
        refine z_top ((hb (p e) l1).1) ?_
        refine z_aload_0 iX11_against_36 ?_
        refine m_getR iX11_against_37 g_11_40 rfl ?_
        refine z_iload_2 iX11_against_40 ?_
        refine m_ialdN iX11_against_41 rfl (by omega) ?_
        refine z_top (hp k hk) ?_
        refine m_callSi iX11_against_42 l_11_195 f_X11_has (c_X11_has G _ (hb (p e) l1).2 (show p k < 6 by omega)) rfl rfl (Nat.le_of_ble_eq_true rfl) hR ft_X11_against_X11_has ⟨rfl, rfl⟩ ?_
        rintro r μ2 ⟨rfl, rfl⟩
        have er : agR bs p k (e + 1) = agR bs p k e + bitN (bs (p e)) (p k) := by
          show agR bs p k e + (if k < e then _ else _) = _
          rw [if_pos hke]
        have fin : ∀ w : Nat, w = bitN (bs (p e)) (p k) → Zm G X cX11_against RX11 μ2 53 [some (.ref (qB G + 140)), some (.int (nI (sumN (fun k => agR bs p k n) k + agR bs p k e))), some (.int (nI k)), some (.int (nI e))] [.int (nI w), .int (nI (sumN (fun k => agR bs p k n) k + agR bs p k e))] := by
          intro w hw
          refine z_iaddN iX11_against_53 ?_
          refine z_istore_1 iX11_against_54 rfl ?_
          refine z_iinc_3N iX11_against_55 rfl ?_
          refine z_goto iX11_against_58 ?_
          have := ih (e + 1) k μ2 rfl (by omega) hk (by omega) kk
          rw [er, ← hw, ← Nat.add_assoc] at this
          exact this
        refine z_if_eqN iX11_against_45 (by omega) (fun q2 => ?_) (fun q2 => ?_)
        · refine z_iconst iX11_against_52 kI_0 ?_
          exact fin 0 (by omega)
        · refine z_iconst iX11_against_48 kI_1 ?_
          refine z_goto iX11_against_49 ?_
          exact fin 1 (by omega)
  have outer : ∀ (m k : Nat) (o : Option Value), m + k = n → (o = none ∨ ∃ w, o = some (.int w)) → Zm G X cX11_against RX11 μ 4 [some (.ref (qB G + 140)), some (.int (nI (sumN (fun k => agR bs p k n) k))), some (.int (nI k)), o] [] := by
    intro m
    induction m with
    | zero =>
      intro k o hm ho
      rw [show k = n by omega]
      refine z_iload_2 iX11_against_4 ?_
      refine z_aload_0 iX11_against_5 ?_
      refine m_getI iX11_against_6 g_11_99 rfl ?_
      refine z_top (h0) ?_
      refine z_icmp_geN iX11_against_9 (by omega) (by omega) (fun q => ?_) (fun q => ?_)
      · refine z_iload_1 iX11_against_67 ?_
        exact m_iret hE iX11_against_68 ⟨rfl, rfl⟩
      · omega
    | succ m ih =>
      intro k o hm ho
      refine z_iload_2 iX11_against_4 ?_
      refine z_aload_0 iX11_against_5 ?_
      refine m_getI iX11_against_6 g_11_99 rfl ?_
      refine z_top (h0) ?_
      refine z_icmp_geN iX11_against_9 (by omega) (by omega) (fun q => ?_) (fun q => ?_)
      · omega
      · rcases ho with rfl | ⟨w, rfl⟩
        all_goals {
        refine z_iload_2 iX11_against_12 ?_
        refine z_iconst iX11_against_13 kI_1 ?_
        refine z_iaddN iX11_against_14 ?_
        refine z_istore_3 iX11_against_15 rfl ?_
        have := inner (n - (k + 1)) (k + 1) k μ rfl (by omega) (by omega) (by omega) (by
          refine z_iinc_2N iX11_against_61 rfl ?_
          refine z_goto iX11_against_64 ?_
          exact ih (k + 1) _ (by omega) (Or.inr ⟨_, rfl⟩))
        rw [agR_0 bs p k (k + 1) (by omega), Nat.add_zero] at this
        exact this }
  refine z_iconst iX11_against_0 kI_0 ?_
  refine z_istore_1 iX11_against_1 rfl ?_
  refine z_iconst iX11_against_2 kI_0 ?_
  refine z_istore_2 iX11_against_3 rfl ?_
  exact outer n 0 none (by omega) (Or.inl rfl)
def fgA (acc : Nat) (p : Nat → Nat) : Nat → Nat
  | 0 => acc
  | k + 1 => 10 * fgA acc p k + p k + 1
theorem c_X11_figures (G : qG) (l : Launch) {μ : Mem} {n : Nat} {p : Nat → Nat} (hn : n ≤ 6) (h0 : μ.1 140 0 = nI n) (hp : StAt μ n p) : CtrI G l M_X11_figures [.ref (qB G + 140)] μ (fun r μ' => μ' = μ ∧ r = nI (fgA 0 p n)) := by
  refine m_enterI [some (.ref (qB G + 140)), none, none] (by decide +kernel) rfl (Nat.le_of_ble_eq_true rfl) (fun X hE hR => ?_)
  have hR : qR X = rm_X11_figures := hR
  have hE : EI G X _ (some .int) := hE
  show Zm G X cX11_figures RX11 _ 0 [some (.ref (qB G + 140)), none, none] []
  have loop : ∀ (m k : Nat), m + k = n → Zm G X cX11_figures RX11 μ 4 [some (.ref (qB G + 140)), some (.int (nI (fgA 0 p k))), some (.int (nI k))] [] := by
    intro m
    induction m with
    | zero =>
      intro k hk
      rw [show k = n by omega]
      refine z_iload_2 iX11_figures_4 ?_
      refine z_aload_0 iX11_figures_5 ?_
      refine m_getI iX11_figures_6 g_11_99 rfl ?_
      refine z_top (h0) ?_
      refine z_icmp_geN iX11_figures_9 (by omega) (by omega) (fun q => ?_) (fun q => ?_)
      · refine z_iload_1 iX11_figures_32 ?_
        exact m_iret hE iX11_figures_33 ⟨rfl, rfl⟩
      · omega
    | succ m ih =>
      intro k hk
      refine z_iload_2 iX11_figures_4 ?_
      refine z_aload_0 iX11_figures_5 ?_
      refine m_getI iX11_figures_6 g_11_99 rfl ?_
      refine z_top (h0) ?_
      refine z_icmp_geN iX11_figures_9 (by omega) (by omega) (fun q => ?_) (fun q => ?_)
      · omega
      · refine z_bipush iX11_figures_12 kB_10 ?_
        refine z_iload_1 iX11_figures_14 ?_
        refine z_imulN iX11_figures_15 ?_
        refine z_aload_0 iX11_figures_16 ?_
        refine m_getR iX11_figures_17 g_11_40 rfl ?_
        refine z_iload_2 iX11_figures_20 ?_
        refine m_ialdN iX11_figures_21 rfl (by omega) ?_
        refine z_top (hp k (by omega)) ?_
        refine z_iaddN iX11_figures_22 ?_
        refine z_iconst iX11_figures_23 kI_1 ?_
        refine z_iaddN iX11_figures_24 ?_
        refine z_istore_1 iX11_figures_25 rfl ?_
        refine z_iinc_2N iX11_figures_26 rfl ?_
        refine z_goto iX11_figures_29 ?_
        exact ih (k + 1) (by omega)
  refine z_iconst iX11_figures_0 kI_0 ?_
  refine z_istore_1 iX11_figures_1 rfl ?_
  refine z_iconst iX11_figures_2 kI_0 ?_
  refine z_istore_2 iX11_figures_3 rfl ?_
  exact loop n 0 (by omega)

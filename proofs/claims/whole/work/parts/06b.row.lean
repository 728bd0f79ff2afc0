/-! the row of acts -/
def PermOK (μ : Mem) : Prop := (∀ k, k < 14 → ∃ j, j < 14 ∧ μ.2.2 k = 63 + 4 * j) ∧ ∀ k k', k < 14 → k' < 14 → μ.2.2 k = μ.2.2 k' → k = k'
def ActsAt (μ : Mem) (R : Rl) (n : Nat) (A : Nat → Hd) : Prop := n ≤ 14 ∧ μ.1 61 1 = nI n ∧ PermOK μ ∧ ∀ k, k < n → HoldAt μ (μ.2.2 k) R (A k)
def ActFr (μ μ' : Mem) : Prop := (∀ a, a ≠ 61 → ¬ (63 ≤ a ∧ a ≤ 118) → μ'.1 a = μ.1 a) ∧ μ'.2.1 = μ.2.1
theorem isHold_act : ∀ j, j < 14 → isHold (63 + 4 * j) := by
  intro j hj
  rcases (show j = 0 ∨ j = 1 ∨ j = 2 ∨ j = 3 ∨ j = 4 ∨ j = 5 ∨ j = 6 ∨ j = 7 ∨ j = 8 ∨ j = 9 ∨ j = 10 ∨ j = 11 ∨ j = 12 ∨ j = 13 by omega) with rfl | rfl | rfl | rfl | rfl | rfl | rfl | rfl | rfl | rfl | rfl | rfl | rfl | rfl <;> exact ⟨rfl, rfl, rfl, rfl, rfl, rfl, rfl, rfl⟩
theorem HoldAt.row {μ μ' : Mem} {hd : Nat} {R : Rl} {H : Hd} (h : HoldAt μ hd R H) (e : ∀ i, i < 4 → μ'.1 (hd + i) = μ.1 (hd + i)) : HoldAt μ' hd R H := h.kept (e 0 (by decide)) (e 1 (by decide)) (e 2 (by decide)) (e 3 (by decide))
/-- Acts.forgetFirst -/
theorem c_X0_forgetFirst (G : qG) (l : Launch) {μ : Mem} (hP : PermOK μ) : CtrV G l M_X0_forgetFirst [.ref (qB G + 61)] μ (fun μ' => (∀ a, a ≠ 61 → μ'.1 a = μ.1 a) ∧ μ'.2.1 = μ.2.1 ∧ μ'.1 61 1 = nI 13 ∧ ∀ k, k < 14 → μ'.2.2 k = if k < 13 then μ.2.2 (k + 1) else μ.2.2 0) := by
  refine m_enterV [some (.ref (qB G + 61)), none, none] (by decide +kernel) rfl (Nat.le_of_ble_eq_true rfl) rfl (fun X hE hR => ?_)
  have hR : qR X = rm_X0_forgetFirst := hR
  show Zm G X cX0_forgetFirst RX0 _ 0 [some (.ref (qB G + 61)), none, none] []
  have hC : ∀ k, k < 14 → layC (μ.2.2 k) = some 5 := fun k hk => by
    obtain ⟨j, hj, e⟩ := hP.1 k hk
    rw [e]; exact (isHold_act j hj).2.2.2.2.2.2.2
  have loop : ∀ (n k : Nat) (π : Nat → Nat), n + k = 14 → 1 ≤ k → (∀ i, i < 14 → π i = if i + 1 < k then μ.2.2 (i + 1) else μ.2.2 i) → Zm G X cX0_forgetFirst RX0 (μ.1, μ.2.1, π) 9 [some (.ref (qB G + 61)), some (.ref (qB G + μ.2.2 0)), some (.int (nI k))] [] := by
    intro n
    induction n with
    | zero =>
      intro k π hk h1 hπ
      refine z_iload_2 iX0_forgetFirst_9 ?_
      refine z_bipush iX0_forgetFirst_10 kB_14 ?_
      refine z_icmp_geN iX0_forgetFirst_12 (by omega) (by omega) (fun q => ?_) (fun q => ?_)
      · refine z_aload_0 iX0_forgetFirst_35 ?_
        refine m_getR iX0_forgetFirst_36 g_0_11 rfl ?_
        refine z_bipush iX0_forgetFirst_39 kB_13 ?_
        refine z_aload_1 iX0_forgetFirst_41 ?_
        refine m_aastB iX0_forgetFirst_42 rfl (by decide) (hC 0 (by decide)) ?_
        refine z_aload_0 iX0_forgetFirst_43 ?_
        refine z_bipush iX0_forgetFirst_44 kB_13 ?_
        refine m_putI iX0_forgetFirst_46 p_0_18 rfl ?_
        refine m_vret hE iX0_forgetFirst_49 ⟨fun a ha => mw_other _ _ ha, rfl, mw_same _ _ _ _, fun i hi => ?_⟩
        show (if i = 13 then μ.2.2 0 else π i) = _
        by_cases e : i = 13
        · rw [if_pos e, if_neg (by omega)]
        · rw [if_neg e, if_pos (by omega), hπ i hi, if_pos (by omega)]
      · omega
    | succ n ih =>
      intro k π hk h1 hπ
      have ek : π k = μ.2.2 k := by rw [hπ k (by omega), if_neg (by omega)]
      refine z_iload_2 iX0_forgetFirst_9 ?_
      refine z_bipush iX0_forgetFirst_10 kB_14 ?_
      refine z_icmp_geN iX0_forgetFirst_12 (by omega) (by omega) (fun q => ?_) (fun q => ?_)
      · omega
      · refine z_aload_0 iX0_forgetFirst_15 ?_
        refine m_getR iX0_forgetFirst_16 g_0_11 rfl ?_
        refine z_iload_2 iX0_forgetFirst_19 ?_
        refine z_iconst iX0_forgetFirst_20 kI_1 ?_
        refine z_isubN iX0_forgetFirst_21 (by omega) ?_
        refine z_aload_0 iX0_forgetFirst_22 ?_
        refine m_getR iX0_forgetFirst_23 g_0_11 rfl ?_
        refine z_iload_2 iX0_forgetFirst_26 ?_
        refine m_aaldB iX0_forgetFirst_27 rfl (by omega) ?_
        refine m_aastB iX0_forgetFirst_28 rfl (by omega) (show layC (π k) = some 5 by rw [ek]; exact hC k (by omega)) ?_
        refine z_iinc_2N iX0_forgetFirst_29 rfl ?_
        refine z_goto iX0_forgetFirst_32 ?_
        refine ih (k + 1) _ (by omega) (by omega) ?_
        intro i hi
        show (if i = k - 1 then π k else π i) = _
        by_cases e : i = k - 1
        · rw [if_pos e, if_pos (by omega), ek, show i + 1 = k by omega]
        · rw [if_neg e, hπ i hi]
          by_cases e2 : i + 1 < k
          · rw [if_pos e2, if_pos (by omega)]
          · rw [if_neg e2, if_neg (by omega)]
  refine z_aload_0 iX0_forgetFirst_0 ?_
  refine m_getR iX0_forgetFirst_1 g_0_11 rfl ?_
  refine z_iconst iX0_forgetFirst_4 kI_0 ?_
  refine m_aaldB iX0_forgetFirst_5 rfl (by decide) ?_
  refine z_astore_1 iX0_forgetFirst_6 rfl ?_
  refine z_iconst iX0_forgetFirst_7 kI_1 ?_
  refine z_istore_2 iX0_forgetFirst_8 rfl ?_
  exact loop 13 1 μ.2.2 (by omega) (by omega) (fun i hi => by rw [if_neg (by omega)])
theorem PermOK.rot {μ μ' : Mem} (h : PermOK μ) (e : ∀ k, k < 14 → μ'.2.2 k = if k < 13 then μ.2.2 (k + 1) else μ.2.2 0) : PermOK μ' := by
  constructor
  · intro k hk
    rw [e k hk]
    split
    · exact h.1 _ (by omega)
    · exact h.1 _ (by omega)
  · intro k k' hk hk' q
    rw [e k hk, e k' hk'] at q
    by_cases c1 : k < 13 <;> by_cases c2 : k' < 13
    · rw [if_pos c1, if_pos c2] at q; have := h.2 _ _ (by omega) (by omega) q; omega
    · rw [if_pos c1, if_neg c2] at q; have := h.2 _ _ (by omega) (by omega) q; omega
    · rw [if_neg c1, if_pos c2] at q; have := h.2 _ _ (by omega) (by omega) q; omega
    · omega
/-- an act more: of more than 14 the first one is forgotten -/
def pushN (n : Nat) : Nat := if n < 14 then n + 1 else 14
def pushA (n : Nat) (A : Nat → Hd) (H : Hd) : Nat → Hd := if n < 14 then fun k => if k = n then H else A k else fun k => if k = 13 then H else A (k + 1)
/-- Acts.remember, of the salle's holdings -/
theorem c_X0_remember (G : qG) (l : Launch) {μ : Mem} {R : Rl} {H : Hd} {n : Nat} {A : Nat → Hd} (hR0 : RlOK R) (hA : ActsAt μ R n A) (hH : HoldAt μ 38 R H) : CtrV G l M_X0_remember [.ref (qB G + 61), .ref (qB G + 38)] μ (fun μ' => ActFr μ μ' ∧ ActsAt μ' R (pushN n) (pushA n A H)) := by
  refine m_enterV [some (.ref (qB G + 61)), some (.ref (qB G + 38))] (by decide +kernel) rfl (Nat.le_of_ble_eq_true rfl) rfl (fun X hE hR => ?_)
  have hR : qR X = rm_X0_remember := hR
  show Zm G X cX0_remember RX0 _ 0 [some (.ref (qB G + 61)), some (.ref (qB G + 38))] []
  obtain ⟨hn, hsz, hP, hAk⟩ := hA
  have rest : ∀ (m : Nat) (B : Nat → Hd) (μ1 : Mem), m < 14 → μ1.1 61 1 = nI m → PermOK μ1 → (∀ a, a ≠ 61 → μ1.1 a = μ.1 a) → μ1.2.1 = μ.2.1 → (∀ k, k < m → HoldAt μ1 (μ1.2.2 k) R (B k)) → pushN n = m + 1 → (∀ k, k < m + 1 → pushA n A H k = if k = m then H else B k) → Zm G X cX0_remember RX0 μ1 13 [some (.ref (qB G + 61)), some (.ref (qB G + 38))] [] := by
    intro m B μ1 hm e1 hP1 hs hl hB en eA
    obtain ⟨j, hj, ej⟩ := hP1.1 m hm
    have hh := isHold_act j hj
    rw [← ej] at hh
    have hH1 : HoldAt μ1 38 R H := hH.row (fun i hi => hs _ (by omega))
    refine z_aload_0 iX0_remember_13 ?_
    refine m_getR iX0_remember_14 g_0_11 rfl ?_
    refine z_aload_0 iX0_remember_17 ?_
    refine m_getI iX0_remember_18 g_0_18 rfl ?_
    refine z_top (e1) ?_
    refine m_aaldB iX0_remember_21 rfl hm ?_
    refine z_aload_1 iX0_remember_22 ?_
    refine m_callVv iX0_remember_23 l_0_25 f_X5_copyFrom (c_X5_copyFrom G _ hh isHold_38 (by omega)) hh.2.2.2.2.2.2.2 rfl rfl (Nat.le_of_ble_eq_true rfl) hR ft_X0_remember_X5_copyFrom ⟨rfl, rfl⟩ ?_
    rintro μ2 ⟨hF, hc⟩
    have e2 : μ2.1 61 1 = nI m := by rw [hF.1 61 (by simp; omega)]; exact e1
    have eP : μ2.2.2 = μ1.2.2 := by rw [hF.2]
    refine z_aload_0 iX0_remember_26 ?_
    refine z_dup iX0_remember_27 rfl ?_
    refine m_getI iX0_remember_28 g_0_18 rfl ?_
    refine z_top (e2) ?_
    refine z_iconst iX0_remember_31 kI_1 ?_
    refine z_iaddN iX0_remember_32 ?_
    refine m_putI iX0_remember_33 p_0_18 rfl ?_
    refine m_vret hE iX0_remember_36 ⟨⟨fun a ha hb => ?_, ?_⟩, ?_, ?_, ?_, ?_⟩
    · rw [mw_other _ _ ha, hF.1 a (by simp; omega), hs a ha]
    · show μ2.2.1 = _
      rw [hF.2]; exact hl
    · omega
    · rw [mw_same, en]
    · exact ⟨fun k hk => by show ∃ j, j < 14 ∧ μ2.2.2 k = _; rw [eP]; exact hP1.1 k hk, fun k k' hk hk' q => hP1.2 k k' hk hk' (by rw [← eP]; exact q)⟩
    · intro k hk
      show HoldAt _ (μ2.2.2 k) R _
      rw [eP, eA k (by omega)]
      obtain ⟨jk, hjk, ejk⟩ := hP1.1 k (by omega)
      by_cases e : k = m
      · subst e
        rw [if_pos rfl]
        exact (hc R H hH1 hR0).row (fun i hi => mw_other _ _ (by omega))
      · rw [if_neg e]
        have hne : jk ≠ j := fun z => e (hP1.2 k m (by omega) hm (by rw [ejk, ej, z]))
        exact (hB k (by omega)).row (fun i hi => by rw [mw_other _ _ (by omega)]; exact hF.1 _ (by simp; omega))
  refine z_aload_0 iX0_remember_0 ?_
  refine m_getI iX0_remember_1 g_0_18 rfl ?_
  refine z_top (hsz) ?_
  refine z_bipush iX0_remember_4 kB_14 ?_
  refine z_icmp_ltN iX0_remember_6 (by omega) (by omega) (fun q => ?_) (fun q => ?_)
  · refine rest n A μ q hsz hP (fun _ _ => rfl) rfl hAk (by unfold pushN; rw [if_pos q]) (fun k hk => by unfold pushA; rw [if_pos q])
  · refine z_aload_0 iX0_remember_9 ?_
    refine m_callVv iX0_remember_10 l_0_22 f_X0_forgetFirst (c_X0_forgetFirst G _ hP) rfl rfl rfl (Nat.le_of_ble_eq_true rfl) hR ft_X0_remember_X0_forgetFirst ⟨rfl, rfl⟩ ?_
    rintro μ1 ⟨q1, q2, q3, q4⟩
    refine rest 13 (fun k => A (k + 1)) μ1 (by omega) q3 (hP.rot q4) q1 q2 ?_ (by unfold pushN; rw [if_neg (by omega)]) (fun k hk => by unfold pushA; rw [if_neg (by omega)])
    intro k hk
    rw [q4 k (by omega), if_pos hk]
    obtain ⟨j, hj, ej⟩ := hP.1 (k + 1) (by omega)
    exact (hAk (k + 1) (by omega)).row (fun i hi => q1 _ (by omega))
/-- Acts.takeBack -/
theorem c_X0_takeBack (G : qG) (l : Launch) {μ : Mem} {R : Rl} {n : Nat} {A : Nat → Hd} (hR0 : RlOK R) (hA : ActsAt μ R (n + 1) A) : CtrV G l M_X0_takeBack [.ref (qB G + 61), .ref (qB G + 38)] μ (fun μ' => Fr [61, 38, 39, 40, 41] μ μ' ∧ ActsAt μ' R n A ∧ HoldAt μ' 38 R (A n)) := by
  refine m_enterV [some (.ref (qB G + 61)), some (.ref (qB G + 38))] (by decide +kernel) rfl (Nat.le_of_ble_eq_true rfl) rfl (fun X hE hR => ?_)
  have hR : qR X = rm_X0_takeBack := hR
  show Zm G X cX0_takeBack RX0 _ 0 [some (.ref (qB G + 61)), some (.ref (qB G + 38))] []
  obtain ⟨hn, hsz, hP, hAk⟩ := hA
  obtain ⟨j, hj, ej⟩ := hP.1 n (by omega)
  have hh := isHold_act j hj
  rw [← ej] at hh
  refine z_aload_0 iX0_takeBack_0 ?_
  refine m_getI iX0_takeBack_1 g_0_18 rfl ?_
  refine z_top (hsz) ?_
  refine z_if_leN iX0_takeBack_4 (by omega) (fun q => ?_) (fun q => ?_)
  · omega
  · refine z_aload_0 iX0_takeBack_7 ?_
    refine z_dup iX0_takeBack_8 rfl ?_
    refine m_getI iX0_takeBack_9 g_0_18 rfl ?_
    refine z_top (hsz) ?_
    refine z_iconst iX0_takeBack_12 kI_1 ?_
    refine z_isubN iX0_takeBack_13 (by omega) ?_
    refine m_putI iX0_takeBack_14 p_0_18 rfl ?_
    refine z_aload_1 iX0_takeBack_17 ?_
    refine z_aload_0 iX0_takeBack_18 ?_
    refine m_getR iX0_takeBack_19 g_0_11 rfl ?_
    refine z_aload_0 iX0_takeBack_22 ?_
    refine m_getI iX0_takeBack_23 g_0_18 rfl ?_
    refine z_top (mw_same _ _ _ _) ?_
    refine m_aaldB iX0_takeBack_26 rfl (by omega) ?_
    refine m_callVv iX0_takeBack_27 l_0_25 f_X5_copyFrom (c_X5_copyFrom G _ isHold_38 hh (by omega)) rfl rfl rfl (Nat.le_of_ble_eq_true rfl) hR ft_X0_takeBack_X5_copyFrom ⟨rfl, rfl⟩ ?_
    rintro μ2 ⟨hF, hc⟩
    refine m_vret hE iX0_takeBack_30 ⟨?_, ⟨by omega, ?_, ?_, ?_⟩, ?_⟩
    · exact (Fr.rf.mw _ _ (by decide)).trans (hF.mono (fun a h => by simp at h ⊢; omega))
    · rw [hF.1 61 (by decide), mw_same]; rfl
    · exact ⟨fun k hk => by rw [hF.2]; exact hP.1 k hk, fun k k' hk hk' q => hP.2 k k' hk hk' (by rw [hF.2] at q; exact q)⟩
    · intro k hk
      rw [hF.2]
      obtain ⟨jk, hjk, ejk⟩ := hP.1 k (by omega)
      refine (hAk k (by omega)).row (fun i hi => ?_)
      show μ2.1 (μ.2.2 k + i) = _
      rw [hF.1 _ (by simp; omega), mw_other _ _ (by omega)]
    · refine hc R (A n) ?_ hR0
      exact (hAk n (by omega)).row (fun i hi => mw_other _ _ (by show μ.2.2 n + i ≠ 61; omega))
/-- Acts.forget -/
theorem c_X0_forget (G : qG) (l : Launch) {μ : Mem} : CtrV G l M_X0_forget [.ref (qB G + 61)] μ (fun μ' => μ' = mw μ 61 1 (nI 0)) := by
  refine m_enterV [some (.ref (qB G + 61))] (by decide +kernel) rfl (Nat.le_of_ble_eq_true rfl) rfl (fun X hE hR => ?_)
  have hR : qR X = rm_X0_forget := hR
  show Zm G X cX0_forget RX0 _ 0 [some (.ref (qB G + 61))] []
  refine z_aload_0 iX0_forget_0 ?_
  refine z_iconst iX0_forget_1 kI_0 ?_
  refine m_putI iX0_forget_2 p_0_18 rfl ?_
  exact m_vret hE iX0_forget_5 rfl

/-! THE CLASS'S CALLS that change the state -/
theorem ActsAt.kept {μ μ' : Mem} {R : Rl} {n : Nat} {A : Nat → Hd} (h : ActsAt μ R n A) (e1 : μ'.1 61 1 = μ.1 61 1) (e2 : ∀ a, 63 ≤ a → a ≤ 118 → μ'.1 a = μ.1 a) (hp : μ'.2.2 = μ.2.2) : ActsAt μ' R n A := by
  obtain ⟨a1, a2, a3, a4⟩ := h
  refine ⟨a1, e1.trans a2, ⟨fun k hk => by rw [hp]; exact a3.1 k hk, fun k k' hk hk' q => a3.2 k k' hk hk' (by rw [hp] at q; exact q)⟩, fun k hk => ?_⟩
  rw [hp]
  obtain ⟨j, hj, ej⟩ := a3.1 k (by omega)
  exact (a4 k hk).row (fun i hi => e2 _ (by omega) (by omega))
theorem SeenAt.kept {μ μ' : Mem} {ns : Nat} {sf sh : Nat → Nat} (h : SeenAt μ ns sf sh) (e1 : μ'.1 125 4 = μ.1 125 4) (e2 : μ'.1 128 = μ.1 128) (e3 : μ'.1 129 = μ.1 129) : SeenAt μ' ns sf sh := ⟨h.1, e1.trans h.2.1, fun k hk => by rw [e2, e3]; exact h.2.2 k hk⟩
def SlotAt (μ : Mem) (R : Rl) (K : Nat → Bool) (KH : Nat → Hd) : Prop := ∀ k, k < 2 → μ.1 131 k = nI (if K k then 1 else 0) ∧ (K k = true → HoldAt μ (132 + 4 * k) R (KH k))
theorem SlotAt.kept {μ μ' : Mem} {R : Rl} {K : Nat → Bool} {KH : Nat → Hd} (h : SlotAt μ R K KH) (e : ∀ a, 131 ≤ a → a ≤ 139 → μ'.1 a = μ.1 a) : SlotAt μ' R K KH := fun k hk => ⟨by rw [e _ (by omega) (by omega)]; exact (h k hk).1, fun q => ((h k hk).2 q).row (fun i hi => e _ (by omega) (by omega))⟩
/-- the state with other holdings and acts -/
def setHA (S : St) (H : Hd) (n : Nat) (A : Nat → Hd) : St := (S.1, (sR S, H), (n, A), S.2.2.2)
def aBazaar (S : St) : Int32 × St := match (rdRun (sTx S) (sLn S) 0 rd0).1 with
  | some _ => (-3, S)
  | none => (nI (10 * rFc (rdRun (sTx S) (sLn S) 0 rd0).2.2.2 + rGc (rdRun (sTx S) (sLn S) 0 rd0).2.2.2), (S.1, ((rdRun (sTx S) (sLn S) 0 rd0).2.2.2, openH (rdRun (sTx S) (sLn S) 0 rd0).2.2.2), (0, sA S), ((fun _ => false), sKH S), S.2.2.2.2))
theorem rdRun_some_le (tx : Nat → Nat) : ∀ n i s j, (rdRun tx n i s).1 = some j → j ≤ n + i
  | 0, i, s, j, h => by
    unfold rdRun at h
    split at h
    · cases h
    · cases h; omega
  | n + 1, i, s, j, h => by
    unfold rdRun at h
    split at h
    · cases h; omega
    · have := rdRun_some_le tx n (i + 1) _ j h; omega
theorem c_X10_bazaar (G : qG) (l : Launch) {μ : Mem} {S : St} (h : CAt μ S) : CtrI G l M_X10_bazaar [.ref (qB G + 0)] μ (CP μ (aBazaar S)) := by
  refine m_enterI [some (.ref (qB G + 0)), none] (by decide +kernel) rfl (Nat.le_of_ble_eq_true rfl) (fun X hE hR => ?_)
  have hR : qR X = rm_X10_bazaar := hR
  have hE : EI G X _ (some .int) := hE
  show Zm G X cX10_bazaar RX10 _ 0 [some (.ref (qB G + 0)), none] []
  obtain ⟨c0, c1, c2, c3, c4, c5, c6, c7, c8, c9⟩ := id h
  refine z_aload_0 iX10_bazaar_0 ?_
  refine m_getR iX10_bazaar_1 g_10_25 rfl ?_
  refine z_aload_0 iX10_bazaar_4 ?_
  refine m_getR iX10_bazaar_5 g_10_9 rfl ?_
  refine z_aload_0 iX10_bazaar_8 ?_
  refine m_getI iX10_bazaar_9 g_10_92 rfl ?_
  refine z_top (c1) ?_
  refine m_callVi iX10_bazaar_12 l_10_96 f_X6_faultOf (c_X6_faultOf G _ c0.1 (fun i hi => ⟨c2 i hi, c0.2.1 i hi⟩)) rfl rfl rfl (Nat.le_of_ble_eq_true rfl) hR ft_X10_bazaar_X6_faultOf ⟨rfl, rfl⟩ ?_
  rintro r μ1 ⟨hF, rfl, hok⟩
  have e0 : aBazaar S = match (rdRun (sTx S) (sLn S) 0 rd0).1 with
    | some _ => (-3, S)
    | none => (nI (10 * rFc (rdRun (sTx S) (sLn S) 0 rd0).2.2.2 + rGc (rdRun (sTx S) (sLn S) 0 rd0).2.2.2), (S.1, ((rdRun (sTx S) (sLn S) 0 rd0).2.2.2, openH (rdRun (sTx S) (sLn S) 0 rd0).2.2.2), (0, sA S), ((fun _ => false), sKH S), S.2.2.2.2)) := rfl
  cases hf : (rdRun (sTx S) (sLn S) 0 rd0).1 with
  | some j =>
    have hj := rdRun_some_le _ _ _ _ _ hf
    have hl := c0.1
    rw [hf] at e0
    refine z_bipush (x := -9) iX10_bazaar_15 (by decide) ?_
    refine z_icmp_eq iX10_bazaar_17 (fun q => ?_) (fun q => ?_)
    · exact absurd q (fun z => nI_pos (n := j) (by omega) (by have z2 : nI j = -9 := z; rw [z2]; decide))
    · refine z_bipush (x := -3) iX10_bazaar_20 (by decide) ?_
      refine m_iret hE iX10_bazaar_22 ⟨by rw [e0], by rw [e0]; exact h.fr hF dS_scr, hF.ms (by decide)⟩
  | none =>
    rw [hf] at e0
    obtain ⟨hRO, hD⟩ := hok hf
    generalize hRn : (rdRun (sTx S) (sLn S) 0 rd0).2.2.2 = Rn at hRO hD e0
    refine z_bipush (x := -9) iX10_bazaar_15 (by decide) ?_
    refine z_icmp_eq iX10_bazaar_17 (fun q => ?_) (fun q => ?_)
    · refine z_aload_0 iX10_bazaar_23 ?_
      refine m_getR iX10_bazaar_24 g_10_29 rfl ?_
      refine z_aload_0 iX10_bazaar_27 ?_
      refine m_getR iX10_bazaar_28 g_10_16 rfl ?_
      refine m_callVv iX10_bazaar_31 l_10_100 f_X7_copyFrom (c_X7_copyFrom G _ hRO hD) rfl rfl rfl (Nat.le_of_ble_eq_true rfl) hR ft_X10_bazaar_X7_copyFrom ⟨rfl, rfl⟩ ?_
      rintro μ2 ⟨hF2, hR2⟩
      refine z_aload_0 iX10_bazaar_34 ?_
      refine m_getR iX10_bazaar_35 g_10_44 rfl ?_
      refine m_getR iX10_bazaar_38 g_10_103 rfl ?_
      refine z_aload_0 iX10_bazaar_41 ?_
      refine m_getR iX10_bazaar_42 g_10_29 rfl ?_
      refine m_callVv iX10_bazaar_45 l_10_107 f_X5_openFor (c_X5_openFor G _ hRO hR2) rfl rfl rfl (Nat.le_of_ble_eq_true rfl) hR ft_X10_bazaar_X5_openFor ⟨rfl, rfl⟩ ?_
      rintro μ3 ⟨hF3, hH3⟩
      refine z_aload_0 iX10_bazaar_48 ?_
      refine m_getR iX10_bazaar_49 g_10_54 rfl ?_
      refine m_callVv iX10_bazaar_52 l_10_110 f_X0_forget (c_X0_forget G _) rfl rfl rfl (Nat.le_of_ble_eq_true rfl) hR ft_X10_bazaar_X0_forget ⟨rfl, rfl⟩ ?_
      rintro μ4 rfl
      have keep : ∀ a, a ∉ dS → a ∉ rS → a ∉ [38, 39, 40, 41] → μ3.1 a = μ.1 a := fun a h1 h2 h3 => by rw [hF3.1 a h3, hF2.1 a h2, hF.1 a h1]
      have keep2 : μ3.2 = μ.2 := by rw [hF3.2, hF2.2, hF.2]
      have no : ∀ {a : Nat}, (a = 0 ∨ a = 1 ∨ (61 ≤ a ∧ a ≤ 118) ∨ (125 ≤ a)) → μ3.1 a = μ.1 a := fun {a} q => keep a (fun z => by unfold dS at z; simp at z; omega) (fun z => by unfold rS at z; simp at z; omega) (fun z => by simp at z; omega)
      have hR3 : RollAt μ3 Rn := hR2.fr hRO hF3 (by decide)
      have fin : ∀ μ5 : Mem, Fr [131] (mw μ3 61 1 (nI 0)) μ5 → μ5.1 131 0 = nI 0 → μ5.1 131 1 = nI 0 → Zm G X cX10_bazaar RX10 μ5 75 [some (.ref (qB G + 0)), some (.int (nI 2))] [] := by
        intro μ5 hF5 z0 z1
        have hR5 : RollAt μ5 Rn := (hR3.kept hRO (fun a h1 h2 => mw_other _ _ (by omega))).fr hRO hF5 (by decide)
        have s5 : ∀ a, a ≠ 131 → a ≠ 61 → μ5.1 a = μ3.1 a := fun a h1 h2 => by rw [hF5.1 a (by simp; omega), mw_other _ _ h2]
        refine z_bipush iX10_bazaar_75 kB_10 ?_
        refine z_aload_0 iX10_bazaar_77 ?_
        refine m_getR iX10_bazaar_78 g_10_29 rfl ?_
        refine m_getI iX10_bazaar_81 g_10_113 rfl ?_
        refine z_top (hR5.1) ?_
        refine z_imulN iX10_bazaar_84 ?_
        refine z_aload_0 iX10_bazaar_85 ?_
        refine m_getR iX10_bazaar_86 g_10_29 rfl ?_
        refine m_getI iX10_bazaar_89 g_10_116 rfl ?_
        refine z_top (hR5.2.1) ?_
        refine z_iaddN iX10_bazaar_92 ?_
        refine m_iret hE iX10_bazaar_93 ⟨by rw [e0], ?_, ?_⟩
        · rw [e0]
          refine ⟨⟨c0.1, c0.2.1, hRO, openOK hRO, Nat.zero_le _, fun k hk => absurd hk (Nat.not_lt_zero k), (fun k _ hk => by cases hk), c0.2.2.2.2.2.2.2⟩, ?_, ?_, hR5, ?_, ?_, ?_, ?_, ?_, ?_⟩
          · rw [s5 0 (by omega) (by omega), no (by omega)]; exact c1
          · intro i hi; rw [s5 1 (by omega) (by omega), no (by omega)]; exact c2 i hi
          · exact hH3.row (fun i hi => s5 _ (by omega) (by omega))
          · refine ⟨Nat.zero_le _, by rw [hF5.1 61 (by decide), mw_same]; rfl, ?_, fun k hk => absurd hk (Nat.not_lt_zero k)⟩
            obtain ⟨a1, a2, a3, a4⟩ := c5
            have hp : μ5.2.2 = μ.2.2 := by rw [hF5.2]; show μ3.2.2 = _; rw [keep2]
            exact ⟨fun k hk => by rw [hp]; exact a3.1 k hk, fun k k' hk hk' q => a3.2 k k' hk hk' (by rw [hp] at q; exact q)⟩
          · intro k hk
            refine ⟨?_, fun z => by cases z⟩
            rcases (show k = 0 ∨ k = 1 by omega) with rfl | rfl
            · exact z0
            · exact z1
          · exact c7.kept (by rw [s5 125 (by omega) (by omega), no (by omega)]) (by rw [s5 128 (by omega) (by omega), no (by omega)]) (by rw [s5 129 (by omega) (by omega), no (by omega)])
          · rw [hF5.2]; show μ3.2.1 0 = _; rw [keep2]; exact c8
          · rw [s5 126 (by omega) (by omega), no (by omega)]; exact c9
        · intro a ha
          refine ⟨by rw [s5 a (by omega) (by omega), no (by omega)], ?_⟩
          rw [hF5.2]; show μ3.2.1 a = _; rw [keep2]
      refine z_iconst iX10_bazaar_55 kI_0 ?_
      refine z_istore_1 iX10_bazaar_56 rfl ?_
      refine z_iload_1 iX10_bazaar_57 ?_
      refine z_iconst iX10_bazaar_58 kI_2 ?_
      refine z_icmp_geN iX10_bazaar_59 (by omega) (by omega) (fun q2 => ?_) (fun q2 => ?_)
      · omega
      · refine z_aload_0 iX10_bazaar_62 ?_
        refine m_getR iX10_bazaar_63 g_10_87 rfl ?_
        refine z_iload_1 iX10_bazaar_66 ?_
        refine z_iconst iX10_bazaar_67 kI_0 ?_
        refine m_zastN iX10_bazaar_68 rfl (by decide) (by decide) ?_
        refine z_iinc_1N iX10_bazaar_69 rfl ?_
        refine z_goto iX10_bazaar_72 ?_
        refine z_iload_1 iX10_bazaar_57 ?_
        refine z_iconst iX10_bazaar_58 kI_2 ?_
        refine z_icmp_geN iX10_bazaar_59 (by omega) (by omega) (fun q3 => ?_) (fun q3 => ?_)
        · omega
        · refine z_aload_0 iX10_bazaar_62 ?_
          refine m_getR iX10_bazaar_63 g_10_87 rfl ?_
          refine z_iload_1 iX10_bazaar_66 ?_
          refine z_iconst iX10_bazaar_67 kI_0 ?_
          refine m_zastN iX10_bazaar_68 rfl (by decide) (by decide) ?_
          refine z_iinc_1N iX10_bazaar_69 rfl ?_
          refine z_goto iX10_bazaar_72 ?_
          refine z_iload_1 iX10_bazaar_57 ?_
          refine z_iconst iX10_bazaar_58 kI_2 ?_
          refine z_icmp_geN iX10_bazaar_59 (by omega) (by omega) (fun q4 => ?_) (fun q4 => ?_)
          · exact fin _ ((Fr.rf.mw _ _ (by decide)).mw _ _ (by decide)) (by rw [mw_ne _ _ (Or.inr (by decide)), mw_same]) (by rw [mw_same])
          · omega
    · exact absurd rfl q
/-- an act: remembered, done -/
theorem CAt.acted {μ μ1 μ2 : Mem} {S : St} {H' : Hd} {L : List Nat} (h : CAt μ S) (hA1 : ActFr μ μ1) (hA : ActsAt μ1 (sR S) (pushN (sN S)) (pushA (sN S) (sA S) (sH S))) (hF : Fr L μ1 μ2) (hL : ∀ a, a ∈ L → a = 35 ∨ a = 36 ∨ (38 ≤ a ∧ a ≤ 41)) (hH : HoldAt μ2 38 (sR S) H') (hO : HdOK (sR S) H') : CAt μ2 (setHA S H' (pushN (sN S)) (pushA (sN S) (sA S) (sH S))) ∧ MSame μ μ2 := by
  obtain ⟨c0, c1, c2, c3, c4, c5, c6, c7, c8, c9⟩ := h
  have k1 : ∀ a, ¬ (a = 35 ∨ a = 36 ∨ (38 ≤ a ∧ a ≤ 41)) → μ2.1 a = μ1.1 a := fun a q => hF.1 a (fun z => q (hL a z))
  have k0 : ∀ {a : Nat}, (a = 0 ∨ a = 1 ∨ (19 ≤ a ∧ a ≤ 34) ∨ (119 ≤ a)) → μ2.1 a = μ.1 a := fun {a} q => by rw [k1 a (by omega), hA1.1 a (by omega) (by omega)]
  refine ⟨⟨⟨c0.1, c0.2.1, c0.2.2.1, hO, ?_, ?_, c0.2.2.2.2.2.2⟩, by rw [k0 (by omega)]; exact c1, fun i hi => by rw [k0 (by omega)]; exact c2 i hi, c3.kept c0.2.2.1 (fun a h1 h2 => k0 (by omega)), hH, hA.kept (by rw [k1 61 (by omega)]) (fun a h1 h2 => k1 a (by omega)) (by rw [hF.2]), SlotAt.kept c6 (fun a h1 h2 => k0 (by omega)), c7.kept (by rw [k0 (by omega)]) (k0 (by omega)) (k0 (by omega)), ?_, by rw [k0 (by omega)]; exact c9⟩, fun a ha => ⟨k0 (by omega), by rw [hF.2, hA1.2]⟩⟩
  · show pushN (sN S) ≤ 14
    unfold pushN; split <;> omega
  · intro k hk
    show HdOK (sR S) (pushA (sN S) (sA S) (sH S) k)
    have hk' : k < pushN (sN S) := hk
    have h14 : sN S ≤ 14 := c0.2.2.2.2.1
    unfold pushN at hk'
    unfold pushA
    by_cases q : sN S < 14
    · rw [if_pos q] at hk' ⊢
      by_cases e : k = sN S
      · simp only [e, if_pos]; exact c0.2.2.2.1
      · simp only [e, if_false]; exact c0.2.2.2.2.2.1 k (by omega)
    · rw [if_neg q] at hk' ⊢
      by_cases e : k = 13
      · simp only [e, if_pos]; exact c0.2.2.2.1
      · simp only [e, if_false]; exact c0.2.2.2.2.2.1 (k + 1) (by omega)
  · rw [hF.2, hA1.2]; exact c8
def qTrade (S : St) (x y : Int32) : Int32 := match idx x (rFc (sR S)), idx y (rGc (sR S)) with
  | some f, some g => if hOw (sH S) g = f then -3 else -9
  | _, _ => -1
/-- FoilBazaar.refusalOfTrade -/
theorem c_X10_refusalOfTrade (G : qG) (l : Launch) {μ : Mem} {S : St} (h : CAt μ S) (x y : Int32) : CtrI G l M_X10_refusalOfTrade [.ref (qB G + 0), .int x, .int y] μ (fun r μ' => μ' = μ ∧ ((r = -1 ∧ (idx x (rFc (sR S)) = none ∨ idx y (rGc (sR S)) = none)) ∨ ∃ f g, f < rFc (sR S) ∧ g < rGc (sR S) ∧ x = nI f ∧ y = nI g ∧ ((r = -3 ∧ hOw (sH S) g = f) ∨ (r = -9 ∧ hOw (sH S) g ≠ f)))) := by
  refine m_enterI [some (.ref (qB G + 0)), some (.int x), some (.int y)] (by decide +kernel) rfl (Nat.le_of_ble_eq_true rfl) (fun X hE hR => ?_)
  have hR : qR X = rm_X10_refusalOfTrade := hR
  have hE : EI G X _ (some .int) := hE
  show Zm G X cX10_refusalOfTrade RX10 _ 0 [some (.ref (qB G + 0)), some (.int x), some (.int y)] []
  obtain ⟨c0, c1, c2, c3, c4, c5, c6, c7, c8, c9⟩ := id h
  have h6 := c0.2.2.1.1
  have h5 := c0.2.2.1.2.1
  refine z_aload_0 iX10_refusalOfTrade_0 ?_
  refine m_getR iX10_refusalOfTrade_1 g_10_29 rfl ?_
  refine z_iload_1 iX10_refusalOfTrade_4 ?_
  refine m_callVi iX10_refusalOfTrade_5 l_10_119 f_X7_hasFencer (c_X7_hasFencer G _ rfl c3.1 (by omega) x) rfl rfl rfl (Nat.le_of_ble_eq_true rfl) hR ft_X10_refusalOfTrade_X7_hasFencer ⟨rfl, rfl⟩ ?_
  rintro r μ1 ⟨rfl, ⟨rfl, f, hf, rfl⟩ | ⟨rfl, hn⟩⟩
  · refine z_if_eq iX10_refusalOfTrade_8 (fun q => ?_) (fun q => ?_)
    · exact absurd q nI10
    · refine z_aload_0 iX10_refusalOfTrade_11 ?_
      refine m_getR iX10_refusalOfTrade_12 g_10_29 rfl ?_
      refine z_iload_2 iX10_refusalOfTrade_15 ?_
      refine m_callVi iX10_refusalOfTrade_16 l_10_152 f_X7_hasGood (c_X7_hasGood G _ rfl c3.2.1 (by omega) y) rfl rfl rfl (Nat.le_of_ble_eq_true rfl) hR ft_X10_refusalOfTrade_X7_hasGood ⟨rfl, rfl⟩ ?_
      rintro r μ2 ⟨rfl, ⟨rfl, g, hg, rfl⟩ | ⟨rfl, hn⟩⟩
      · refine z_if_ne iX10_refusalOfTrade_19 (fun q => ?_) (fun q => ?_)
        · have ho := c0.2.2.2.1.1 g hg
          refine z_aload_0 iX10_refusalOfTrade_24 ?_
          refine m_getR iX10_refusalOfTrade_25 g_10_44 rfl ?_
          refine m_getR iX10_refusalOfTrade_28 g_10_103 rfl ?_
          refine m_getR iX10_refusalOfTrade_31 g_10_155 rfl ?_
          refine z_iload_2 iX10_refusalOfTrade_34 ?_
          refine m_ialdN iX10_refusalOfTrade_35 rfl (by omega) ?_
          refine z_top (c4.1 g hg) ?_
          refine z_iload_1 iX10_refusalOfTrade_36 ?_
          refine z_icmp_neN iX10_refusalOfTrade_37 (by omega) (by omega) (fun q2 => ?_) (fun q2 => ?_)
          · refine z_bipush (x := -9) iX10_refusalOfTrade_45 (by decide) ?_
            exact m_iret hE iX10_refusalOfTrade_47 ⟨rfl, Or.inr ⟨f, g, hf, hg, rfl, rfl, Or.inr ⟨rfl, q2⟩⟩⟩
          · refine z_bipush (x := -3) iX10_refusalOfTrade_40 (by decide) ?_
            refine z_goto iX10_refusalOfTrade_42 ?_
            exact m_iret hE iX10_refusalOfTrade_47 ⟨rfl, Or.inr ⟨f, g, hf, hg, rfl, rfl, Or.inl ⟨rfl, q2⟩⟩⟩
        · exact absurd q nI10
      · refine z_if_ne iX10_refusalOfTrade_19 (fun q => ?_) (fun q => ?_)
        · exact absurd nI00 q
        · refine z_iconst (x := -1) iX10_refusalOfTrade_22 (by decide) ?_
          exact m_iret hE iX10_refusalOfTrade_23 ⟨rfl, Or.inl ⟨rfl, Or.inr (idx_none hn)⟩⟩
  · refine z_if_eq iX10_refusalOfTrade_8 (fun q => ?_) (fun q => ?_)
    · refine z_iconst (x := -1) iX10_refusalOfTrade_22 (by decide) ?_
      exact m_iret hE iX10_refusalOfTrade_23 ⟨rfl, Or.inl ⟨rfl, Or.inl (idx_none hn)⟩⟩
    · exact absurd nI00 q
def aMeet (S : St) (x y : Int32) : Int32 × St := match idx x (rFc (sR S)), idx y (rGc (sR S)) with
  | some f, some g => if hOw (sH S) g = f then (-3, S) else (nI (hOw (meetH (sR S) (sH S) f g) g), setHA S (meetH (sR S) (sH S) f g) (pushN (sN S)) (pushA (sN S) (sA S) (sH S)))
  | _, _ => (-1, S)
theorem aMeet_no {S : St} {x y : Int32} (h : idx x (rFc (sR S)) = none ∨ idx y (rGc (sR S)) = none) : aMeet S x y = (-1, S) := by
  unfold aMeet
  rcases h with h | h
  · rw [h]
  · rw [h]; cases idx x (rFc (sR S)) <;> rfl
theorem c_X10_meet (G : qG) (l : Launch) {μ : Mem} {S : St} (h : CAt μ S) (x y : Int32) : CtrI G l M_X10_meet [.ref (qB G + 0), .int x, .int y] μ (CP μ (aMeet S x y)) := by
  refine m_enterI [some (.ref (qB G + 0)), some (.int x), some (.int y), none] (by decide +kernel) rfl (Nat.le_of_ble_eq_true rfl) (fun X hE hR => ?_)
  have hR : qR X = rm_X10_meet := hR
  have hE : EI G X _ (some .int) := hE
  show Zm G X cX10_meet RX10 _ 0 [some (.ref (qB G + 0)), some (.int x), some (.int y), none] []
  obtain ⟨c0, c1, c2, c3, c4, c5, c6, c7, c8, c9⟩ := id h
  have h6 := c0.2.2.1.1
  have h5 := c0.2.2.1.2.1
  refine z_aload_0 iX10_meet_0 ?_
  refine z_iload_1 iX10_meet_1 ?_
  refine z_iload_2 iX10_meet_2 ?_
  refine m_callVi iX10_meet_3 l_10_181 f_X10_refusalOfTrade (c_X10_refusalOfTrade G _ h x y) rfl rfl rfl (Nat.le_of_ble_eq_true rfl) hR ft_X10_meet_X10_refusalOfTrade ⟨rfl, rfl⟩ ?_
  rintro r μ1 ⟨rfl, ⟨rfl, hn⟩ | ⟨f, g, hf, hg, rfl, rfl, ⟨rfl, ho⟩ | ⟨rfl, ho⟩⟩⟩
  · refine z_istore_3 iX10_meet_6 rfl ?_
    refine z_iload_3 iX10_meet_7 ?_
    refine z_bipush (x := -9) iX10_meet_8 (by decide) ?_
    refine z_icmp_eq iX10_meet_10 (fun q => ?_) (fun q => ?_)
    · exact absurd q (by decide)
    · refine z_iload_3 iX10_meet_13 ?_
      exact m_iret hE iX10_meet_14 ⟨by rw [aMeet_no hn], by rw [aMeet_no hn]; exact h, MSame.rf⟩
  · have e : aMeet S (nI f) (nI g) = (-3, S) := by unfold aMeet; rw [idx_some (by omega) hf, idx_some (by omega) hg]; exact if_pos ho
    refine z_istore_3 iX10_meet_6 rfl ?_
    refine z_iload_3 iX10_meet_7 ?_
    refine z_bipush (x := -9) iX10_meet_8 (by decide) ?_
    refine z_icmp_eq iX10_meet_10 (fun q => ?_) (fun q => ?_)
    · exact absurd q (by decide)
    · refine z_iload_3 iX10_meet_13 ?_
      exact m_iret hE iX10_meet_14 ⟨by rw [e], by rw [e]; exact h, MSame.rf⟩
  · have e : aMeet S (nI f) (nI g) = (nI (hOw (meetH (sR S) (sH S) f g) g), setHA S (meetH (sR S) (sH S) f g) (pushN (sN S)) (pushA (sN S) (sA S) (sH S))) := by unfold aMeet; rw [idx_some (by omega) hf, idx_some (by omega) hg]; exact if_neg ho
    refine z_istore_3 iX10_meet_6 rfl ?_
    refine z_iload_3 iX10_meet_7 ?_
    refine z_bipush (x := -9) iX10_meet_8 (by decide) ?_
    refine z_icmp_eq iX10_meet_10 (fun q => ?_) (fun q => ?_)
    · refine z_aload_0 iX10_meet_15 ?_
      refine m_getR iX10_meet_16 g_10_54 rfl ?_
      refine z_aload_0 iX10_meet_19 ?_
      refine m_getR iX10_meet_20 g_10_44 rfl ?_
      refine m_getR iX10_meet_23 g_10_103 rfl ?_
      refine m_callVv iX10_meet_26 l_10_188 f_X0_remember (c_X0_remember G _ c0.2.2.1 c5 c4) rfl rfl rfl (Nat.le_of_ble_eq_true rfl) hR ft_X10_meet_X0_remember ⟨rfl, rfl⟩ ?_
      rintro μ2 ⟨hA1, hA⟩
      have hR2 : RollAt μ2 (sR S) := c3.kept c0.2.2.1 (fun a h1 h2 => hA1.1 a (by omega) (by omega))
      have hH2 : HoldAt μ2 38 (sR S) (sH S) := c4.row (fun i hi => hA1.1 _ (by omega) (by omega))
      refine z_aload_0 iX10_meet_29 ?_
      refine m_getR iX10_meet_30 g_10_44 rfl ?_
      refine z_iload_1 iX10_meet_33 ?_
      refine z_iload_2 iX10_meet_34 ?_
      refine m_callVv iX10_meet_35 l_10_192 f_X8_letMeet (c_X8_letMeet G _ isSal_37 c0.2.2.1 c0.2.2.2.1 hR2 hH2 hf hg) rfl rfl rfl (Nat.le_of_ble_eq_true rfl) hR ft_X10_meet_X8_letMeet ⟨rfl, rfl⟩ ?_
      rintro μ3 ⟨hF3, hH3⟩
      refine z_aload_0 iX10_meet_38 ?_
      refine m_getR iX10_meet_39 g_10_44 rfl ?_
      refine m_getR iX10_meet_42 g_10_103 rfl ?_
      refine m_getR iX10_meet_45 g_10_155 rfl ?_
      refine z_iload_2 iX10_meet_48 ?_
      refine m_ialdN iX10_meet_49 rfl (by omega) ?_
      refine z_top (hH3.1 g hg) ?_
      have hc := h.acted hA1 hA hF3 (fun a z => by simp at z; omega) hH3 (meetOK c0.2.2.1 c0.2.2.2.1 hf hg)
      exact m_iret hE iX10_meet_50 ⟨by rw [e], by rw [e]; exact hc.1, hc.2⟩
    · exact absurd rfl q
def aStep (S : St) (x : Int32) : Int32 × St := match idx x (rFc (sR S)) with
  | some f => (nI (hFe (stepH (sR S) (sH S) f) f), setHA S (stepH (sR S) (sH S) f) (pushN (sN S)) (pushA (sN S) (sA S) (sH S)))
  | none => (-1, S)
theorem c_X10_step (G : qG) (l : Launch) {μ : Mem} {S : St} (h : CAt μ S) (x : Int32) : CtrI G l M_X10_step [.ref (qB G + 0), .int x] μ (CP μ (aStep S x)) := by
  refine m_enterI [some (.ref (qB G + 0)), some (.int x)] (by decide +kernel) rfl (Nat.le_of_ble_eq_true rfl) (fun X hE hR => ?_)
  have hR : qR X = rm_X10_step := hR
  have hE : EI G X _ (some .int) := hE
  show Zm G X cX10_step RX10 _ 0 [some (.ref (qB G + 0)), some (.int x)] []
  obtain ⟨c0, c1, c2, c3, c4, c5, c6, c7, c8, c9⟩ := id h
  have h6 := c0.2.2.1.1
  refine z_aload_0 iX10_step_0 ?_
  refine m_getR iX10_step_1 g_10_29 rfl ?_
  refine z_iload_1 iX10_step_4 ?_
  refine m_callVi iX10_step_5 l_10_119 f_X7_hasFencer (c_X7_hasFencer G _ rfl c3.1 (by omega) x) rfl rfl rfl (Nat.le_of_ble_eq_true rfl) hR ft_X10_step_X7_hasFencer ⟨rfl, rfl⟩ ?_
  rintro r μ1 ⟨rfl, ⟨rfl, f, hf, rfl⟩ | ⟨rfl, hn⟩⟩
  · have e : aStep S (nI f) = (nI (hFe (stepH (sR S) (sH S) f) f), setHA S (stepH (sR S) (sH S) f) (pushN (sN S)) (pushA (sN S) (sA S) (sH S))) := by unfold aStep; rw [idx_some (by omega) hf]
    refine z_if_ne iX10_step_8 (fun q => ?_) (fun q => ?_)
    · refine z_aload_0 iX10_step_13 ?_
      refine m_getR iX10_step_14 g_10_54 rfl ?_
      refine z_aload_0 iX10_step_17 ?_
      refine m_getR iX10_step_18 g_10_44 rfl ?_
      refine m_getR iX10_step_21 g_10_103 rfl ?_
      refine m_callVv iX10_step_24 l_10_188 f_X0_remember (c_X0_remember G _ c0.2.2.1 c5 c4) rfl rfl rfl (Nat.le_of_ble_eq_true rfl) hR ft_X10_step_X0_remember ⟨rfl, rfl⟩ ?_
      rintro μ2 ⟨hA1, hA⟩
      have hR2 : RollAt μ2 (sR S) := c3.kept c0.2.2.1 (fun a h1 h2 => hA1.1 a (by omega) (by omega))
      have hH2 : HoldAt μ2 38 (sR S) (sH S) := c4.row (fun i hi => hA1.1 _ (by omega) (by omega))
      refine z_aload_0 iX10_step_27 ?_
      refine m_getR iX10_step_28 g_10_44 rfl ?_
      refine z_iload_1 iX10_step_31 ?_
      refine m_callVv iX10_step_32 l_10_195 f_X8_letStep (c_X8_letStep G _ isSal_37 c0.2.2.1 c0.2.2.2.1 hR2 hH2 hf) rfl rfl rfl (Nat.le_of_ble_eq_true rfl) hR ft_X10_step_X8_letStep ⟨rfl, rfl⟩ ?_
      rintro μ3 ⟨hF3, hH3⟩
      refine z_aload_0 iX10_step_35 ?_
      refine m_getR iX10_step_36 g_10_44 rfl ?_
      refine m_getR iX10_step_39 g_10_103 rfl ?_
      refine m_getR iX10_step_42 g_10_139 rfl ?_
      refine z_iload_1 iX10_step_45 ?_
      refine m_ialdN iX10_step_46 rfl (by omega) ?_
      refine z_top (hH3.2.2.1 f (by omega)) ?_
      have hc := h.acted hA1 hA hF3 (fun a z => by simp at z; omega) hH3 (stepOK c0.2.2.1 c0.2.2.2.1 hf)
      exact m_iret hE iX10_step_47 ⟨by rw [e], by rw [e]; exact hc.1, hc.2⟩
    · exact absurd q nI10
  · have e : aStep S x = (-1, S) := by unfold aStep; rw [idx_none hn]
    refine z_if_ne iX10_step_8 (fun q => ?_) (fun q => ?_)
    · exact absurd nI00 q
    · refine z_iconst (x := -1) iX10_step_11 (by decide) ?_
      exact m_iret hE iX10_step_12 ⟨by rw [e], by rw [e]; exact h, MSame.rf⟩
def aSalute (S : St) (x y : Int32) : Int32 × St := match idx x (rFc (sR S)) with
  | some f => match idx y 10 with
    | some (n + 1) => (nI (hPu (fillH (sH S) f (n + 1)) f), setHA S (fillH (sH S) f (n + 1)) (pushN (sN S)) (pushA (sN S) (sA S) (sH S)))
    | _ => (-2, S)
  | none => (-1, S)
theorem c_X10_salute (G : qG) (l : Launch) {μ : Mem} {S : St} (h : CAt μ S) (x y : Int32) : CtrI G l M_X10_salute [.ref (qB G + 0), .int x, .int y] μ (CP μ (aSalute S x y)) := by
  refine m_enterI [some (.ref (qB G + 0)), some (.int x), some (.int y)] (by decide +kernel) rfl (Nat.le_of_ble_eq_true rfl) (fun X hE hR => ?_)
  have hR : qR X = rm_X10_salute := hR
  have hE : EI G X _ (some .int) := hE
  show Zm G X cX10_salute RX10 _ 0 [some (.ref (qB G + 0)), some (.int x), some (.int y)] []
  obtain ⟨c0, c1, c2, c3, c4, c5, c6, c7, c8, c9⟩ := id h
  have h6 := c0.2.2.1.1
  refine z_aload_0 iX10_salute_0 ?_
  refine m_getR iX10_salute_1 g_10_29 rfl ?_
  refine z_iload_1 iX10_salute_4 ?_
  refine m_callVi iX10_salute_5 l_10_119 f_X7_hasFencer (c_X7_hasFencer G _ rfl c3.1 (by omega) x) rfl rfl rfl (Nat.le_of_ble_eq_true rfl) hR ft_X10_salute_X7_hasFencer ⟨rfl, rfl⟩ ?_
  rintro r μ1 ⟨rfl, ⟨rfl, f, hf, rfl⟩ | ⟨rfl, hn⟩⟩
  · have ei := idx_some (n := rFc (sR S)) (f := f) (by omega) hf
    refine z_if_ne iX10_salute_8 (fun q => ?_) (fun q => ?_)
    · refine z_iload_2 iX10_salute_13 ?_
      refine z_iconst iX10_salute_14 kI_1 ?_
      refine z_icmp_lt iX10_salute_15 (fun q2 => ?_) (fun q2 => ?_)
      · have e : aSalute S (nI f) y = (-2, S) := by
          unfold aSalute
          rw [ei]
          by_cases hy : y < 0
          · rw [idx_neg hy]
          · obtain ⟨k, hk, rfl⟩ := nI_of hy
            have : k < 1 := (nI_ltI hk (by decide)).mp q2
            rw [show k = 0 by omega, idx_some (by decide) (by decide)]
        refine z_bipush (x := -2) iX10_salute_24 (by decide) ?_
        exact m_iret hE iX10_salute_26 ⟨by rw [e], by rw [e]; exact h, MSame.rf⟩
      · have hy : ¬ y < 0 := fun z => q2 (Int32.lt_trans z (by decide))
        obtain ⟨k, hk, rfl⟩ := nI_of hy
        have hk1 : 1 ≤ k := Nat.not_lt.mp (fun z => q2 ((nI_ltI hk (by decide)).mpr z))
        refine z_iload_2 iX10_salute_18 ?_
        refine z_bipush iX10_salute_19 kB_9 ?_
        refine z_icmp_leN iX10_salute_21 (by omega) (by omega) (fun q3 => ?_) (fun q3 => ?_)
        · obtain ⟨m, rfl⟩ : ∃ m, k = m + 1 := ⟨k - 1, by omega⟩
          have e : aSalute S (nI f) (nI (m + 1)) = (nI (hPu (fillH (sH S) f (m + 1)) f), setHA S (fillH (sH S) f (m + 1)) (pushN (sN S)) (pushA (sN S) (sA S) (sH S))) := by unfold aSalute; rw [ei, idx_some (by decide) (by omega)]
          refine z_aload_0 iX10_salute_27 ?_
          refine m_getR iX10_salute_28 g_10_54 rfl ?_
          refine z_aload_0 iX10_salute_31 ?_
          refine m_getR iX10_salute_32 g_10_44 rfl ?_
          refine m_getR iX10_salute_35 g_10_103 rfl ?_
          refine m_callVv iX10_salute_38 l_10_188 f_X0_remember (c_X0_remember G _ c0.2.2.1 c5 c4) rfl rfl rfl (Nat.le_of_ble_eq_true rfl) hR ft_X10_salute_X0_remember ⟨rfl, rfl⟩ ?_
          rintro μ2 ⟨hA1, hA⟩
          have hH2 : HoldAt μ2 38 (sR S) (sH S) := c4.row (fun i hi => hA1.1 _ (by omega) (by omega))
          refine z_aload_0 iX10_salute_41 ?_
          refine m_getR iX10_salute_42 g_10_44 rfl ?_
          refine m_getR iX10_salute_45 g_10_103 rfl ?_
          refine z_iload_1 iX10_salute_48 ?_
          refine z_iload_2 iX10_salute_49 ?_
          refine m_callVv iX10_salute_50 l_10_199 f_X5_fill (c_X5_fill G _ isHold_38 (by omega) (hH2.2.1 f (by omega)) (c0.2.2.2.1.2.1 f (by omega)).1 (by omega)) rfl rfl rfl (Nat.le_of_ble_eq_true rfl) hR ft_X10_salute_X5_fill ⟨rfl, rfl⟩ ?_
          rintro μ3 rfl
          have hH3 := hH2.fill (f := f) (n := m + 1)
          refine z_aload_0 iX10_salute_53 ?_
          refine m_getR iX10_salute_54 g_10_44 rfl ?_
          refine m_getR iX10_salute_57 g_10_103 rfl ?_
          refine m_getR iX10_salute_60 g_10_136 rfl ?_
          refine z_iload_1 iX10_salute_63 ?_
          refine m_ialdN iX10_salute_64 rfl (by omega) ?_
          refine z_top (hH3.2.1 f (by omega)) ?_
          have hc := h.acted hA1 hA (Fr.rf.mw (S := [40]) (a := 40) f (nI (min 99 (hPu (sH S) f + (m + 1)))) (by decide)) (fun a z => by simp at z; omega) hH3 (fillOK c0.2.2.1 c0.2.2.2.1 hf)
          exact m_iret hE iX10_salute_65 ⟨by rw [e], by rw [e]; exact hc.1, hc.2⟩
        · have e : aSalute S (nI f) (nI k) = (-2, S) := by unfold aSalute; rw [ei, idx_big hk (by omega)]
          refine z_bipush (x := -2) iX10_salute_24 (by decide) ?_
          exact m_iret hE iX10_salute_26 ⟨by rw [e], by rw [e]; exact h, MSame.rf⟩
    · exact absurd q nI10
  · have e : aSalute S x y = (-1, S) := by unfold aSalute; rw [idx_none hn]
    refine z_if_ne iX10_salute_8 (fun q => ?_) (fun q => ?_)
    · exact absurd nI00 q
    · refine z_iconst (x := -1) iX10_salute_11 (by decide) ?_
      exact m_iret hE iX10_salute_12 ⟨by rw [e], by rw [e]; exact h, MSame.rf⟩

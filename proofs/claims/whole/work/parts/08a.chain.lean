/-! COUNSEL: the cheapest way of a good from hand to hand -/
def rlx (c : Nat → Nat → Nat) (ow : Nat) (w : Nat → Nat) (a b : Nat) : Nat → Nat := if a ≠ ow ∧ b ≠ ow ∧ a ≠ b then updN w a (min (w a) (w b + c a b)) else w
def rB (c : Nat → Nat → Nat) (ow a : Nat) (w : Nat → Nat) : Nat → (Nat → Nat)
  | 0 => w
  | n + 1 => rlx c ow (rB c ow a w n) a n
def rA (c : Nat → Nat → Nat) (ow fc : Nat) (w : Nat → Nat) : Nat → (Nat → Nat)
  | 0 => w
  | n + 1 => rB c ow n (rA c ow fc w n) fc
def rR (c : Nat → Nat → Nat) (ow fc : Nat) (w : Nat → Nat) : Nat → (Nat → Nat)
  | 0 => w
  | n + 1 => rA c ow fc (rR c ow fc w n) fc
def leM (w : Nat → Nat) : Prop := ∀ k, w k ≤ 1000000
theorem rlx_le {c : Nat → Nat → Nat} {ow a b : Nat} {w : Nat → Nat} (h : leM w) : leM (rlx c ow w a b) := by
  intro k
  unfold rlx
  split
  · unfold updN
    split
    · exact Nat.le_trans (Nat.min_le_left _ _) (h a)
    · exact h k
  · exact h k
theorem rB_le {c : Nat → Nat → Nat} {ow a : Nat} {w : Nat → Nat} (h : leM w) : ∀ n, leM (rB c ow a w n)
  | 0 => h
  | n + 1 => rlx_le (rB_le h n)
theorem rA_le {c : Nat → Nat → Nat} {ow fc : Nat} {w : Nat → Nat} (h : leM w) : ∀ n, leM (rA c ow fc w n)
  | 0 => h
  | n + 1 => rB_le (rA_le h n) fc
theorem rR_le {c : Nat → Nat → Nat} {ow fc : Nat} {w : Nat → Nat} (h : leM w) : ∀ n, leM (rR c ow fc w n)
  | 0 => h
  | n + 1 => rA_le (rR_le h n) fc
theorem far_le (f : Nat) : leM (updN (fun _ => 1000000) f 0) := by
  intro k
  unfold updN
  by_cases e : k = f
  · rw [if_pos e]; exact Nat.zero_le _
  · rw [if_neg e]; exact Nat.le_refl _
/-- Arrays.fill, of the row of ways -/
theorem c_fill (G : qG) (l : Launch) {μ : Mem} {x : Int32} : CtrV G l M_J7_fill_53178 [.ref (qB G + 120), .int x] μ (fun μ' => Fr [120] μ μ' ∧ ∀ j, j < 6 → μ'.1 120 j = x) := by
  refine m_enterV [some (.ref (qB G + 120)), some (.int x), none, none] (by decide +kernel) rfl (Nat.le_of_ble_eq_true rfl) rfl (fun X hE hR => ?_)
  have hR : qR X = rm_J7_fill_53178 := hR
  show Zm G X cJ7_fill_53178 RJ7 _ 0 [some (.ref (qB G + 120)), some (.int x), none, none] []
  have loop : ∀ (n k : Nat) (μ1 : Mem), n + k = 6 → Fr [120] μ μ1 → (∀ j, j < k → μ1.1 120 j = x) → Zm G X cJ7_fill_53178 RJ7 μ1 5 [some (.ref (qB G + 120)), some (.int x), some (.int (nI k)), some (.int (nI 6))] [] := by
    intro n
    induction n with
    | zero =>
      intro k μ1 hn hF h
      refine z_iload_2 iJ7_fill_53178_5 ?_
      refine z_iload_3 iJ7_fill_53178_6 ?_
      refine z_icmp_geN iJ7_fill_53178_7 (by omega) (by omega) (fun q => ?_) (fun q => ?_)
      · exact m_vret hE iJ7_fill_53178_20 ⟨hF, fun j hj => h j (by omega)⟩
      · omega
    | succ n ih =>
      intro k μ1 hn hF h
      refine z_iload_2 iJ7_fill_53178_5 ?_
      refine z_iload_3 iJ7_fill_53178_6 ?_
      refine z_icmp_geN iJ7_fill_53178_7 (by omega) (by omega) (fun q => ?_) (fun q => ?_)
      · omega
      · refine z_aload_0 iJ7_fill_53178_10 ?_
        refine z_iload_2 iJ7_fill_53178_11 ?_
        refine z_iload_1 iJ7_fill_53178_12 ?_
        refine m_iastN iJ7_fill_53178_13 rfl (by omega) ?_
        refine z_iinc_2N iJ7_fill_53178_14 rfl ?_
        refine z_goto iJ7_fill_53178_17 ?_
        refine ih (k + 1) _ (by omega) (hF.mw _ _ (by decide)) (fun j hj => ?_)
        by_cases e : j = k
        · rw [e, mw_same]
        · rw [mw_ne _ _ (Or.inr e)]; exact h j (by omega)
  refine z_iconst iJ7_fill_53178_0 kI_0 ?_
  refine z_istore_2 iJ7_fill_53178_1 rfl ?_
  refine z_aload_0 iJ7_fill_53178_2 ?_
  refine m_alen (k := 0) iJ7_fill_53178_3 rfl ?_
  refine z_istore_3 iJ7_fill_53178_4 rfl ?_
  exact loop 6 0 μ (by omega) Fr.rf (fun j hj => absurd hj (by omega))
theorem q_hand {R : Rl} {H : Hd} {a b p : Nat} (hp : p < 1000) : (if nI 0 < nI p - ld R H b a then nI p - ld R H b a else nI 0) = nI (p + bH2 (feOf R H b) (feOf R H a) - bH1 (feOf R H b) (feOf R H a)) := by
  have h := bH_le (feOf R H b) (feOf R H a)
  unfold ld
  exact q_cost hp (by omega) (by omega)
/-- what it costs b to meet a -/
def hnd (R : Rl) (H : Hd) (p a b : Nat) : Nat := p + bH2 (feOf R H b) (feOf R H a) - bH1 (feOf R H b) (feOf R H a)
/-- Counsel.costOfHand -/
theorem c_X3_costOfHand (G : qG) (l : Launch) {μ : Mem} {R : Rl} {H : Hd} {a b p : Nat} (hR0 : RlOK R) (hL : LeadsAt μ 37 R H) (ha : a < rFc R) (hb : b < rFc R) (hp : p ≤ 9) : CtrI G l M_X3_costOfHand [.ref (qB G + 119), .int (nI a), .int (nI b), .int (nI p)] μ (fun r μ' => μ' = μ ∧ r = nI (hnd R H p a b)) := by
  refine m_enterI [some (.ref (qB G + 119)), some (.int (nI a)), some (.int (nI b)), some (.int (nI p))] (by decide +kernel) rfl (Nat.le_of_ble_eq_true rfl) (fun X hE hR => ?_)
  have hR : qR X = rm_X3_costOfHand := hR
  have hE : EI G X _ (some .int) := hE
  show Zm G X cX3_costOfHand RX3 _ 0 [some (.ref (qB G + 119)), some (.int (nI a)), some (.int (nI b)), some (.int (nI p))] []
  have h6 := hR0.1
  refine z_iconst iX3_costOfHand_0 kI_0 ?_
  refine z_iload_3 iX3_costOfHand_1 ?_
  refine z_aload_0 iX3_costOfHand_2 ?_
  refine m_getR iX3_costOfHand_3 g_3_21 rfl ?_
  refine m_getR iX3_costOfHand_6 g_3_79 rfl ?_
  refine z_iload_2 iX3_costOfHand_9 ?_
  refine m_aaldN iX3_costOfHand_10 rfl (by decide) (by omega) ?_
  refine z_iload_1 iX3_costOfHand_11 ?_
  refine m_ialdN iX3_costOfHand_12 (isSal_37.2.2.2.2.2.2.2.1 b (by omega)) (by omega) ?_
  refine z_top (hL b a hb ha) ?_
  refine z_isub iX3_costOfHand_13 ?_
  refine z_max iX3_costOfHand_14 l_3_83 w_maxS w_mathI w_maxC hR ⟨Nat.le_of_ble_eq_true rfl, Nat.le_of_ble_eq_true rfl, Nat.zero_le _, Nat.zero_le _⟩ ?_
  refine z_top (q_hand (by omega)) ?_
  exact m_iret hE iX3_costOfHand_17 ⟨rfl, rfl⟩
theorem q_min {a b : Nat} (ha : a < 2 ^ 31) (hb : b < 2 ^ 31) : (if nI b < nI a then nI b else nI a) = nI (min a b) := by
  by_cases q : b < a
  · rw [if_pos (nI_lt q ha), Nat.min_eq_right (by omega)]
  · rw [if_neg (nI_nlt (by omega) hb), Nat.min_eq_left (by omega)]
theorem hnd_le {R : Rl} {H : Hd} {p a b : Nat} (hp : p ≤ 9) : hnd R H p a b ≤ 18 := by
  have h := bH_le (feOf R H b) (feOf R H a)
  unfold hnd
  omega
/-- Counsel.findWays -/
theorem c_X3_findWays (G : qG) (l : Launch) {μ : Mem} {R : Rl} {H : Hd} {f ow p : Nat} (hR0 : RlOK R) (hR1 : RollAt μ R) (hL : LeadsAt μ 37 R H) (hf : f < rFc R) (ho : ow < rFc R) (hp : p ≤ 9) : CtrV G l M_X3_findWays [.ref (qB G + 119), .int (nI f), .int (nI ow), .int (nI p)] μ (fun μ' => Fr [120] μ μ' ∧ ∀ k, k < 6 → μ'.1 120 k = nI (rR (hnd R H p) ow (rFc R) (updN (fun _ => 1000000) f 0) (rFc R) k)) := by
  refine m_enterV [some (.ref (qB G + 119)), some (.int (nI f)), some (.int (nI ow)), some (.int (nI p)), none, none, none] (by decide +kernel) rfl (Nat.le_of_ble_eq_true rfl) rfl (fun X hE hR => ?_)
  have hR : qR X = rm_X3_findWays := hR
  show Zm G X cX3_findWays RX3 _ 0 [some (.ref (qB G + 119)), some (.int (nI f)), some (.int (nI ow)), some (.int (nI p)), none, none, none] []
  have h6 := hR0.1
  have hw0 := far_le f
  have roll : ∀ {μ1 : Mem}, Fr [120] μ μ1 → RollAt μ1 R := fun hF => hR1.fr hR0 hF (by decide)
  have leads : ∀ {μ1 : Mem}, Fr [120] μ μ1 → LeadsAt μ1 37 R H := fun hF i j hi hj => by rw [hF.1 _ (by simp; omega)]; exact hL i j hi hj
  have inner : ∀ (rd a : Nat) (w : Nat → Nat), leM w → a < rFc R → (∀ μ1 : Mem, Fr [120] μ μ1 → (∀ k, k < 6 → μ1.1 120 k = nI (rB (hnd R H p) ow a w (rFc R) k)) → Zm G X cX3_findWays RX3 μ1 129 [some (.ref (qB G + 119)), some (.int (nI f)), some (.int (nI ow)), some (.int (nI p)), some (.int (nI rd)), some (.int (nI a)), some (.int (nI (rFc R)))] []) → ∀ (n b : Nat) (μ1 : Mem), n + b = rFc R → Fr [120] μ μ1 → (∀ k, k < 6 → μ1.1 120 k = nI (rB (hnd R H p) ow a w b k)) → Zm G X cX3_findWays RX3 μ1 55 [some (.ref (qB G + 119)), some (.int (nI f)), some (.int (nI ow)), some (.int (nI p)), some (.int (nI rd)), some (.int (nI a)), some (.int (nI b))] [] := by
    intro rd a w hw ha kk n
    induction n with
    | zero =>
      intro b μ1 hn hF hE'
      refine z_iload_6 iX3_findWays_55 ?_
      refine z_aload_0 iX3_findWays_57 ?_
      refine m_getR iX3_findWays_58 g_3_21 rfl ?_
      refine m_getR iX3_findWays_61 g_3_46 rfl ?_
      refine m_getI iX3_findWays_64 g_3_60 rfl ?_
      refine z_top ((roll hF).1) ?_
      refine z_icmp_geN iX3_findWays_67 (by omega) (by omega) (fun q => ?_) (fun q => ?_)
      · rw [show b = rFc R by omega]
        exact kk μ1 hF (fun k hk => by rw [hE' k hk, show b = rFc R by omega])
      · omega
    | succ n ih =>
      intro b μ1 hn hF hE'
      have hb : b < rFc R := by omega
      have hl := rB_le (c := hnd R H p) (ow := ow) (a := a) hw b
      have skip : ¬ (a ≠ ow ∧ b ≠ ow ∧ a ≠ b) → Zm G X cX3_findWays RX3 μ1 123 [some (.ref (qB G + 119)), some (.int (nI f)), some (.int (nI ow)), some (.int (nI p)), some (.int (nI rd)), some (.int (nI a)), some (.int (nI b))] [] := by
        intro no
        refine z_iinc_6N iX3_findWays_123 rfl ?_
        refine z_goto iX3_findWays_126 ?_
        refine ih (b + 1) μ1 (by omega) hF (fun k hk => ?_)
        rw [hE' k hk]
        show _ = nI (rlx (hnd R H p) ow (rB (hnd R H p) ow a w b) a b k)
        unfold rlx
        rw [if_neg no]
      refine z_iload_6 iX3_findWays_55 ?_
      refine z_aload_0 iX3_findWays_57 ?_
      refine m_getR iX3_findWays_58 g_3_21 rfl ?_
      refine m_getR iX3_findWays_61 g_3_46 rfl ?_
      refine m_getI iX3_findWays_64 g_3_60 rfl ?_
      refine z_top ((roll hF).1) ?_
      refine z_icmp_geN iX3_findWays_67 (by omega) (by omega) (fun q => ?_) (fun q => ?_)
      · omega
      · refine z_iload_5 iX3_findWays_70 ?_
        refine z_iload_2 iX3_findWays_72 ?_
        refine z_icmp_eqN iX3_findWays_73 (by omega) (by omega) (fun q1 => ?_) (fun q1 => ?_)
        · exact skip (fun z => z.1 q1)
        · refine z_iload_6 iX3_findWays_76 ?_
          refine z_iload_2 iX3_findWays_78 ?_
          refine z_icmp_eqN iX3_findWays_79 (by omega) (by omega) (fun q2 => ?_) (fun q2 => ?_)
          · exact skip (fun z => z.2.1 q2)
          · refine z_iload_5 iX3_findWays_82 ?_
            refine z_iload_6 iX3_findWays_84 ?_
            refine z_icmp_eqN iX3_findWays_86 (by omega) (by omega) (fun q3 => ?_) (fun q3 => ?_)
            · exact skip (fun z => z.2.2 q3)
            · have l1 := hl a
              have l2 := hl b
              have l3 := hnd_le (R := R) (H := H) (a := a) (b := b) hp
              refine z_aload_0 iX3_findWays_89 ?_
              refine m_getR iX3_findWays_90 g_3_9 rfl ?_
              refine z_iload_5 iX3_findWays_93 ?_
              refine z_aload_0 iX3_findWays_95 ?_
              refine m_getR iX3_findWays_96 g_3_9 rfl ?_
              refine z_iload_5 iX3_findWays_99 ?_
              refine m_ialdN iX3_findWays_101 rfl (by omega) ?_
              refine z_top (hE' a (by omega)) ?_
              refine z_aload_0 iX3_findWays_102 ?_
              refine m_getR iX3_findWays_103 g_3_9 rfl ?_
              refine z_iload_6 iX3_findWays_106 ?_
              refine m_ialdN iX3_findWays_108 rfl (by omega) ?_
              refine z_top (hE' b (by omega)) ?_
              refine z_aload_0 iX3_findWays_109 ?_
              refine z_iload_5 iX3_findWays_110 ?_
              refine z_iload_6 iX3_findWays_112 ?_
              refine z_iload_3 iX3_findWays_114 ?_
              refine m_callVi iX3_findWays_115 l_3_63 f_X3_costOfHand (c_X3_costOfHand G _ hR0 (leads hF) ha hb hp) rfl rfl rfl (Nat.le_of_ble_eq_true rfl) hR ft_X3_findWays_X3_costOfHand ⟨rfl, rfl⟩ ?_
              rintro r μ2 ⟨rfl, rfl⟩
              refine z_iaddN iX3_findWays_118 ?_
              refine z_min iX3_findWays_119 l_3_73 w_minS w_mathI w_minC hR ⟨Nat.le_of_ble_eq_true rfl, Nat.le_of_ble_eq_true rfl, Nat.zero_le _, Nat.zero_le _⟩ ?_
              refine z_top (q_min (by omega) (by omega)) ?_
              refine m_iastN iX3_findWays_122 rfl (by omega) ?_
              refine z_iinc_6N iX3_findWays_123 rfl ?_
              refine z_goto iX3_findWays_126 ?_
              refine ih (b + 1) _ (by omega) (hF.mw _ _ (by decide)) (fun k hk => ?_)
              show _ = nI (rlx (hnd R H p) ow (rB (hnd R H p) ow a w b) a b k)
              unfold rlx updN
              rw [if_pos ⟨q1, q2, q3⟩]
              by_cases e : k = a
              · rw [e, mw_same, if_pos rfl]
              · rw [mw_ne _ _ (Or.inr e), if_neg e]; exact hE' k hk
  have mid : ∀ (rd : Nat) (w : Nat → Nat), leM w → (∀ μ1 : Mem, ∀ v : Option Value, Fr [120] μ μ1 → (∀ k, k < 6 → μ1.1 120 k = nI (rA (hnd R H p) ow (rFc R) w (rFc R) k)) → Zm G X cX3_findWays RX3 μ1 135 [some (.ref (qB G + 119)), some (.int (nI f)), some (.int (nI ow)), some (.int (nI p)), some (.int (nI rd)), some (.int (nI (rFc R))), v] []) → ∀ (n a : Nat) (μ1 : Mem) (v : Option Value), n + a = rFc R → Fr [120] μ μ1 → (∀ k, k < 6 → μ1.1 120 k = nI (rA (hnd R H p) ow (rFc R) w a k)) → Zm G X cX3_findWays RX3 μ1 37 [some (.ref (qB G + 119)), some (.int (nI f)), some (.int (nI ow)), some (.int (nI p)), some (.int (nI rd)), some (.int (nI a)), v] [] := by
    intro rd w hw kk n
    induction n with
    | zero =>
      intro a μ1 v hn hF hE'
      refine z_iload_5 iX3_findWays_37 ?_
      refine z_aload_0 iX3_findWays_39 ?_
      refine m_getR iX3_findWays_40 g_3_21 rfl ?_
      refine m_getR iX3_findWays_43 g_3_46 rfl ?_
      refine m_getI iX3_findWays_46 g_3_60 rfl ?_
      refine z_top ((roll hF).1) ?_
      refine z_icmp_geN iX3_findWays_49 (by omega) (by omega) (fun q => ?_) (fun q => ?_)
      · rw [show a = rFc R by omega]
        exact kk μ1 v hF (fun k hk => by rw [hE' k hk, show a = rFc R by omega])
      · omega
    | succ n ih =>
      intro a μ1 v hn hF hE'
      refine z_iload_5 iX3_findWays_37 ?_
      refine z_aload_0 iX3_findWays_39 ?_
      refine m_getR iX3_findWays_40 g_3_21 rfl ?_
      refine m_getR iX3_findWays_43 g_3_46 rfl ?_
      refine m_getI iX3_findWays_46 g_3_60 rfl ?_
      refine z_top ((roll hF).1) ?_
      refine z_icmp_geN iX3_findWays_49 (by omega) (by omega) (fun q => ?_) (fun q => ?_)
      · omega
      · refine z_iconst iX3_findWays_52 kI_0 ?_
        refine z_istore_6 iX3_findWays_53 rfl ?_
        refine inner rd a (rA (hnd R H p) ow (rFc R) w a) (rA_le hw a) (by omega) ?_ (rFc R) 0 μ1 (by omega) hF hE'
        intro μ2 hF2 hE2
        refine z_iinc_5N iX3_findWays_129 rfl ?_
        refine z_goto iX3_findWays_132 ?_
        exact ih (a + 1) μ2 _ (by omega) hF2 hE2
  have outer : ∀ (n rd : Nat) (μ1 : Mem) (v v2 : Option Value), n + rd = rFc R → Fr [120] μ μ1 → (∀ k, k < 6 → μ1.1 120 k = nI (rR (hnd R H p) ow (rFc R) (updN (fun _ => 1000000) f 0) rd k)) → Zm G X cX3_findWays RX3 μ1 19 [some (.ref (qB G + 119)), some (.int (nI f)), some (.int (nI ow)), some (.int (nI p)), some (.int (nI rd)), v, v2] [] := by
    intro n
    induction n with
    | zero =>
      intro rd μ1 v v2 hn hF hE'
      refine z_iload_4 iX3_findWays_19 ?_
      refine z_aload_0 iX3_findWays_21 ?_
      refine m_getR iX3_findWays_22 g_3_21 rfl ?_
      refine m_getR iX3_findWays_25 g_3_46 rfl ?_
      refine m_getI iX3_findWays_28 g_3_60 rfl ?_
      refine z_top ((roll hF).1) ?_
      refine z_icmp_geN iX3_findWays_31 (by omega) (by omega) (fun q => ?_) (fun q => ?_)
      · exact m_vret hE iX3_findWays_141 ⟨hF, fun k hk => by rw [hE' k hk, show rd = rFc R by omega]⟩
      · omega
    | succ n ih =>
      intro rd μ1 v v2 hn hF hE'
      refine z_iload_4 iX3_findWays_19 ?_
      refine z_aload_0 iX3_findWays_21 ?_
      refine m_getR iX3_findWays_22 g_3_21 rfl ?_
      refine m_getR iX3_findWays_25 g_3_46 rfl ?_
      refine m_getI iX3_findWays_28 g_3_60 rfl ?_
      refine z_top ((roll hF).1) ?_
      refine z_icmp_geN iX3_findWays_31 (by omega) (by omega) (fun q => ?_) (fun q => ?_)
      · omega
      · refine z_iconst iX3_findWays_34 kI_0 ?_
        refine z_istore_5 iX3_findWays_35 rfl ?_
        refine mid rd _ (rR_le hw0 rd) ?_ (rFc R) 0 μ1 _ (by omega) hF hE'
        intro μ2 v' hF2 hE2
        refine z_iinc_4N iX3_findWays_135 rfl ?_
        refine z_goto iX3_findWays_138 ?_
        exact ih (rd + 1) μ2 _ _ (by omega) hF2 hE2
  refine z_aload_0 iX3_findWays_0 ?_
  refine m_getR iX3_findWays_1 g_3_9 rfl ?_
  refine z_ldc iX3_findWays_4 k_3_59 ?_
  refine m_callSv iX3_findWays_6 l_3_67 f_J7_fill_53178 (c_fill G _) rfl rfl (Nat.le_of_ble_eq_true rfl) hR ft_X3_findWays_J7_fill_53178 ⟨rfl, rfl⟩ ?_
  rintro μ1 ⟨hF1, hj⟩
  refine z_aload_0 iX3_findWays_9 ?_
  refine m_getR iX3_findWays_10 g_3_9 rfl ?_
  refine z_iload_1 iX3_findWays_13 ?_
  refine z_iconst iX3_findWays_14 kI_0 ?_
  refine m_iastN iX3_findWays_15 rfl (by omega) ?_
  refine z_iconst iX3_findWays_16 kI_0 ?_
  refine z_istore_4 iX3_findWays_17 rfl ?_
  refine outer (rFc R) 0 _ _ _ (by omega) (hF1.mw _ _ (by decide)) (fun k hk => ?_)
  show _ = nI (updN (fun _ => 1000000) f 0 k)
  unfold updN
  by_cases e : k = f
  · rw [e, mw_same, if_pos rfl]
  · rw [mw_ne _ _ (Or.inr e), if_neg e, hj k hk]; show (1000000 : Int32) = nI 1000000; decide
/-- who meets the owner first, and the sum -/
def selC (c : Nat → Nat → Nat) (ow : Nat) (w : Nat → Nat) (n : Nat) : Nat := if n = ow then 1000000 else c ow n + w n
def selS (c : Nat → Nat → Nat) (ow : Nat) (w : Nat → Nat) : Nat → Nat × Int32
  | 0 => (1000000, -9)
  | n + 1 => if selC c ow w n < (selS c ow w n).1 then (selC c ow w n, nI n) else selS c ow w n
theorem selS_t {c : Nat → Nat → Nat} {ow n : Nat} {w : Nat → Nat} (h : selC c ow w n < (selS c ow w n).1) : selS c ow w (n + 1) = (selC c ow w n, nI n) := if_pos h
theorem selS_f {c : Nat → Nat → Nat} {ow n : Nat} {w : Nat → Nat} (h : ¬ selC c ow w n < (selS c ow w n).1) : selS c ow w (n + 1) = selS c ow w n := if_neg h
theorem selS_le (c : Nat → Nat → Nat) (ow : Nat) (w : Nat → Nat) : ∀ n, (selS c ow w n).1 ≤ 1000000
  | 0 => Nat.le_refl _
  | n + 1 => by
    have := selS_le c ow w n
    unfold selS
    split
    · next h => exact Nat.le_of_lt (Nat.lt_of_lt_of_le h this)
    · exact this
/-- Counsel.findChain -/
theorem c_X3_findChain (G : qG) (l : Launch) {μ : Mem} {R : Rl} {H : Hd} {f g : Nat} (hR0 : RlOK R) (hH0 : HdOK R H) (hR1 : RollAt μ R) (hH1 : HoldAt μ 38 R H) (hf : f < rFc R) (hg : g < rGc R) : CtrV G l M_X3_findChain [.ref (qB G + 119), .int (nI f), .int (nI g)] μ (fun μ' => Fr [35, 36, 43, 44, 45, 46, 47, 48, 119, 120] μ μ' ∧ ((hOw H g = f ∧ μ'.1 119 4 = nI 0 ∧ μ'.1 119 5 = -9) ∨ (hOw H g ≠ f ∧ μ'.1 119 4 = nI (selS (hnd R H (rPr R g)) (hOw H g) (rR (hnd R H (rPr R g)) (hOw H g) (rFc R) (updN (fun _ => 1000000) f 0) (rFc R)) (rFc R)).1 ∧ μ'.1 119 5 = (selS (hnd R H (rPr R g)) (hOw H g) (rR (hnd R H (rPr R g)) (hOw H g) (rFc R) (updN (fun _ => 1000000) f 0) (rFc R)) (rFc R)).2))) := by
  refine m_enterV [some (.ref (qB G + 119)), some (.int (nI f)), some (.int (nI g)), none, none, none, none] (by decide +kernel) rfl (Nat.le_of_ble_eq_true rfl) rfl (fun X hE hR => ?_)
  have hR : qR X = rm_X3_findChain := hR
  show Zm G X cX3_findChain RX3 _ 0 [some (.ref (qB G + 119)), some (.int (nI f)), some (.int (nI g)), none, none, none, none] []
  have h6 := hR0.1
  have h5 := hR0.2.1
  have ho := hH0.1 g hg
  have hpr := (hR0.2.2.2 g hg).1
  refine z_aload_0 iX3_findChain_0 ?_
  refine m_getR iX3_findChain_1 g_3_21 rfl ?_
  refine m_getR iX3_findChain_4 g_3_25 rfl ?_
  refine m_getR iX3_findChain_7 g_3_31 rfl ?_
  refine z_iload_2 iX3_findChain_10 ?_
  refine m_ialdN iX3_findChain_11 rfl (by omega) ?_
  refine z_top (hH1.1 g hg) ?_
  refine z_istore_3 iX3_findChain_12 rfl ?_
  refine z_aload_0 iX3_findChain_13 ?_
  refine z_iconst iX3_findChain_14 kI_0 ?_
  refine m_putI iX3_findChain_15 p_3_36 rfl ?_
  refine z_aload_0 iX3_findChain_18 ?_
  refine z_bipush (x := -9) iX3_findChain_19 (by decide) ?_
  refine m_putI iX3_findChain_21 p_3_40 rfl ?_
  refine z_iload_3 iX3_findChain_24 ?_
  refine z_iload_1 iX3_findChain_25 ?_
  refine z_icmp_neN iX3_findChain_26 (by omega) (by omega) (fun q => ?_) (fun q => ?_)
  · refine z_aload_0 iX3_findChain_30 ?_
    refine m_getR iX3_findChain_31 g_3_21 rfl ?_
    have hF1 : Fr [35, 36, 43, 44, 45, 46, 47, 48, 119, 120] μ (mw (mw μ 119 4 (nI 0)) 119 5 (-9)) := (Fr.rf.mw _ _ (by decide)).mw _ _ (by decide)
    refine m_callVv iX3_findChain_34 l_3_43 f_X8_compareAll (c_X8_compareAll G _ isSal_37 hR0 hH0 (hR1.fr hR0 hF1 (by decide)) (hH1.fr hF1 (by decide))) rfl rfl rfl (Nat.le_of_ble_eq_true rfl) hR ft_X3_findChain_X8_compareAll ⟨rfl, rfl⟩ ?_
    rintro μ2 ⟨hF2, hL2⟩
    have e5 : μ2.1 119 5 = -9 := by rw [hF2.1 119 (by decide), mw_same]
    have hF3 : Fr [35, 36, 43, 44, 45, 46, 47, 48, 119, 120] μ μ2 := hF1.trans (hF2.mono (by decide))
    have hR3 : RollAt μ2 R := hR1.fr hR0 hF3 (by decide)
    refine z_aload_0 iX3_findChain_37 ?_
    refine m_getR iX3_findChain_38 g_3_21 rfl ?_
    refine m_getR iX3_findChain_41 g_3_46 rfl ?_
    refine m_getR iX3_findChain_44 g_3_50 rfl ?_
    refine z_iload_2 iX3_findChain_47 ?_
    refine m_ialdN iX3_findChain_48 rfl (by omega) ?_
    refine z_top ((hR3.2.2.2 g hg).1) ?_
    refine z_istore_4 iX3_findChain_49 rfl ?_
    refine z_aload_0 iX3_findChain_51 ?_
    refine z_iload_1 iX3_findChain_52 ?_
    refine z_iload_3 iX3_findChain_53 ?_
    refine z_iload_4 iX3_findChain_54 ?_
    refine m_callVv iX3_findChain_56 l_3_55 f_X3_findWays (c_X3_findWays G _ hR0 hR3 hL2 hf ho hpr) rfl rfl rfl (Nat.le_of_ble_eq_true rfl) hR ft_X3_findChain_X3_findWays ⟨rfl, rfl⟩ ?_
    rintro μ3 ⟨hF4, hW⟩
    have hF5 := hF3.trans (hF4.mono (by decide))
    generalize hw : rR (hnd R H (rPr R g)) (hOw H g) (rFc R) (updN (fun _ => 1000000) f 0) (rFc R) = w at hW ⊢
    have hwl : leM w := by rw [← hw]; exact rR_le (far_le f) _
    have f5 : μ3.1 119 5 = -9 := by rw [hF4.1 119 (by decide)]; exact e5
    have loop : ∀ (n k : Nat) (μ4 : Mem) (v : Option Value), n + k = rFc R → Fr [35, 36, 43, 44, 45, 46, 47, 48, 119, 120] μ μ4 → (∀ a, a ≠ 119 → μ4.1 a = μ3.1 a) → μ4.1 119 4 = nI (selS (hnd R H (rPr R g)) (hOw H g) w k).1 → μ4.1 119 5 = (selS (hnd R H (rPr R g)) (hOw H g) w k).2 → Zm G X cX3_findChain RX3 μ4 68 [some (.ref (qB G + 119)), some (.int (nI f)), some (.int (nI g)), some (.int (nI (hOw H g))), some (.int (nI (rPr R g))), some (.int (nI k)), v] [] := by
      intro n
      induction n with
      | zero =>
        intro k μ4 v hn hF hs g4 g5
        have hR6 : RollAt μ4 R := hR1.fr hR0 hF (by decide)
        refine z_iload_5 iX3_findChain_68 ?_
        refine z_aload_0 iX3_findChain_70 ?_
        refine m_getR iX3_findChain_71 g_3_21 rfl ?_
        refine m_getR iX3_findChain_74 g_3_46 rfl ?_
        refine m_getI iX3_findChain_77 g_3_60 rfl ?_
        refine z_top (hR6.1) ?_
        refine z_icmp_geN iX3_findChain_80 (by omega) (by omega) (fun q2 => ?_) (fun q2 => ?_)
        · exact m_vret hE iX3_findChain_140 ⟨hF, Or.inr ⟨q, by rw [g4, hw, show k = rFc R by omega], by rw [g5, hw, show k = rFc R by omega]⟩⟩
        · omega
      | succ n ih =>
        intro k μ4 v hn hF hs g4 g5
        have hk : k < rFc R := by omega
        have hR6 : RollAt μ4 R := hR1.fr hR0 hF (by decide)
        have hl := selS_le (hnd R H (rPr R g)) (hOw H g) w k
        have fin : ∀ s : Nat, s < 2000000 → s = selC (hnd R H (rPr R g)) (hOw H g) w k → Zm G X cX3_findChain RX3 μ4 111 [some (.ref (qB G + 119)), some (.int (nI f)), some (.int (nI g)), some (.int (nI (hOw H g))), some (.int (nI (rPr R g))), some (.int (nI k)), v] [.int (nI s)] := by
          intro s hs2 es
          refine z_istore_6 iX3_findChain_111 rfl ?_
          refine z_iload_6 iX3_findChain_113 ?_
          refine z_aload_0 iX3_findChain_115 ?_
          refine m_getI iX3_findChain_116 g_3_36 rfl ?_
          refine z_top (g4) ?_
          refine z_icmp_geN iX3_findChain_119 (by omega) (by omega) (fun q3 => ?_) (fun q3 => ?_)
          · refine z_iinc_5N iX3_findChain_134 rfl ?_
            refine z_goto iX3_findChain_137 ?_
            refine ih (k + 1) μ4 _ (by omega) hF hs ?_ ?_
            · rw [g4, selS_f (by omega)]
            · rw [g5, selS_f (by omega)]
          · refine z_aload_0 iX3_findChain_122 ?_
            refine z_iload_6 iX3_findChain_123 ?_
            refine m_putI iX3_findChain_125 p_3_36 rfl ?_
            refine z_aload_0 iX3_findChain_128 ?_
            refine z_iload_5 iX3_findChain_129 ?_
            refine m_putI iX3_findChain_131 p_3_40 rfl ?_
            refine z_iinc_5N iX3_findChain_134 rfl ?_
            refine z_goto iX3_findChain_137 ?_
            refine ih (k + 1) _ _ (by omega) ((hF.mw _ _ (by decide)).mw _ _ (by decide)) (fun a ha => by rw [mw_other _ _ ha, mw_other _ _ ha]; exact hs a ha) ?_ ?_
            · rw [mw_ne _ _ (Or.inr (by decide)), mw_same, selS_t (by omega), es]
            · rw [mw_same, selS_t (by omega)]
        refine z_iload_5 iX3_findChain_68 ?_
        refine z_aload_0 iX3_findChain_70 ?_
        refine m_getR iX3_findChain_71 g_3_21 rfl ?_
        refine m_getR iX3_findChain_74 g_3_46 rfl ?_
        refine m_getI iX3_findChain_77 g_3_60 rfl ?_
        refine z_top (hR6.1) ?_
        refine z_icmp_geN iX3_findChain_80 (by omega) (by omega) (fun q2 => ?_) (fun q2 => ?_)
        · omega
        · refine z_iload_5 iX3_findChain_83 ?_
          refine z_iload_3 iX3_findChain_85 ?_
          refine z_icmp_neN iX3_findChain_86 (by omega) (by omega) (fun q3 => ?_) (fun q3 => ?_)
          · have hL6 : LeadsAt μ4 37 R H := fun i j hi hj => by rw [hs _ (by omega), hF4.1 _ (by simp; omega)]; exact hL2 i j hi hj
            have l3 := hnd_le (R := R) (H := H) (a := hOw H g) (b := k) hpr
            have l4 := hwl k
            refine z_aload_0 iX3_findChain_94 ?_
            refine z_iload_3 iX3_findChain_95 ?_
            refine z_iload_5 iX3_findChain_96 ?_
            refine z_iload_4 iX3_findChain_98 ?_
            refine m_callVi iX3_findChain_100 l_3_63 f_X3_costOfHand (c_X3_costOfHand G _ hR0 hL6 ho hk hpr) rfl rfl rfl (Nat.le_of_ble_eq_true rfl) hR ft_X3_findChain_X3_costOfHand ⟨rfl, rfl⟩ ?_
            rintro r μ5 ⟨rfl, rfl⟩
            refine z_aload_0 iX3_findChain_103 ?_
            refine m_getR iX3_findChain_104 g_3_9 rfl ?_
            refine z_iload_5 iX3_findChain_107 ?_
            refine m_ialdN iX3_findChain_109 rfl (by omega) ?_
            refine z_top ((show _ = nI (w k) from by rw [hs 120 (by decide)]; exact hW k (by omega))) ?_
            refine z_iaddN iX3_findChain_110 ?_
            exact fin _ (by omega) (by unfold selC; rw [if_neg q3])
          · refine z_ldc iX3_findChain_89 k_3_59 ?_
            refine z_top (show (1000000 : Int32) = nI 1000000 by decide) ?_
            refine z_goto iX3_findChain_91 ?_
            exact fin _ (by omega) (by unfold selC; rw [if_pos q3])
    refine z_aload_0 iX3_findChain_59 ?_
    refine z_ldc iX3_findChain_60 k_3_59 ?_
    refine z_top (show (1000000 : Int32) = nI 1000000 by decide) ?_
    refine m_putI iX3_findChain_62 p_3_36 rfl ?_
    refine z_iconst iX3_findChain_65 kI_0 ?_
    refine z_istore_5 iX3_findChain_66 rfl ?_
    refine loop (rFc R) 0 _ _ (by omega) (hF5.mw _ _ (by decide)) (fun a ha => mw_other _ _ ha) (mw_same _ _ _ _) ?_
    rw [mw_ne _ _ (Or.inr (by decide))]; exact f5
  · exact m_vret hE iX3_findChain_29 ⟨(Fr.rf.mw _ _ (by decide)).mw _ _ (by decide), Or.inl ⟨q, by rw [mw_ne _ _ (Or.inr (by decide)), mw_same], mw_same _ _ _ _⟩⟩

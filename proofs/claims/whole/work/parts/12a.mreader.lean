/-! THE REFERENCE READS: descent, tied to the letters' machine -/
def orI (o : Option Nat) (i : Nat) : Option Nat := match o with
  | none => some i
  | some j => some j
def fgS (tx : Nat → Nat) (ln most : Nat) (q : Option Nat × Nat) : (Option Nat × Nat) × Nat := if q.1 = none ∧ q.2 < ln ∧ 48 ≤ tx q.2 ∧ tx q.2 ≤ 48 + most then ((none, q.2 + 1), tx q.2 - 48) else ((orI q.1 q.2, q.2), 0)
def mvS (tx : Nat → Nat) (ln : Nat) (q : Option Nat × Nat) : (Option Nat × Nat) × Nat := if q.1 = none ∧ q.2 < ln ∧ mvOf (tx q.2) ≠ 0 then ((none, q.2 + 1), mvOf (tx q.2)) else ((orI q.1 q.2, q.2), 0)
def RS (μ : Mem) (q : Option Nat × Nat) : Prop := μ.1 140 14 = faultI q.1 ∧ μ.1 140 13 = nI q.2 ∧ q.2 < 100 ∧ ∀ j, q.1 = some j → j < 100
theorem faultI_ne {j : Nat} (h : j < 100) : ¬ faultI (some j) = -9 := by
  intro e
  have e1 : (nI j).toInt = (-9 : Int32).toInt := congrArg Int32.toInt e
  rw [nI_toInt (by omega)] at e1
  have : (-9 : Int32).toInt = -9 := by decide
  omega
theorem orI_none {i : Nat} : orI none i = some i := rfl
theorem orI_lt {o : Option Nat} {i : Nat} (hi : i < 100) (h : ∀ j, o = some j → j < 100) : ∀ j, orI o i = some j → j < 100 := by
  intro j hj
  cases o with
  | none => cases hj; exact hi
  | some k => cases hj; exact h _ rfl
theorem c_X11_moveBy (G : qG) (l : Launch) {μ : Mem} {c : Nat} (hc : c < 1000) : CtrI G l M_X11_moveBy [.int (nI c)] μ (fun r μ' => μ' = μ ∧ r = nI (mvOf c)) := by
  refine m_enterI [some (.int (nI c))] (by decide +kernel) rfl (Nat.le_of_ble_eq_true rfl) (fun X hE hR => ?_)
  have hR : qR X = rm_X11_moveBy := hR
  have hE : EI G X _ (some .int) := hE
  show Zm G X cX11_moveBy RX11 _ 0 [some (.int (nI c))] []
  refine z_iload_0 iX11_moveBy_0 ?_
  refine z_bipush iX11_moveBy_1 kB_108 ?_
  refine z_icmp_neN iX11_moveBy_3 (by omega) (by omega) (fun q1 => ?_) (fun q1 => ?_)
  · refine z_iload_0 iX11_moveBy_10 ?_
    refine z_bipush iX11_moveBy_11 kB_112 ?_
    refine z_icmp_neN iX11_moveBy_13 (by omega) (by omega) (fun q2 => ?_) (fun q2 => ?_)
    · refine z_iload_0 iX11_moveBy_20 ?_
      refine z_bipush iX11_moveBy_21 kB_102 ?_
      refine z_icmp_neN iX11_moveBy_23 (by omega) (by omega) (fun q3 => ?_) (fun q3 => ?_)
      · refine z_iload_0 iX11_moveBy_30 ?_
        refine z_bipush iX11_moveBy_31 kB_119 ?_
        refine z_icmp_neN iX11_moveBy_33 (by omega) (by omega) (fun q4 => ?_) (fun q4 => ?_)
        · refine z_iconst iX11_moveBy_40 kI_0 ?_
          exact m_iret hE iX11_moveBy_41 ⟨rfl, by unfold mvOf; rw [if_neg q1, if_neg q2, if_neg q3, if_neg q4]⟩
        · refine z_iconst iX11_moveBy_36 kI_4 ?_
          refine z_goto iX11_moveBy_37 ?_
          exact m_iret hE iX11_moveBy_41 ⟨rfl, by unfold mvOf; rw [if_neg q1, if_neg q2, if_neg q3, if_pos q4]⟩
      · refine z_iconst iX11_moveBy_26 kI_3 ?_
        refine z_goto iX11_moveBy_27 ?_
        exact m_iret hE iX11_moveBy_41 ⟨rfl, by unfold mvOf; rw [if_neg q1, if_neg q2, if_pos q3]⟩
    · refine z_iconst iX11_moveBy_16 kI_2 ?_
      refine z_goto iX11_moveBy_17 ?_
      exact m_iret hE iX11_moveBy_41 ⟨rfl, by unfold mvOf; rw [if_neg q1, if_pos q2]⟩
  · refine z_iconst iX11_moveBy_6 kI_1 ?_
    refine z_goto iX11_moveBy_7 ?_
    exact m_iret hE iX11_moveBy_41 ⟨rfl, by unfold mvOf; rw [if_pos q1]⟩
def kR : List Nat := [13, 14]
theorem c_X11_figureOf (G : qG) (l : Launch) {μ : Mem} {tx : Nat → Nat} {ln most : Nat} {q : Option Nat × Nat} (hT : MText μ ln tx) (hln : ln ≤ 52) (htx : ∀ i, i < ln → tx i < 256) (hm : most < 100) (hq : RS μ q) : CtrI G l M_X11_figureOf [.ref (qB G + 140), .int (nI most)] μ (fun r μ' => Fm [] kR μ μ' ∧ RS μ' (fgS tx ln most q).1 ∧ r = nI (fgS tx ln most q).2) := by
  refine m_enterI [some (.ref (qB G + 140)), some (.int (nI most)), none, none] (by decide +kernel) rfl (Nat.le_of_ble_eq_true rfl) (fun X hE hR => ?_)
  have hR : qR X = rm_X11_figureOf := hR
  have hE : EI G X _ (some .int) := hE
  show Zm G X cX11_figureOf RX11 _ 0 [some (.ref (qB G + 140)), some (.int (nI most)), none, none] []
  obtain ⟨o, i⟩ := q
  obtain ⟨q1, q2, q3, q4⟩ := hq
  have fail : ∀ (b v : Int32), ¬ (o = none ∧ i < ln ∧ 48 ≤ tx i ∧ tx i ≤ 48 + most) → Zm G X cX11_figureOf RX11 μ 62 [some (.ref (qB G + 140)), some (.int (nI most)), some (.int b), some (.int v)] [] := by
    intro b v hn
    have e : fgS tx ln most (o, i) = ((orI o i, i), 0) := by unfold fgS; exact if_neg hn
    rw [e] at hE
    have h13 : ∀ x, (mw μ 140 14 x).1 140 13 = nI i := fun x => by rw [mw_ne _ _ (Or.inr (by decide))]; exact q2
    refine z_aload_0 iX11_figureOf_62 ?_
    refine z_aload_0 iX11_figureOf_63 ?_
    refine m_getI iX11_figureOf_64 g_11_69 rfl ?_
    refine z_top (q1) ?_
    refine z_bipush (x := -9) iX11_figureOf_67 (by decide) ?_
    refine z_icmp_ne iX11_figureOf_69 (fun z => ?_) (fun z => ?_)
    · cases o with
      | none => exact absurd rfl z
      | some j =>
        refine z_aload_0 iX11_figureOf_79 ?_
        refine m_getI iX11_figureOf_80 g_11_69 rfl ?_
        refine z_top (q1) ?_
        refine m_putI iX11_figureOf_83 p_11_69 rfl ?_
        refine z_iconst iX11_figureOf_86 kI_0 ?_
        exact m_iret hE iX11_figureOf_87 ⟨Fm.rf.put _ _ (by decide), ⟨mw_same _ _ _ _, h13 _, q3, orI_lt q3 q4⟩, rfl⟩
    · cases o with
      | none =>
        refine z_aload_0 iX11_figureOf_72 ?_
        refine m_getI iX11_figureOf_73 g_11_72 rfl ?_
        refine z_top (q2) ?_
        refine z_goto iX11_figureOf_76 ?_
        refine m_putI iX11_figureOf_83 p_11_69 rfl ?_
        refine z_iconst iX11_figureOf_86 kI_0 ?_
        exact m_iret hE iX11_figureOf_87 ⟨Fm.rf.put _ _ (by decide), ⟨mw_same _ _ _ _, h13 _, q3, orI_lt q3 q4⟩, rfl⟩
      | some j => exact absurd z (faultI_ne (q4 j rfl))
  have isno : ¬ (o = none ∧ i < ln) → Zm G X cX11_figureOf RX11 μ 24 [some (.ref (qB G + 140)), some (.int (nI most)), none, none] [] := by
    intro hn
    refine z_iconst iX11_figureOf_24 kI_0 ?_
    refine z_istore_2 iX11_figureOf_25 rfl ?_
    refine z_iload_2 iX11_figureOf_26 ?_
    refine z_if_eq iX11_figureOf_27 (fun z => ?_) (fun z => ?_)
    · refine z_iconst iX11_figureOf_45 kI_0 ?_
      refine z_istore_3 iX11_figureOf_46 rfl ?_
      refine z_iload_2 iX11_figureOf_47 ?_
      refine z_if_eq iX11_figureOf_48 (fun z2 => ?_) (fun z2 => ?_)
      · exact fail _ _ (fun w => hn ⟨w.1, w.2.1⟩)
      · exact absurd nI00 z2
    · exact absurd nI00 z
  refine z_aload_0 iX11_figureOf_0 ?_
  refine m_getI iX11_figureOf_1 g_11_69 rfl ?_
  refine z_top (q1) ?_
  refine z_bipush (x := -9) iX11_figureOf_4 (by decide) ?_
  refine z_icmp_ne iX11_figureOf_6 (fun z => ?_) (fun z => ?_)
  · exact isno (fun w => z (by rw [w.1]; rfl))
  · have ho : o = none := by
      cases o with
      | none => rfl
      | some j => exact absurd z (faultI_ne (q4 j rfl))
    subst ho
    refine z_aload_0 iX11_figureOf_9 ?_
    refine m_getI iX11_figureOf_10 g_11_72 rfl ?_
    refine z_top (q2) ?_
    refine z_aload_0 iX11_figureOf_13 ?_
    refine m_getI iX11_figureOf_14 g_11_65 rfl ?_
    refine z_top (hT.1) ?_
    refine z_icmp_geN iX11_figureOf_17 (by omega) (by omega) (fun z2 => ?_) (fun z2 => ?_)
    · exact isno (fun w => by omega)
    · have hi := htx i z2
      refine z_iconst iX11_figureOf_20 kI_1 ?_
      refine z_goto iX11_figureOf_21 ?_
      refine z_istore_2 iX11_figureOf_25 rfl ?_
      refine z_iload_2 iX11_figureOf_26 ?_
      refine z_if_eq iX11_figureOf_27 (fun z3 => ?_) (fun z3 => ?_)
      · exact absurd z3 nI10
      · refine z_aload_0 iX11_figureOf_30 ?_
        refine m_getR iX11_figureOf_31 g_11_31 rfl ?_
        refine z_aload_0 iX11_figureOf_34 ?_
        refine m_getI iX11_figureOf_35 g_11_72 rfl ?_
        refine z_top (q2) ?_
        refine m_ialdN iX11_figureOf_38 rfl (by omega) ?_
        refine z_top (hT.2 i z2) ?_
        refine z_bipush iX11_figureOf_39 kB_48 ?_
        refine z_isub iX11_figureOf_41 ?_
        refine z_goto iX11_figureOf_42 ?_
        refine z_istore_3 iX11_figureOf_46 rfl ?_
        refine z_iload_2 iX11_figureOf_47 ?_
        refine z_if_eq iX11_figureOf_48 (fun z4 => ?_) (fun z4 => ?_)
        · exact absurd z4 nI10
        · refine z_iload_3 iX11_figureOf_51 ?_
          refine z_i2l iX11_figureOf_52 ?_
          refine z_lconst (x := 0) iX11_figureOf_53 rfl ?_
          refine z_iload_1 iX11_figureOf_54 ?_
          refine z_i2l iX11_figureOf_55 ?_
          refine m_callSi iX11_figureOf_56 l_11_61 f_X11_in (c_inI G _ (nI (tx i) - nI 48) (y := 0) (a := 0) rfl (show (nI most).toInt64.toInt = (most : Int) by rw [Int32.toInt_toInt64, nI_toInt (by omega)])) rfl rfl (Nat.le_of_ble_eq_true rfl) hR ft_X11_figureOf_X11_in ⟨rfl, rfl⟩ ?_
          rintro r μ1 ⟨rfl, hr⟩
          rw [pk_sub_toInt (a := tx i) (b := 48) (by omega) (by omega)] at hr
          rcases hr with ⟨rfl, hr⟩ | ⟨rfl, hr⟩
          · refine z_if_ne iX11_figureOf_59 (fun z5 => ?_) (fun z5 => ?_)
            · have e : fgS tx ln most (none, i) = ((none, i + 1), tx i - 48) := by unfold fgS; exact if_pos ⟨rfl, z2, by show 48 ≤ tx i; omega, by show tx i ≤ 48 + most; omega⟩
              rw [e] at hE
              refine z_aload_0 iX11_figureOf_88 ?_
              refine z_dup iX11_figureOf_89 rfl ?_
              refine m_getI iX11_figureOf_90 g_11_72 rfl ?_
              refine z_top (q2) ?_
              refine z_iconst iX11_figureOf_93 kI_1 ?_
              refine z_iaddN iX11_figureOf_94 ?_
              refine m_putI iX11_figureOf_95 p_11_72 rfl ?_
              refine z_iload_3 iX11_figureOf_98 ?_
              refine m_iret hE iX11_figureOf_99 ⟨Fm.rf.put _ _ (by decide), ⟨by rw [mw_ne _ _ (Or.inr (by decide))]; exact q1, mw_same _ _ _ _, by show i + 1 < 100; omega, fun j hj => by cases hj⟩, pk_sub (by omega)⟩
            · exact absurd z5 nI10
          · refine z_if_ne iX11_figureOf_59 (fun z5 => ?_) (fun z5 => ?_)
            · exact absurd nI00 z5
            · exact fail _ _ (fun w => by omega)
theorem c_X11_moveOf (G : qG) (l : Launch) {μ : Mem} {tx : Nat → Nat} {ln : Nat} {q : Option Nat × Nat} (hT : MText μ ln tx) (hln : ln ≤ 52) (htx : ∀ i, i < ln → tx i < 256) (hq : RS μ q) : CtrI G l M_X11_moveOf [.ref (qB G + 140)] μ (fun r μ' => Fm [] kR μ μ' ∧ RS μ' (mvS tx ln q).1 ∧ r = nI (mvS tx ln q).2) := by
  refine m_enterI [some (.ref (qB G + 140)), none, none] (by decide +kernel) rfl (Nat.le_of_ble_eq_true rfl) (fun X hE hR => ?_)
  have hR : qR X = rm_X11_moveOf := hR
  have hE : EI G X _ (some .int) := hE
  show Zm G X cX11_moveOf RX11 _ 0 [some (.ref (qB G + 140)), none, none] []
  obtain ⟨o, i⟩ := q
  obtain ⟨q1, q2, q3, q4⟩ := hq
  have fail : ∀ (b : Int32), ¬ (o = none ∧ i < ln ∧ mvOf (tx i) ≠ 0) → Zm G X cX11_moveOf RX11 μ 51 [some (.ref (qB G + 140)), some (.int b), some (.int (nI 0))] [] := by
    intro b hn
    have e : mvS tx ln (o, i) = ((orI o i, i), 0) := by unfold mvS; exact if_neg hn
    rw [e] at hE
    have h13 : ∀ x, (mw μ 140 14 x).1 140 13 = nI i := fun x => by rw [mw_ne _ _ (Or.inr (by decide))]; exact q2
    refine z_aload_0 iX11_moveOf_51 ?_
    refine z_aload_0 iX11_moveOf_52 ?_
    refine m_getI iX11_moveOf_53 g_11_69 rfl ?_
    refine z_top (q1) ?_
    refine z_bipush (x := -9) iX11_moveOf_56 (by decide) ?_
    refine z_icmp_ne iX11_moveOf_58 (fun z => ?_) (fun z => ?_)
    · cases o with
      | none => exact absurd rfl z
      | some j =>
        refine z_aload_0 iX11_moveOf_68 ?_
        refine m_getI iX11_moveOf_69 g_11_69 rfl ?_
        refine z_top (q1) ?_
        refine m_putI iX11_moveOf_72 p_11_69 rfl ?_
        refine z_iconst iX11_moveOf_75 kI_0 ?_
        exact m_iret hE iX11_moveOf_76 ⟨Fm.rf.put _ _ (by decide), ⟨mw_same _ _ _ _, h13 _, q3, orI_lt q3 q4⟩, rfl⟩
    · cases o with
      | none =>
        refine z_aload_0 iX11_moveOf_61 ?_
        refine m_getI iX11_moveOf_62 g_11_72 rfl ?_
        refine z_top (q2) ?_
        refine z_goto iX11_moveOf_65 ?_
        refine m_putI iX11_moveOf_72 p_11_69 rfl ?_
        refine z_iconst iX11_moveOf_75 kI_0 ?_
        exact m_iret hE iX11_moveOf_76 ⟨Fm.rf.put _ _ (by decide), ⟨mw_same _ _ _ _, h13 _, q3, orI_lt q3 q4⟩, rfl⟩
      | some j => exact absurd z (faultI_ne (q4 j rfl))
  have isno : ¬ (o = none ∧ i < ln) → Zm G X cX11_moveOf RX11 μ 24 [some (.ref (qB G + 140)), none, none] [] := by
    intro hn
    refine z_iconst iX11_moveOf_24 kI_0 ?_
    refine z_istore_1 iX11_moveOf_25 rfl ?_
    refine z_iload_1 iX11_moveOf_26 ?_
    refine z_if_eq iX11_moveOf_27 (fun z => ?_) (fun z => ?_)
    · refine z_iconst iX11_moveOf_45 kI_0 ?_
      refine z_istore_2 iX11_moveOf_46 rfl ?_
      refine z_iload_2 iX11_moveOf_47 ?_
      refine z_if_ne iX11_moveOf_48 (fun z2 => ?_) (fun z2 => ?_)
      · exact absurd nI00 z2
      · exact fail _ (fun w => hn ⟨w.1, w.2.1⟩)
    · exact absurd nI00 z
  refine z_aload_0 iX11_moveOf_0 ?_
  refine m_getI iX11_moveOf_1 g_11_69 rfl ?_
  refine z_top (q1) ?_
  refine z_bipush (x := -9) iX11_moveOf_4 (by decide) ?_
  refine z_icmp_ne iX11_moveOf_6 (fun z => ?_) (fun z => ?_)
  · exact isno (fun w => z (by rw [w.1]; rfl))
  · have ho : o = none := by
      cases o with
      | none => rfl
      | some j => exact absurd z (faultI_ne (q4 j rfl))
    subst ho
    refine z_aload_0 iX11_moveOf_9 ?_
    refine m_getI iX11_moveOf_10 g_11_72 rfl ?_
    refine z_top (q2) ?_
    refine z_aload_0 iX11_moveOf_13 ?_
    refine m_getI iX11_moveOf_14 g_11_65 rfl ?_
    refine z_top (hT.1) ?_
    refine z_icmp_geN iX11_moveOf_17 (by omega) (by omega) (fun z2 => ?_) (fun z2 => ?_)
    · exact isno (fun w => by omega)
    · have hi := htx i z2
      refine z_iconst iX11_moveOf_20 kI_1 ?_
      refine z_goto iX11_moveOf_21 ?_
      refine z_istore_1 iX11_moveOf_25 rfl ?_
      refine z_iload_1 iX11_moveOf_26 ?_
      refine z_if_eq iX11_moveOf_27 (fun z3 => ?_) (fun z3 => ?_)
      · exact absurd z3 nI10
      · refine z_aload_0 iX11_moveOf_30 ?_
        refine m_getR iX11_moveOf_31 g_11_31 rfl ?_
        refine z_aload_0 iX11_moveOf_34 ?_
        refine m_getI iX11_moveOf_35 g_11_72 rfl ?_
        refine z_top (q2) ?_
        refine m_ialdN iX11_moveOf_38 rfl (by omega) ?_
        refine z_top (hT.2 i z2) ?_
        refine m_callSi iX11_moveOf_39 l_11_75 f_X11_moveBy (c_X11_moveBy G _ (by omega)) rfl rfl (Nat.le_of_ble_eq_true rfl) hR ft_X11_moveOf_X11_moveBy ⟨rfl, rfl⟩ ?_
        rintro r μ1 ⟨rfl, rfl⟩
        have hv := mvOf_lt (tx i)
        refine z_goto iX11_moveOf_42 ?_
        refine z_istore_2 iX11_moveOf_46 rfl ?_
        refine z_iload_2 iX11_moveOf_47 ?_
        refine z_if_neN iX11_moveOf_48 (by omega) (fun z4 => ?_) (fun z4 => ?_)
        · have e : mvS tx ln (none, i) = ((none, i + 1), mvOf (tx i)) := by unfold mvS; exact if_pos ⟨rfl, z2, z4⟩
          rw [e] at hE
          refine z_aload_0 iX11_moveOf_77 ?_
          refine z_dup iX11_moveOf_78 rfl ?_
          refine m_getI iX11_moveOf_79 g_11_72 rfl ?_
          refine z_top (q2) ?_
          refine z_iconst iX11_moveOf_82 kI_1 ?_
          refine z_iaddN iX11_moveOf_83 ?_
          refine m_putI iX11_moveOf_84 p_11_72 rfl ?_
          refine z_iload_2 iX11_moveOf_87 ?_
          exact m_iret hE iX11_moveOf_88 ⟨Fm.rf.put _ _ (by decide), ⟨by rw [mw_ne _ _ (Or.inr (by decide))]; exact q1, mw_same _ _ _ _, by show i + 1 < 100; omega, fun j hj => by cases hj⟩, rfl⟩
        · have := fail (nI 1) (fun w => w.2.2 z4)
          rw [z4]
          exact this
/-! the machine beside the descent -/
def Tr (tx : Nat → Nat) (ln : Nat) (s : Rd) (q : Option Nat × Nat) : Prop := match q.1 with
  | none => rdRun tx (ln - q.2) q.2 s = rdRun tx ln 0 rd0 ∧ RdOK s ∧ q.2 ≤ ln
  | some j => (rdRun tx ln 0 rd0).1 = some j
theorem rd_fail {tx : Nat → Nat} {ln i : Nat} {s : Rd} (h : (ln ≤ i ∧ s.1 ≠ 1) ∨ (i < ln ∧ rdStep s (tx i) = none)) : (rdRun tx (ln - i) i s).1 = some i := by
  rcases h with ⟨h1, h2⟩ | ⟨h1, h2⟩
  · rw [show ln - i = 0 by omega]
    unfold rdRun
    rw [if_neg h2]
  · obtain ⟨n, e⟩ : ∃ n, ln - i = n + 1 := ⟨ln - i - 1, by omega⟩
    rw [e]
    simp only [rdRun, h2]
theorem rd_go {tx : Nat → Nat} {ln i : Nat} {s s' : Rd} (h1 : i < ln) (h2 : rdStep s (tx i) = some s') : rdRun tx (ln - i) i s = rdRun tx (ln - (i + 1)) (i + 1) s' := by
  obtain ⟨n, e⟩ : ∃ n, ln - i = n + 1 := ⟨ln - i - 1, by omega⟩
  rw [e, show ln - (i + 1) = n by omega]
  simp only [rdRun, h2]
theorem Tr.fig {tx : Nat → Nat} {ln most : Nat} {s : Rd} {f : Nat → Rd} {q : Option Nat × Nat} (h : Tr tx ln s q) (h1 : s.1 ≠ 1) (hs : ∀ c, RdOK s → rdStep s c = if 48 ≤ c ∧ c ≤ 48 + most then some (f (c - 48)) else none) : Tr tx ln (f (fgS tx ln most q).2) (fgS tx ln most q).1 := by
  obtain ⟨o, i⟩ := q
  unfold fgS
  cases o with
  | some j =>
    rw [if_neg (fun z => by cases z.1)]
    exact h
  | none =>
    obtain ⟨t1, t2, t3⟩ := h
    have t3 : i ≤ ln := t3
    by_cases z : i < ln ∧ 48 ≤ tx i ∧ tx i ≤ 48 + most
    · rw [if_pos ⟨rfl, z⟩]
      have e := hs (tx i) t2
      rw [if_pos z.2] at e
      exact ⟨(rd_go z.1 e).symm.trans t1, rdStep_ok t2 e, z.1⟩
    · rw [if_neg (fun w => z w.2)]
      show (rdRun tx ln 0 rd0).1 = some i
      rw [← t1]
      refine rd_fail ?_
      by_cases w : i < ln
      · refine Or.inr ⟨w, ?_⟩
        rw [hs (tx i) t2, if_neg (fun v => z ⟨w, v⟩)]
      · exact Or.inl ⟨by omega, h1⟩
theorem Tr.mv {tx : Nat → Nat} {ln : Nat} {s : Rd} {f : Nat → Rd} {q : Option Nat × Nat} (h : Tr tx ln s q) (h1 : s.1 ≠ 1) (hs : ∀ c, rdStep s c = if mvOf c ≠ 0 then some (f (mvOf c)) else none) : Tr tx ln (f (mvS tx ln q).2) (mvS tx ln q).1 := by
  obtain ⟨o, i⟩ := q
  unfold mvS
  cases o with
  | some j =>
    rw [if_neg (fun z => by cases z.1)]
    exact h
  | none =>
    obtain ⟨t1, t2, t3⟩ := h
    have t3 : i ≤ ln := t3
    by_cases z : i < ln ∧ mvOf (tx i) ≠ 0
    · rw [if_pos ⟨rfl, z⟩]
      have e := hs (tx i)
      rw [if_pos z.2] at e
      exact ⟨(rd_go z.1 e).symm.trans t1, rdStep_ok t2 e, z.1⟩
    · rw [if_neg (fun w => z w.2)]
      show (rdRun tx ln 0 rd0).1 = some i
      rw [← t1]
      refine rd_fail ?_
      by_cases w : i < ln
      · refine Or.inr ⟨w, ?_⟩
        rw [hs (tx i), if_neg (fun v => z ⟨w, v⟩)]
      · exact Or.inl ⟨by omega, h1⟩
theorem fgS_ge (tx : Nat → Nat) (ln most : Nat) (q : Option Nat × Nat) : q.2 ≤ (fgS tx ln most q).1.2 := by
  unfold fgS
  split
  · exact Nat.le_succ _
  · exact Nat.le_refl _
theorem mvS_ge (tx : Nat → Nat) (ln : Nat) (q : Option Nat × Nat) : q.2 ≤ (mvS tx ln q).1.2 := by
  unfold mvS
  split
  · exact Nat.le_succ _
  · exact Nat.le_refl _
/-! what has been read -/
def MRd (μ : Mem) (R : Rl) : Prop := μ.1 140 9 = nI (rFc R) ∧ μ.1 140 10 = nI (rGc R) ∧ (∀ f, f < rFc R → μ.1 146 (4 * f) = nI (rKd R f) ∧ ∀ j, j < 3 → μ.1 146 (4 * f + 1 + j) = nI (rMv R f j)) ∧ ∀ g, g < rGc R → μ.1 147 (2 * g) = nI (rTl R g) ∧ μ.1 147 (2 * g + 1) = nI (rPr R g)
def MRf (μ : Mem) (R : Rl) (m : Nat) : Prop := μ.1 146 (4 * rFc R) = nI (rKd R (rFc R)) ∧ ∀ j, j < m → μ.1 146 (4 * rFc R + 1 + j) = nI (rMv R (rFc R) j)
theorem MRd.fm {μ μ' : Mem} {R : Rl} {L K : List Nat} (h : MRd μ R) (hF : Fm L K μ μ') (h1 : 146 ∉ L) (h2 : 147 ∉ L) (h3 : 9 ∉ K) (h4 : 10 ∉ K) : MRd μ' R := by
  unfold MRd
  rw [hF.1 146 h1 (by decide), hF.1 147 h2 (by decide), hF.2.1 9 h3, hF.2.1 10 h4]
  exact h
theorem MRf.fm {μ μ' : Mem} {R : Rl} {m : Nat} {L K : List Nat} (h : MRf μ R m) (hF : Fm L K μ μ') (h1 : 146 ∉ L) : MRf μ' R m := by
  unfold MRf
  rw [hF.1 146 h1 (by decide)]
  exact h
theorem MRd.kd {μ : Mem} {R : Rl} {k : Nat} (h : MRd μ R) : MRd (mw μ 146 (4 * rFc R) (nI k)) (setKd R k) ∧ MRf (mw μ 146 (4 * rFc R) (nI k)) (setKd R k) 0 := by
  obtain ⟨h1, h2, h3, h4⟩ := h
  refine ⟨⟨?_, ?_, fun f hf => ?_, fun g hg => ?_⟩, ?_, fun j hj => absurd hj (Nat.not_lt_zero j)⟩
  · rw [mw_ne _ _ (Or.inl (by decide))]; exact h1
  · rw [mw_ne _ _ (Or.inl (by decide))]; exact h2
  · have hf' : f < rFc R := hf
    show (mw μ 146 (4 * rFc R) (nI k)).1 146 (4 * f) = nI (updN (rKd R) (rFc R) k f) ∧ ∀ j, j < 3 → (mw μ 146 (4 * rFc R) (nI k)).1 146 (4 * f + 1 + j) = nI (rMv R f j)
    unfold updN
    rw [if_neg (by omega), mw_ne _ _ (Or.inr (by omega))]
    exact ⟨(h3 f hf').1, fun j hj => by rw [mw_ne _ _ (Or.inr (by omega))]; exact (h3 f hf').2 j hj⟩
  · rw [mw_ne _ _ (Or.inl (by decide)), mw_ne _ _ (Or.inl (by decide))]; exact h4 g hg
  · show (mw μ 146 (4 * rFc R) (nI k)).1 146 (4 * rFc R) = nI (updN (rKd R) (rFc R) k (rFc R))
    unfold updN
    rw [if_pos rfl, mw_same]
theorem MRd.mv {μ : Mem} {R : Rl} {m v : Nat} (h : MRd μ R) (hf : MRf μ R m) (hm : m < 3) : MRd (mw μ 146 (4 * rFc R + 1 + m) (nI v)) (setMv R m v) ∧ MRf (mw μ 146 (4 * rFc R + 1 + m) (nI v)) (setMv R m v) (m + 1) := by
  obtain ⟨h1, h2, h3, h4⟩ := h
  refine ⟨⟨?_, ?_, fun f hf => ?_, fun g hg => ?_⟩, ?_, fun j hj => ?_⟩
  · rw [mw_ne _ _ (Or.inl (by decide))]; exact h1
  · rw [mw_ne _ _ (Or.inl (by decide))]; exact h2
  · have hf' : f < rFc R := hf
    show (mw μ 146 (4 * rFc R + 1 + m) (nI v)).1 146 (4 * f) = nI (rKd R f) ∧ ∀ j, j < 3 → (mw μ 146 (4 * rFc R + 1 + m) (nI v)).1 146 (4 * f + 1 + j) = nI (if f = rFc R ∧ j = m then v else rMv R f j)
    rw [mw_ne _ _ (Or.inr (by omega))]
    exact ⟨(h3 f hf').1, fun j hj => by rw [mw_ne _ _ (Or.inr (by omega)), if_neg (by omega)]; exact (h3 f hf').2 j hj⟩
  · rw [mw_ne _ _ (Or.inl (by decide)), mw_ne _ _ (Or.inl (by decide))]; exact h4 g hg
  · show (mw μ 146 (4 * rFc R + 1 + m) (nI v)).1 146 (4 * rFc R) = nI (rKd R (rFc R))
    rw [mw_ne _ _ (Or.inr (by omega))]; exact hf.1
  · show (mw μ 146 (4 * rFc R + 1 + m) (nI v)).1 146 (4 * rFc R + 1 + j) = nI (if rFc R = rFc R ∧ j = m then v else rMv R (rFc R) j)
    by_cases e : j = m
    · rw [e, mw_same, if_pos ⟨rfl, rfl⟩]
    · rw [mw_ne _ _ (Or.inr (by omega)), if_neg (fun z => e z.2)]; exact hf.2 j (by omega)
theorem MRd.inc {μ : Mem} {R : Rl} (h : MRd μ R) (hf : MRf μ R 3) : MRd (mw μ 140 9 (nI (rFc R + 1))) (incF R) := by
  obtain ⟨h1, h2, h3, h4⟩ := h
  refine ⟨mw_same _ _ _ _, ?_, fun f hf2 => ?_, fun g hg => ?_⟩
  · rw [mw_ne _ _ (Or.inr (by decide))]; exact h2
  · have hf' : f < rFc R + 1 := hf2
    rw [mw_other _ _ (by decide)]
    by_cases e : f = rFc R
    · rw [e]; exact hf
    · exact h3 f (by omega)
  · rw [mw_other _ _ (by decide)]; exact h4 g hg
theorem MRd.tl {μ : Mem} {R : Rl} {o : Nat} (h : MRd μ R) : MRd (mw μ 147 (2 * rGc R) (nI o)) (setTl R o) ∧ (mw μ 147 (2 * rGc R) (nI o)).1 147 (2 * rGc R) = nI (rTl (setTl R o) (rGc R)) := by
  obtain ⟨h1, h2, h3, h4⟩ := h
  refine ⟨⟨?_, ?_, fun f hf => ?_, fun g hg => ?_⟩, ?_⟩
  · rw [mw_ne _ _ (Or.inl (by decide))]; exact h1
  · rw [mw_ne _ _ (Or.inl (by decide))]; exact h2
  · rw [mw_other _ _ (by decide)]; exact h3 f hf
  · have hg' : g < rGc R := hg
    show _ = nI (updN (rTl R) (rGc R) o g) ∧ _
    unfold updN
    rw [if_neg (by omega), mw_ne _ _ (Or.inr (by omega)), mw_ne _ _ (Or.inr (by omega))]
    exact h4 g hg'
  · show _ = nI (updN (rTl R) (rGc R) o (rGc R))
    unfold updN
    rw [if_pos rfl, mw_same]
theorem MRd.pr {μ : Mem} {R : Rl} {p : Nat} (h : MRd μ R) (ht : μ.1 147 (2 * rGc R) = nI (rTl R (rGc R))) : MRd (mw (mw μ 147 (2 * rGc R + 1) (nI p)) 140 10 (nI (rGc R + 1))) (setPr R p) := by
  obtain ⟨h1, h2, h3, h4⟩ := h
  refine ⟨?_, mw_same _ _ _ _, fun f hf => ?_, fun g hg => ?_⟩
  · rw [mw_ne _ _ (Or.inr (by decide)), mw_ne _ _ (Or.inl (by decide))]; exact h1
  · rw [mw_other _ _ (by decide), mw_other _ _ (by decide)]; exact h3 f hf
  · have hg' : g < rGc R + 1 := hg
    rw [mw_other _ _ (by decide)]
    show _ ∧ _ = nI (updN (rPr R) (rGc R) p g)
    unfold updN
    by_cases e : g = rGc R
    · rw [if_pos e, e, mw_same, mw_ne _ _ (Or.inr (by omega))]
      exact ⟨ht, rfl⟩
    · rw [if_neg e, mw_ne _ _ (Or.inr (by omega)), mw_ne _ _ (Or.inr (by omega))]
      exact h4 g (by omega)

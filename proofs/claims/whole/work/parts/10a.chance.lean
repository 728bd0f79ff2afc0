/-! THE CLASS: feasts, judge -/
theorem wb_tb (n : Nat) : (lN n).toBitVec = BitVec.ofNat 64 n := rfl
theorem wb_inj {a b : Int64} (h : a.toBitVec = b.toBitVec) : a = b := Int64.toBitVec_inj.mp h
theorem wb_tn {n : Nat} (h : n < 2 ^ 64) : (lN n).toBitVec.toNat = n := by rw [wb_tb, BitVec.toNat_ofNat, Nat.mod_eq_of_lt h]
theorem wb_cu : ∀ k, k < 64 → ((nI k).toInt64.toUInt64 &&& Int64.toUInt64 63) = UInt64.ofNat k := by decide +kernel
theorem wb_shr {n k : Nat} (hn : n < 2 ^ 64) (hk : k < 64) : ((lN n).toUInt64 >>> ((nI k).toInt64.toUInt64 &&& Int64.toUInt64 63)).toInt64 = lN (n / 2 ^ k) := by
  rw [wb_cu k hk]
  apply wb_inj
  apply BitVec.eq_of_toNat_eq
  show ((lN n).toUInt64 >>> UInt64.ofNat k).toNat = (BitVec.ofNat 64 _).toNat
  have h1 : (UInt64.ofNat k).toNat = k := by
    show (BitVec.ofNat 64 k).toNat = k
    rw [BitVec.toNat_ofNat, Nat.mod_eq_of_lt (by omega)]
  have h2 : (lN n).toUInt64.toNat = n := wb_tn hn
  rw [UInt64.toNat_shiftRight, h1, h2, Nat.mod_eq_of_lt hk, Nat.shiftRight_eq_div_pow, BitVec.toNat_ofNat, Nat.mod_eq_of_lt (Nat.lt_of_le_of_lt (Nat.div_le_self _ _) hn)]
def nxS (s : Int64) : Int64 := s * 6364136223846793005 + 1442695040888963407
def drw (s : Int64) : Nat := s.toBitVec.toNat / 2 ^ 33 % 42
theorem drw_lt (s : Int64) : drw s < 42 := Nat.mod_lt _ (by decide)
theorem drw_sh (s : Int64) : (s.toUInt64 >>> ((nI 33).toInt64.toUInt64 &&& Int64.toUInt64 63)).toInt64 = lN (s.toBitVec.toNat / 2 ^ 33) := by
  have e : s = lN s.toBitVec.toNat := wb_inj (by rw [wb_tb]; simp)
  have := wb_shr (n := s.toBitVec.toNat) (k := 33) s.toBitVec.isLt (by decide)
  rw [← e] at this
  exact this
theorem drw_eq (s : Int64) : (lN (s.toBitVec.toNat / 2 ^ 33) - lN (s.toBitVec.toNat / 2 ^ 33) / 42 * 42).toInt32 = nI (drw s) := by
  have h := s.toBitVec.isLt
  have := pk_lRem (a := s.toBitVec.toNat / 2 ^ 33) (b := 42) (by omega) (by decide) (by decide)
  rw [show (42 : Int64) = lN 42 from rfl, this, lN_i]
  rfl
def strN (R : Rl) (H : Hd) : Nat := pcN (bset (fun g => decide (hOw H g ≠ rTl R g)) (rGc R))
def fsI (R : Rl) : Nat → Int64 → Hd → Nat → Int64 × Nat
  | 0, s, _, c => (s, c)
  | t + 1, s, H, c => fsI R t (nxS s) (feastH R H (drw (nxS s))) (c + strN R (feastH R H (drw (nxS s))))
theorem fsI_succ (R : Rl) (t : Nat) (sd : Int64) (H : Hd) (c : Nat) : fsI R (t + 1) sd H c = fsI R t (nxS sd) (feastH R H (drw (nxS sd))) (c + strN R (feastH R H (drw (nxS sd)))) := by rw [fsI]
theorem pcN_le6 (b : Nat) : pcN b ≤ 6 := by
  unfold pcN
  have h0 := bitN_lt b 0
  have h1 := bitN_lt b 1
  have h2 := bitN_lt b 2
  have h3 := bitN_lt b 3
  have h4 := bitN_lt b 4
  have h5 := bitN_lt b 5
  omega
def aFeasts (S : St) (x : Int32) : Int32 × St := match idx x 31 with
  | none => (-2, S)
  | some m => if m = 0 then (-2, S) else (nI (fsI (sR S) m (sSd S) (sH S) 0).2, setSd S (fsI (sR S) m (sSd S) (sH S) 0).1)
theorem neg_lt {x : Int32} {k : Nat} (hk : k < 2 ^ 31) (h : x < 0) : x < nI k := by
  rw [Int32.lt_iff_toInt_lt] at h ⊢
  rw [nI_toInt hk]
  have : (0 : Int32).toInt = 0 := rfl
  omega
theorem CAt.rollSd {μ : Mem} {S : St} {v : Int64} (h : CAt μ (setSd S v)) : RollAt μ (sR S) := h.2.2.2.1
theorem CAt.sdOf {μ : Mem} {S : St} {v : Int64} (h : CAt μ (setSd S v)) : μ.2.1 0 = v := h.2.2.2.2.2.2.2.2.1
theorem c_X10_feasts (G : qG) (l : Launch) {μ : Mem} {S : St} (h : CAt μ S) (x : Int32) : CtrI G l M_X10_feasts [.ref (qB G + 0), .int x] μ (CP μ (aFeasts S x)) := by
  refine m_enterI [some (.ref (qB G + 0)), some (.int x), none, none] (by decide +kernel) rfl (Nat.le_of_ble_eq_true rfl) (fun X hE hR => ?_)
  have hR : qR X = rm_X10_feasts := hR
  have hE : EI G X _ (some .int) := hE
  show Zm G X cX10_feasts RX10 _ 0 [some (.ref (qB G + 0)), some (.int x), none, none] []
  have out : idx x 31 = none ∨ x = nI 0 → Zm G X cX10_feasts RX10 μ 11 [some (.ref (qB G + 0)), some (.int x), none, none] [] := by
    intro q
    have e : aFeasts S x = (-2, S) := by
      unfold aFeasts
      rcases q with q | rfl
      · rw [q]
      · rw [idx_some (by decide) (by decide)]; rfl
    refine z_bipush (x := -2) iX10_feasts_11 (by decide) ?_
    exact m_iret hE iX10_feasts_13 ⟨by rw [e], by rw [e]; exact h, MSame.rf⟩
  obtain ⟨c0, c1, c2, c3, c4, c5, c6, c7, c8, c9⟩ := id h
  refine z_iload_1 iX10_feasts_0 ?_
  refine z_iconst iX10_feasts_1 kI_1 ?_
  by_cases h0 : x < 0
  · refine z_icmp_lt iX10_feasts_2 (fun q => ?_) (fun q => ?_)
    · exact out (Or.inl (idx_neg h0))
    · exact absurd (neg_lt (by decide) h0) q
  · obtain ⟨m, hm, rfl⟩ := nI_of h0
    refine z_icmp_ltN iX10_feasts_2 (by omega) (by omega) (fun q => ?_) (fun q => ?_)
    · exact out (Or.inr (by rw [show m = 0 by omega]))
    · refine z_iload_1 iX10_feasts_5 ?_
      refine z_bipush iX10_feasts_6 kB_30 ?_
      refine z_icmp_leN iX10_feasts_8 (by omega) (by omega) (fun q2 => ?_) (fun q2 => ?_)
      · have ei : idx (nI m) 31 = some m := idx_some (by decide) (by omega)
        have e : aFeasts S (nI m) = (nI (fsI (sR S) m (sSd S) (sH S) 0).2, setSd S (fsI (sR S) m (sSd S) (sH S) 0).1) := by unfold aFeasts; rw [ei]; exact if_neg (by omega)
        rw [e] at hE
        have loop : ∀ (t k c : Nat) (sd : Int64) (H : Hd) (μ' : Mem), t + k = m → c ≤ 64 * k → CAt μ' (setSd S sd) → MSame μ μ' → HoldAt μ' 50 (sR S) H → HdOK (sR S) H → fsI (sR S) t sd H c = fsI (sR S) m (sSd S) (sH S) 0 → Zm G X cX10_feasts RX10 μ' 35 [some (.ref (qB G + 0)), some (.int (nI m)), some (.int (nI c)), some (.int (nI k))] [] := by
          intro t
          induction t with
          | zero =>
            intro k c sd H μ' hk hc hC hM hH hO hf
            refine z_iload_3 iX10_feasts_35 ?_
            refine z_iload_1 iX10_feasts_36 ?_
            refine z_icmp_geN iX10_feasts_37 (by omega) (by omega) (fun q3 => ?_) (fun q3 => ?_)
            · refine z_iload_2 iX10_feasts_94 ?_
              refine m_iret hE iX10_feasts_95 ⟨?_, ?_, hM⟩
              · rw [← hf]; rfl
              · rw [← hf]; exact hC
            · omega
          | succ t ih =>
            intro k c sd H μ' hk hc hC hM hH hO hf
            refine z_iload_3 iX10_feasts_35 ?_
            refine z_iload_1 iX10_feasts_36 ?_
            refine z_icmp_geN iX10_feasts_37 (by omega) (by omega) (fun q3 => ?_) (fun q3 => ?_)
            · omega
            · obtain ⟨sd', es1⟩ : ∃ sd', sd * 6364136223846793005 + 1442695040888963407 = sd' := ⟨_, rfl⟩
              have es2 : nxS sd = sd' := es1
              rw [fsI_succ, es2] at hf
              unfold strN at hf
              refine z_aload_0 iX10_feasts_40 ?_
              refine z_aload_0 iX10_feasts_41 ?_
              refine m_getL iX10_feasts_42 g_10_271 rfl ?_
              refine z_topl (hC.sdOf) ?_
              refine z_ldc2 iX10_feasts_45 k_10_275 ?_
              refine z_lmul iX10_feasts_48 ?_
              refine z_ldc2 iX10_feasts_49 k_10_277 ?_
              refine z_ladd iX10_feasts_52 ?_
              refine z_topl (es1) ?_
              refine m_putL iX10_feasts_53 g_10_271 (by decide +kernel) (by decide +kernel) rfl rfl sd_class ?_
              have hC1 : CAt (mwL μ' 0 sd') (setSd S sd') := (hC.seed sd').1
              have hM1 : MSame μ (mwL μ' 0 sd') := hM.trans (hC.seed sd').2
              have hH1 : HoldAt (mwL μ' 0 sd') 50 (sR S) H := hH
              have hv := drw_lt sd'
              have hd1 := drw_sh sd'
              have hd2 := drw_eq sd'
              generalize drw sd' = dv at hv hd2 hf
              refine z_aload_0 iX10_feasts_56 ?_
              refine m_getR iX10_feasts_57 g_10_48 rfl ?_
              refine z_aload_0 iX10_feasts_60 ?_
              refine m_getL iX10_feasts_61 g_10_271 rfl ?_
              refine z_topl (hC1.sdOf) ?_
              refine z_bipush iX10_feasts_64 kB_33 ?_
              refine z_lushr iX10_feasts_66 ?_
              refine z_topl (hd1) ?_
              refine z_ldc2 iX10_feasts_67 k_10_279 ?_
              refine z_lrem iX10_feasts_70 (by decide) ?_
              refine z_l2i iX10_feasts_71 ?_
              refine z_top (hd2) ?_
              refine m_callVv iX10_feasts_72 l_10_281 f_X8_feast (c_X8_feast G _ isSal_49 c0.2.2.1 hO hC1.rollSd hH1 hv) rfl rfl rfl (Nat.le_of_ble_eq_true rfl) hR ft_X10_feasts_X8_feast ⟨rfl, rfl⟩ ?_
              rintro μ2 ⟨hF2, hH2, hO2⟩
              generalize feastH (sR S) H dv = H3 at hH2 hO2 hf
              have hC3 : CAt μ2 (setSd S sd') := hC1.fr hF2 (fun a z => by unfold scr; simp at z; omega)
              have hM3 : MSame μ μ2 := hM1.trans (hF2.ms (by decide))
              refine z_iload_2 iX10_feasts_75 ?_
              refine z_aload_0 iX10_feasts_76 ?_
              refine m_getR iX10_feasts_77 g_10_48 rfl ?_
              refine m_callVi iX10_feasts_80 l_10_284 f_X8_goodsAbroad (c_X8_goodsAbroad G _ isSal_49 c0.2.2.1 hO2 hC3.rollSd hH2) rfl rfl rfl (Nat.le_of_ble_eq_true rfl) hR ft_X10_feasts_X8_goodsAbroad ⟨rfl, rfl⟩ ?_
              rintro r μ3 ⟨rfl, rfl⟩
              have hb : bset (fun g => decide (hOw H3 g ≠ rTl (sR S) g)) (rGc (sR S)) < 64 := by
                have h1 := bset_lt (fun g => decide (hOw H3 g ≠ rTl (sR S) g)) (rGc (sR S))
                have h2 : 2 ^ rGc (sR S) ≤ 2 ^ 6 := Nat.pow_le_pow_right (by decide) (by have := c0.2.2.1.2.1; omega)
                omega
              generalize bset (fun g => decide (hOw H3 g ≠ rTl (sR S) g)) (rGc (sR S)) = b at hb hf
              refine m_callSi iX10_feasts_83 l_10_287 f_J6_bitCount_0f7a4 (c_bitCount G _ hb) rfl rfl (Nat.le_of_ble_eq_true rfl) hR ft_X10_feasts_J6_bitCount_0f7a4 ⟨rfl, rfl⟩ ?_
              rintro r μ4 ⟨rfl, rfl⟩
              refine z_iaddN iX10_feasts_86 ?_
              refine z_istore_2 iX10_feasts_87 rfl ?_
              refine z_iinc_3N iX10_feasts_88 rfl ?_
              refine z_goto iX10_feasts_91 ?_
              have hp := pcN_le6 b
              exact ih (k + 1) (c + pcN b) sd' H3 μ4 (by omega) (by omega) hC3 hM3 hH2 hO2 hf
        refine z_aload_0 iX10_feasts_14 ?_
        refine m_getR iX10_feasts_15 g_10_48 rfl ?_
        refine m_getR iX10_feasts_18 g_10_103 rfl ?_
        refine z_aload_0 iX10_feasts_21 ?_
        refine m_getR iX10_feasts_22 g_10_44 rfl ?_
        refine m_getR iX10_feasts_25 g_10_103 rfl ?_
        refine m_callVv iX10_feasts_28 l_10_230 f_X5_copyFrom (c_X5_copyFrom (a := 50) (b := 38) G _ isHold_50 isHold_38 (by decide)) rfl rfl rfl (Nat.le_of_ble_eq_true rfl) hR ft_X10_feasts_X5_copyFrom ⟨rfl, rfl⟩ ?_
        rintro μ1 ⟨hF1, hH1⟩
        refine z_iconst iX10_feasts_31 kI_0 ?_
        refine z_istore_2 iX10_feasts_32 rfl ?_
        refine z_iconst iX10_feasts_33 kI_0 ?_
        refine z_istore_3 iX10_feasts_34 rfl ?_
        exact loop m 0 0 (sSd S) (sH S) μ1 (by omega) (by omega) (h.fr hF1 (fun a z => by unfold scr; simp at z; omega)) (hF1.ms (by decide)) (hH1 _ _ c4 c0.2.2.1) c0.2.2.2.1 rfl
      · exact out (Or.inl (idx_big hm (by omega)))
/-! judge -/
def UnAt (G : qG) (t : Nat) : Prop := va_T .long t 5 (fun j => .long (qUnits j)) (qA G) G.1 G.1.heap
theorem q_low {G : qG} {X : qX} {cc : ByteArray} {own : String} {n nL : Nat} {h : Nat → va_E} {H : Heap} {locs : List Loc} (hC : qC G X cc own nL) (hH : HP G n h H) (hS : va_S (qA G) (qS X).heap H locs) : ∀ a : Nat, a < G.1.heap.size → ¬ qA G a → (qS X).heap[a]? = G.1.heap[a]? := by
  intro a ha hna
  obtain ⟨p, l, e, R, s, m, args, below, meth, c, Q⟩ := X
  have h8 : qB G ≤ s.heap.size := hC.2.2.2.2.2.2.2.1
  have hlt : a < qB G := ha
  rw [← hH.2.2 a hlt]
  exact (hS.2.1 a (Nat.lt_of_lt_of_le hlt h8) hna).symm
theorem z_getU {G : qG} {X : qX} {cc : ByteArray} {n : Nat} {h : Nat → va_E} {k1 k2 pc pc' : Nat} {vs : List (Option Value)} {st : List Value} (hd : In cc pc (.getstatic 226) 3 pc') (kk : ∀ t : Nat, UnAt G t → Z G X cc RX10 n h k1 k2 pc' vs (.ref t :: st)) : Z G X cc RX10 n h k1 k2 pc vs st := by
  intro hC H locs ls hH hS hL
  have hq := q_low hC hH hS
  obtain ⟨t, hZ, hT⟩ : ∃ t : Nat, va_Z RX10 "DOING_UNITS" "[J" (.ref t) (qA G) G.1 G.1.heap ∧ UnAt G t := by
    obtain ⟨p, l, e, R, s, m, args, below, meth, c, Q⟩ := X
    exact hC.2.2.2.2.2.2.1.2.1
  have k := kk t hT hC H locs ls hH hS hL
  obtain ⟨p, l, e, R, s, m, args, below, meth, c, Q⟩ := X
  obtain ⟨hx, hb, hml, hown, hts, hal, hG, hsz⟩ := hC
  obtain ⟨hd, rfl⟩ := hd
  exact va_gets hx hb ((hZ.kept hq).moved hal) hS hown (hts (Cond.fieldLink RX10 226 RX10 "DOING_UNITS" "[J") (by decide +kernel)) (fun x q => q) hd k
theorem z_laldU {G : qG} {X : qX} {cc : ByteArray} {own : String} {n : Nat} {h : Nat → va_E} {k1 k2 pc pc' t j : Nat} {vs : List (Option Value)} {st : List Value} (hd : In cc pc (.laload) 1 pc') (hU : UnAt G t) (hj : j < 5) (kk : Z G X cc own n h k1 k2 pc' vs (.long (qUnits j) :: st)) : Z G X cc own n h k1 k2 pc vs (.int (nI j) :: .ref t :: st) := by
  intro hC H locs ls hH hS hL
  have k := kk hC H locs ls hH hS hL
  have hq : ∀ a : Nat, a < G.1.heap.size → ¬ qA G a → H[a]? = G.1.heap[a]? := fun a ha _ => hH.2.2 a ha
  obtain ⟨p, l, e, R, s, m, args, below, meth, c, Q⟩ := X
  obtain ⟨hx, hb, hml, hown, hts, hal, hG, hsz⟩ := hC
  obtain ⟨hd, rfl⟩ := hd
  obtain ⟨cell, h1, h2, h3, h4, h5, h6, h7⟩ := (va_T.kept hU hq).moved hal
  have ec : (nI j).toNatClampNeg = j := nI_clamp (by omega)
  refine W.lald hx hb h1 h2 h3 (fun q => ?_) (v := .long (qUnits j)) (by rw [ec]; exact h6 j hj) rfl rfl hd k
  rcases q with q | q
  · exact nI_pos (by omega) q
  · rw [ec] at q; omega
theorem qUnits_eq {j : Nat} (hj : j < 5) : qUnits j = lN (1000 ^ j) := by
  rcases (show j = 0 ∨ j = 1 ∨ j = 2 ∨ j = 3 ∨ j = 4 by omega) with rfl | rfl | rfl | rfl | rfl <;> rfl
theorem p1000 {j : Nat} (hj : j < 5) : 0 < 1000 ^ j ∧ 1000 ^ j ≤ 1000000000000 := by
  rcases (show j = 0 ∨ j = 1 ∨ j = 2 ∨ j = 3 ∨ j = 4 by omega) with rfl | rfl | rfl | rfl | rfl <;> decide
def doQ (R : Rl) (H : Hd) (d a b : Nat) : Decidable (doP R H d a b) := by unfold doP canT bt; infer_instance
def doB (R : Rl) (H : Hd) (d a b : Nat) : Bool := @decide (doP R H d a b) (doQ R H d a b)
theorem doB_iff {R : Rl} {H : Hd} {d a b : Nat} : doB R H d a b = true ↔ doP R H d a b := @decide_eq_true_iff _ (doQ R H d a b)
def jW (m n k : Nat) : Nat := m / 1000 ^ (n - 1 - k) % 1000
def jdR (R : Rl) (m n : Nat) : Nat → Nat → Hd → Int32
  | 0, _, _ => -9
  | t + 1, k, H => if doB R H (jW m n k / 100) (jW m n k / 10 % 10) (jW m n k % 10) = true then jdR R m n t (k + 1) (doH R H (jW m n k / 100) (jW m n k / 10 % 10) (jW m n k % 10)) else nI k
def jN (v : Int64) : Nat := v.toInt.toNat
theorem jN_lN {m : Nat} (h : m < 2 ^ 63) : jN (lN m) = m := by unfold jN; rw [pk_lT h]; rfl
def qJudge (S : St) (x : Int32) (v : Int64) : Int32 := match idx x 5 with
  | none => -2
  | some n => if n = 0 ∨ v < 0 ∨ ¬ jN v < 1000 ^ n then -2 else jdR (sR S) (jN v) n n 0 (sH S)
theorem jW_eq {m n k : Nat} (hm : m < 2 ^ 63) (hn : n < 5) : (lN m / lN (1000 ^ (n - 1 - k)) - lN m / lN (1000 ^ (n - 1 - k)) / 1000 * 1000).toInt32 = nI (jW m n k) := by
  have h1 := p1000 (j := n - 1 - k) (by omega)
  rw [pk_lDiv hm h1.1 (by omega), show (1000 : Int64) = lN 1000 from rfl, pk_lRem (Nat.lt_of_le_of_lt (Nat.div_le_self _ _) hm) (by decide) (by decide), lN_i]
  rfl
theorem c_X10_judge (G : qG) (l : Launch) {μ : Mem} {S : St} (h : CAt μ S) (x : Int32) (v : Int64) : CtrI G l M_X10_judge [.ref (qB G + 0), .int x, .long v] μ (QP μ S (qJudge S x v)) := by
  refine m_enterI [some (.ref (qB G + 0)), some (.int x), some (.long v), none, none, none] (by decide +kernel) rfl (Nat.le_of_ble_eq_true rfl) (fun X hE hR => ?_)
  have hR : qR X = rm_X10_judge := hR
  have hE : EI G X _ (some .int) := hE
  show Zm G X cX10_judge RX10 _ 0 [some (.ref (qB G + 0)), some (.int x), some (.long v), none, none, none] []
  have out : qJudge S x v = -2 → Zm G X cX10_judge RX10 μ 26 [some (.ref (qB G + 0)), some (.int x), some (.long v), none, none, none] [] := by
    intro e
    refine z_bipush (x := -2) iX10_judge_26 (by decide) ?_
    exact m_iret hE iX10_judge_28 (QP.rf h e.symm)
  obtain ⟨c0, c1, c2, c3, c4, c5, c6, c7, c8, c9⟩ := id h
  refine z_iload_1 iX10_judge_0 ?_
  refine z_iconst iX10_judge_1 kI_1 ?_
  by_cases h0 : x < 0
  · refine z_icmp_lt iX10_judge_2 (fun q => ?_) (fun q => ?_)
    · exact out (by unfold qJudge; rw [idx_neg h0])
    · exact absurd (neg_lt (by decide) h0) q
  · obtain ⟨n, hn, rfl⟩ := nI_of h0
    refine z_icmp_ltN iX10_judge_2 (by omega) (by omega) (fun q => ?_) (fun q => ?_)
    · exact out (by unfold qJudge; rw [idx_some (by decide) (by omega)]; exact if_pos (Or.inl (by omega)))
    · refine z_iload_1 iX10_judge_5 ?_
      refine z_iconst iX10_judge_6 kI_4 ?_
      refine z_icmp_gtN iX10_judge_7 (by omega) (by omega) (fun q2 => ?_) (fun q2 => ?_)
      · exact out (by unfold qJudge; rw [idx_big hn (by omega)])
      · have ei : idx (nI n) 5 = some n := idx_some (by decide) (by omega)
        have eq : qJudge S (nI n) v = if n = 0 ∨ v < 0 ∨ ¬ jN v < 1000 ^ n then -2 else jdR (sR S) (jN v) n n 0 (sH S) := by unfold qJudge; rw [ei]
        refine z_lload_2 iX10_judge_10 ?_
        refine z_lconst (x := 0) iX10_judge_11 rfl ?_
        refine z_lcmp iX10_judge_12 ?_
        refine z_if_lt iX10_judge_13 (fun q3 => ?_) (fun q3 => ?_)
        · have q4 : v < 0 := (lg_cmp_lt _ _).mp q3
          exact out (by rw [eq]; exact if_pos (Or.inr (Or.inl q4)))
        · have q4 : ¬ v < 0 := fun z => q3 ((lg_cmp_lt _ _).mpr z)
          obtain ⟨m, hm, rfl⟩ := pk_lOf q4
          refine z_lload_2 iX10_judge_16 ?_
          refine z_getU iX10_judge_17 (fun t hU => ?_)
          refine z_iload_1 iX10_judge_20 ?_
          refine z_laldU iX10_judge_21 hU (by omega) ?_
          refine z_lcmp iX10_judge_22 ?_
          have h1 := p1000 (j := n) (by omega)
          have hlt : lN m < qUnits n ↔ m < 1000 ^ n := by rw [qUnits_eq (by omega)]; exact pk_lLT hm (by omega)
          refine z_if_lt iX10_judge_23 (fun q5 => ?_) (fun q5 => ?_)
          · have q6 : m < 1000 ^ n := hlt.mp ((lg_cmp_lt _ _).mp q5)
            have e2 : qJudge S (nI n) (lN m) = jdR (sR S) m n n 0 (sH S) := by
              rw [eq, jN_lN hm]
              exact if_neg (fun z => by rcases z with z | z | z; (· omega); (· exact q4 z); (· exact z q6))
            rw [e2] at hE
            have loop : ∀ (t k : Nat) (H : Hd) (μ' : Mem) (o : Option Value), t + k = n → (o = none ∨ ∃ w, o = some (.int w)) → Fr [35, 36, 50, 51, 52, 53] μ μ' → HoldAt μ' 50 (sR S) H → HdOK (sR S) H → jdR (sR S) m n t k H = jdR (sR S) m n n 0 (sH S) → Zm G X cX10_judge RX10 μ' 49 [some (.ref (qB G + 0)), some (.int (nI n)), some (.long (lN m)), none, some (.int (nI k)), o] [] := by
              have hsc : ∀ a, a ∈ [35, 36, 50, 51, 52, 53] → scr a ∧ a ≠ 125 := fun a z => by unfold scr; simp at z; omega
              intro t
              induction t with
              | zero =>
                intro k H μ' o hk ho hF hH hO hj
                refine z_iload_4 iX10_judge_49 ?_
                refine z_iload_1 iX10_judge_51 ?_
                refine z_icmp_geN iX10_judge_52 (by omega) (by omega) (fun q7 => ?_) (fun q7 => ?_)
                · refine z_bipush (x := -9) iX10_judge_111 (by decide) ?_
                  exact m_iret hE iX10_judge_113 (QP.of h hF hsc hj)
                · omega
              | succ t ih =>
                intro k H μ' o hk ho hF hH hO hj
                have hR1 := c3.fr c0.2.2.1 hF (by decide)
                have hw : jW m n k < 1000 := Nat.mod_lt _ (by decide)
                refine z_iload_4 iX10_judge_49 ?_
                refine z_iload_1 iX10_judge_51 ?_
                refine z_icmp_geN iX10_judge_52 (by omega) (by omega) (fun q7 => ?_) (fun q7 => ?_)
                · omega
                · refine z_lload_2 iX10_judge_55 ?_
                  refine z_getU iX10_judge_56 (fun t2 hU2 => ?_)
                  refine z_iload_1 iX10_judge_59 ?_
                  refine z_iconst iX10_judge_60 kI_1 ?_
                  refine z_isubN iX10_judge_61 (by omega) ?_
                  refine z_iload_4 iX10_judge_62 ?_
                  refine z_isubN iX10_judge_64 (by omega) ?_
                  refine z_laldU iX10_judge_65 hU2 (by omega) ?_
                  rw [qUnits_eq (j := n - 1 - k) (by omega)]
                  have hne : ¬ lN (1000 ^ (n - 1 - k)) = 0 := by
                    have h2 := p1000 (j := n - 1 - k) (by omega)
                    intro z
                    have := (pk_lEQ (a := 1000 ^ (n - 1 - k)) (b := 0) (by omega) (by decide)).mp z
                    omega
                  refine z_ldiv iX10_judge_66 hne ?_
                  refine z_ldc2 iX10_judge_67 k_10_232 ?_
                  refine z_lrem iX10_judge_70 (by decide) ?_
                  refine z_l2i iX10_judge_71 ?_
                  refine z_top (jW_eq hm (by omega)) ?_
                  rcases ho with rfl | ⟨w, rfl⟩
                  all_goals {
                  refine z_istore_5 iX10_judge_72 rfl ?_
                  refine z_aload_0 iX10_judge_74 ?_
                  refine m_getR iX10_judge_75 g_10_48 rfl ?_
                  refine z_iload_5 iX10_judge_78 ?_
                  refine z_bipush iX10_judge_80 kB_100 ?_
                  refine z_idivN iX10_judge_82 (by omega) (by omega) (by omega) ?_
                  refine z_iload_5 iX10_judge_83 ?_
                  refine z_bipush iX10_judge_85 kB_10 ?_
                  refine z_idivN iX10_judge_87 (by omega) (by omega) (by omega) ?_
                  refine z_bipush iX10_judge_88 kB_10 ?_
                  refine z_iremN iX10_judge_90 (by omega) (by omega) (by omega) ?_
                  refine z_iload_5 iX10_judge_91 ?_
                  refine z_bipush iX10_judge_93 kB_10 ?_
                  refine z_iremN iX10_judge_95 (by omega) (by omega) (by omega) ?_
                  refine m_callVi iX10_judge_96 l_10_234 f_X8_holdsTrue (c_X8_holdsTrue (s := 49) (d := jW m n k / 100) (a := jW m n k / 10 % 10) (b := jW m n k % 10) G _ isSal_49 c0.2.2.1 hO hR1 hH (by omega) (by omega) (by omega)) rfl rfl rfl (Nat.le_of_ble_eq_true rfl) hR ft_X10_judge_X8_holdsTrue ⟨rfl, rfl⟩ ?_
                  rintro r μ2 ⟨hF2, hH2, hO2, ⟨rfl, hP⟩ | ⟨rfl, hP⟩⟩
                  · refine z_if_ne iX10_judge_99 (fun q8 => ?_) (fun q8 => ?_)
                    · refine z_iinc_4N iX10_judge_105 rfl ?_
                      refine z_goto iX10_judge_108 ?_
                      refine ih (k + 1) _ μ2 _ (by omega) (Or.inr ⟨_, rfl⟩) (hF.trans (hF2.mono (by decide))) hH2 hO2 ?_
                      rw [← hj]
                      show _ = ite _ _ _
                      rw [if_pos (doB_iff.mpr hP)]
                    · exact absurd q8 nI10
                  · refine z_if_ne iX10_judge_99 (fun q8 => ?_) (fun q8 => ?_)
                    · exact absurd nI00 q8
                    · refine z_iload_4 iX10_judge_102 ?_
                      refine m_iret hE iX10_judge_104 (QP.of h (hF.trans (hF2.mono (by decide))) hsc ?_)
                      rw [← hj]
                      show _ = ite _ _ _
                      rw [if_neg (fun z => hP (doB_iff.mp z))] }
            refine z_aload_0 iX10_judge_29 ?_
            refine m_getR iX10_judge_30 g_10_48 rfl ?_
            refine m_getR iX10_judge_33 g_10_103 rfl ?_
            refine z_aload_0 iX10_judge_36 ?_
            refine m_getR iX10_judge_37 g_10_44 rfl ?_
            refine m_getR iX10_judge_40 g_10_103 rfl ?_
            refine m_callVv iX10_judge_43 l_10_230 f_X5_copyFrom (c_X5_copyFrom (a := 50) (b := 38) G _ isHold_50 isHold_38 (by decide)) rfl rfl rfl (Nat.le_of_ble_eq_true rfl) hR ft_X10_judge_X5_copyFrom ⟨rfl, rfl⟩ ?_
            rintro μ1 ⟨hF1, hH1⟩
            refine z_iconst iX10_judge_46 kI_0 ?_
            refine z_istore_4 iX10_judge_47 rfl ?_
            exact loop n 0 (sH S) μ1 none (by omega) (Or.inl rfl) (hF1.mono (by decide)) (hH1 _ _ c4 c0.2.2.1) c0.2.2.2.1 rfl
          · refine out ?_
            rw [eq]
            refine if_pos (Or.inr (Or.inr ?_))
            rw [jN_lN hm]
            exact fun z => q5 ((lg_cmp_lt _ _).mpr (hlt.mpr z))

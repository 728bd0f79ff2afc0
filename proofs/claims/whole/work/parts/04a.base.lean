/-! constants in their Nat form; views of the memory; frames of the memory -/
theorem kI_0 : Int32.ofInt 0 = nI 0 := by decide
theorem kI_1 : Int32.ofInt 1 = nI 1 := by decide
theorem kI_2 : Int32.ofInt 2 = nI 2 := by decide
theorem kI_3 : Int32.ofInt 3 = nI 3 := by decide
theorem kI_4 : Int32.ofInt 4 = nI 4 := by decide
theorem kI_5 : Int32.ofInt 5 = nI 5 := by decide
theorem kB_6 : (Int8.ofInt 6).toInt32 = nI 6 := by decide
theorem kB_7 : (Int8.ofInt 7).toInt32 = nI 7 := by decide
theorem kB_8 : (Int8.ofInt 8).toInt32 = nI 8 := by decide
theorem kB_9 : (Int8.ofInt 9).toInt32 = nI 9 := by decide
theorem kB_10 : (Int8.ofInt 10).toInt32 = nI 10 := by decide
theorem kB_11 : (Int8.ofInt 11).toInt32 = nI 11 := by decide
theorem kB_13 : (Int8.ofInt 13).toInt32 = nI 13 := by decide
theorem kB_14 : (Int8.ofInt 14).toInt32 = nI 14 := by decide
theorem kB_16 : (Int8.ofInt 16).toInt32 = nI 16 := by decide
theorem kB_17 : (Int8.ofInt 17).toInt32 = nI 17 := by decide
theorem kB_18 : (Int8.ofInt 18).toInt32 = nI 18 := by decide
theorem kB_19 : (Int8.ofInt 19).toInt32 = nI 19 := by decide
theorem kB_20 : (Int8.ofInt 20).toInt32 = nI 20 := by decide
theorem kB_21 : (Int8.ofInt 21).toInt32 = nI 21 := by decide
theorem kB_24 : (Int8.ofInt 24).toInt32 = nI 24 := by decide
theorem kB_30 : (Int8.ofInt 30).toInt32 = nI 30 := by decide
theorem kB_31 : (Int8.ofInt 31).toInt32 = nI 31 := by decide
theorem kB_32 : (Int8.ofInt 32).toInt32 = nI 32 := by decide
theorem kB_33 : (Int8.ofInt 33).toInt32 = nI 33 := by decide
theorem kB_36 : (Int8.ofInt 36).toInt32 = nI 36 := by decide
theorem kB_48 : (Int8.ofInt 48).toInt32 = nI 48 := by decide
theorem kB_52 : (Int8.ofInt 52).toInt32 = nI 52 := by decide
theorem kB_60 : (Int8.ofInt 60).toInt32 = nI 60 := by decide
theorem kB_63 : (Int8.ofInt 63).toInt32 = nI 63 := by decide
theorem kB_64 : (Int8.ofInt 64).toInt32 = nI 64 := by decide
theorem kB_66 : (Int8.ofInt 66).toInt32 = nI 66 := by decide
theorem kB_70 : (Int8.ofInt 70).toInt32 = nI 70 := by decide
theorem kB_71 : (Int8.ofInt 71).toInt32 = nI 71 := by decide
theorem kB_99 : (Int8.ofInt 99).toInt32 = nI 99 := by decide
theorem kB_100 : (Int8.ofInt 100).toInt32 = nI 100 := by decide
theorem kB_102 : (Int8.ofInt 102).toInt32 = nI 102 := by decide
theorem kB_108 : (Int8.ofInt 108).toInt32 = nI 108 := by decide
theorem kB_112 : (Int8.ofInt 112).toInt32 = nI 112 := by decide
theorem kB_119 : (Int8.ofInt 119).toInt32 = nI 119 := by decide
theorem kS_252 : (Int16.ofInt 252).toInt32 = nI 252 := by decide
theorem kS_255 : (Int16.ofInt 255).toInt32 = nI 255 := by decide
theorem kS_9999 : (Int16.ofInt 9999).toInt32 = nI 9999 := by decide
section ZD
variable {G : qG} {X : qX} {cc : ByteArray} {own : String} {n : Nat} {h : Nat → va_E} {k1 k2 pc pc' : Nat} {vs : List (Option Value)} {st : List Value}
theorem z_iinc_1D {v0 : Option Value} {r : List (Option Value)} {a : Nat} (hd : In cc pc (.iinc 1 (-1)) 3 pc') (ho : ok1 [v0] 1 = true) (kk : Z G X cc own n h k1 k2 pc' (v0 :: some (.int (nI a)) :: r) st) : Z G X cc own n h k1 k2 pc (v0 :: some (.int (nI (a + 1))) :: r) st := z_iincG 1 hd rfl (pk_m1 a) rfl ho kk
theorem z_iinc_2D {v0 v1 : Option Value} {r : List (Option Value)} {a : Nat} (hd : In cc pc (.iinc 2 (-1)) 3 pc') (ho : ok1 [v1] 1 = true) (kk : Z G X cc own n h k1 k2 pc' (v0 :: v1 :: some (.int (nI a)) :: r) st) : Z G X cc own n h k1 k2 pc (v0 :: v1 :: some (.int (nI (a + 1))) :: r) st := z_iincG 2 hd rfl (pk_m1 a) rfl ho kk
theorem z_iinc_4D {v0 v1 v2 v3 : Option Value} {r : List (Option Value)} {a : Nat} (hd : In cc pc (.iinc 4 (-1)) 3 pc') (ho : ok1 [v3] 1 = true) (kk : Z G X cc own n h k1 k2 pc' (v0 :: v1 :: v2 :: v3 :: some (.int (nI a)) :: r) st) : Z G X cc own n h k1 k2 pc (v0 :: v1 :: v2 :: v3 :: some (.int (nI (a + 1))) :: r) st := z_iincG 4 hd rfl (pk_m1 a) rfl ho kk
/-- the same state, otherwise written -/
theorem z_eq {vs' : List (Option Value)} {st' : List Value} (e1 : vs = vs') (e2 : st = st') (kk : Z G X cc own n h k1 k2 pc vs' st') : Z G X cc own n h k1 k2 pc vs st := by subst e1; subst e2; exact kk
end ZD
/-- nothing has changed but the rows in S -/
def Fr (S : List Nat) (μ μ' : Mem) : Prop := (∀ a, a ∉ S → μ'.1 a = μ.1 a) ∧ μ'.2 = μ.2
theorem Fr.rf {S : List Nat} {μ : Mem} : Fr S μ μ := ⟨fun _ _ => rfl, rfl⟩
theorem Fr.trans {S : List Nat} {μ μ' μ'' : Mem} (h1 : Fr S μ μ') (h2 : Fr S μ' μ'') : Fr S μ μ'' := ⟨fun a h => (h2.1 a h).trans (h1.1 a h), h2.2.trans h1.2⟩
theorem Fr.mono {S S' : List Nat} {μ μ' : Mem} (h : Fr S μ μ') (hs : ∀ a, a ∈ S → a ∈ S') : Fr S' μ μ' := ⟨fun a ha => h.1 a (fun q => ha (hs a q)), h.2⟩
theorem Fr.mw {S : List Nat} {μ μ' : Mem} (h : Fr S μ μ') {a : Nat} (k : Nat) (x : Int32) (ha : a ∈ S) : Fr S μ (mw μ' a k x) := ⟨fun b hb => by rw [mw_other μ' x (fun q => hb (by rw [q]; exact ha))]; exact h.1 b hb, h.2⟩
theorem Fr.mwR {S : List Nat} {μ μ' : Mem} (h : Fr S μ μ') {a : Nat} (f : Nat → Int32) (ha : a ∈ S) : Fr S μ (mwR μ' a f) := ⟨fun b hb => by rw [mwR_other μ' f (fun q => hb (by rw [q]; exact ha))]; exact h.1 b hb, h.2⟩
/-- a fencer's cell -/
def isFen (a : Nat) : Prop := layF a 0 = some (4, none) ∧ layF a 1 = some (4, some (some (a + 1))) ∧ layA (a + 1) = some (0, 3, 0, 0) ∧ layC a = some 4
theorem isFen_roll : ∀ f, f < 6 → isFen (23 + 2 * f) := by
  intro f hf
  rcases (show f = 0 ∨ f = 1 ∨ f = 2 ∨ f = 3 ∨ f = 4 ∨ f = 5 by omega) with rfl | rfl | rfl | rfl | rfl | rfl <;> exact ⟨rfl, rfl, rfl, rfl⟩
theorem isFen_draft : ∀ f, f < 6 → isFen (6 + 2 * f) := by
  intro f hf
  rcases (show f = 0 ∨ f = 1 ∨ f = 2 ∨ f = 3 ∨ f = 4 ∨ f = 5 by omega) with rfl | rfl | rfl | rfl | rfl | rfl <;> exact ⟨rfl, rfl, rfl, rfl⟩
theorem isFen_mask : isFen 126 := ⟨rfl, rfl, rfl, rfl⟩
/-! a bout's moves and hits -/
def fMove (kd : Nat) (mv : Nat → Nat) (ft p y : Nat) : Nat := if kd = 2 then (if p = 0 then 4 else if y = 1 then 2 else if y = 2 then 3 else 1) else mv (((if kd = 3 then 0 else ft) + p) % 3)
def fHit (a b kb : Nat) : Nat := if a = 1 then (if b = 3 ∨ b = 4 ∨ (b = 1 ∧ kb ≠ 1) then 1 else 0) else if a = 2 then (if b = 1 then 1 else 0) else if a = 3 then (if b = 2 then 1 else 0) else 0
theorem fHit_le (a b kb : Nat) : fHit a b kb ≤ 1 := by
  unfold fHit
  repeat (first | split | omega)
/-- Fencer.moveIn -/
theorem c_X4_moveIn (G : qG) (l : Launch) {μ : Mem} {a kd ft p y : Nat} {mv : Nat → Nat} (ha : isFen a) (hk : μ.1 a 0 = nI kd) (hkd : kd < 4) (hm : ∀ j, j < 3 → μ.1 (a + 1) j = nI (mv j)) (hft : ft < 1000) (hp : p < 1000) (hy : y < 1000) : CtrI G l M_X4_moveIn [.ref (qB G + a), .int (nI p), .int (nI ft), .int (nI y)] μ (fun r μ' => μ' = μ ∧ r = nI (fMove kd mv ft p y)) := by
  refine m_enterI [some (.ref (qB G + a)), some (.int (nI p)), some (.int (nI ft)), some (.int (nI y)), none] (by decide +kernel) rfl (Nat.le_of_ble_eq_true rfl) (fun X hE hR => ?_)
  have hR : qR X = rm_X4_moveIn := hR
  have hE : EI G X _ (some .int) := hE
  show Zm G X cX4_moveIn RX4 _ 0 [some (.ref (qB G + a)), some (.int (nI p)), some (.int (nI ft)), some (.int (nI y)), none] []
  obtain ⟨hF0, hF1, hF2, -⟩ := ha
  refine z_aload_0 iX4_moveIn_0 ?_
  refine m_getI iX4_moveIn_1 g_4_15 hF0 ?_
  refine z_top hk ?_
  refine z_iconst iX4_moveIn_4 kI_2 ?_
  refine z_icmp_eqN iX4_moveIn_5 (by omega) (by omega) (fun h2 => ?_) (fun h2 => ?_)
  · refine z_iload_1 iX4_moveIn_35 ?_
    refine z_if_neN iX4_moveIn_36 (by omega) (fun h0 => ?_) (fun h0 => ?_)
    · refine z_iload_3 iX4_moveIn_41 ?_
      by_cases y1 : y = 1
      · subst y1
        refine z_lookup (off := 26) (tgt := 68) iX4_moveIn_42 (by decide) (by decide) (by decide) ?_
        refine z_iconst iX4_moveIn_68 kI_2 ?_
        exact m_iret hE iX4_moveIn_69 ⟨rfl, by simp [fMove, h2, h0]⟩
      · by_cases y2 : y = 2
        · subst y2
          refine z_lookup (off := 28) (tgt := 70) iX4_moveIn_42 (by decide) (by decide) (by decide) ?_
          refine z_iconst iX4_moveIn_70 kI_3 ?_
          exact m_iret hE iX4_moveIn_71 ⟨rfl, by simp [fMove, h2, h0]⟩
        · refine z_lookup (off := 30) (tgt := 72) iX4_moveIn_42 (by decide) ?_ (by decide) ?_
          · have e1 : ¬ (1 : Int) = (y : Int) := by omega
            have e2 : ¬ (2 : Int) = (y : Int) := by omega
            have e3 : (nI y).toInt = (y : Int) := nI_toInt (by omega)
            rw [e3]
            simp [Op.lookupswitch.offset]
            omega
          · refine z_iconst iX4_moveIn_72 kI_1 ?_
            exact m_iret hE iX4_moveIn_73 ⟨rfl, by simp [fMove, h2, h0, y1, y2]⟩
    · refine z_iconst iX4_moveIn_39 kI_4 ?_
      exact m_iret hE iX4_moveIn_40 ⟨rfl, by simp [fMove, h2, h0]⟩
  · refine z_aload_0 iX4_moveIn_8 ?_
    refine m_getI iX4_moveIn_9 g_4_15 hF0 ?_
    refine z_top hk ?_
    refine z_iconst iX4_moveIn_12 kI_3 ?_
    have hmod : ∀ z : Nat, z % 3 < 3 := fun z => Nat.mod_lt _ (by decide)
    refine z_icmp_neN iX4_moveIn_13 (by omega) (by omega) (fun h3 => ?_) (fun h3 => ?_)
    · refine z_iload_2 iX4_moveIn_20 ?_
      refine z_istore_4 iX4_moveIn_21 rfl ?_
      refine z_aload_0 iX4_moveIn_23 ?_
      refine m_getR iX4_moveIn_24 g_4_9 hF1 ?_
      refine z_iload_4 iX4_moveIn_27 ?_
      refine z_iload_1 iX4_moveIn_29 ?_
      refine z_iaddN iX4_moveIn_30 ?_
      refine z_iconst iX4_moveIn_31 kI_3 ?_
      refine z_iremN iX4_moveIn_32 (by omega) (by omega) (by omega) ?_
      refine m_ialdN iX4_moveIn_33 hF2 (hmod _) ?_
      refine z_top (hm _ (hmod _)) ?_
      exact m_iret hE iX4_moveIn_34 ⟨rfl, by simp [fMove, h2, h3]⟩
    · refine z_iconst iX4_moveIn_16 kI_0 ?_
      refine z_goto iX4_moveIn_17 ?_
      refine z_istore_4 iX4_moveIn_21 rfl ?_
      refine z_aload_0 iX4_moveIn_23 ?_
      refine m_getR iX4_moveIn_24 g_4_9 hF1 ?_
      refine z_iload_4 iX4_moveIn_27 ?_
      refine z_iload_1 iX4_moveIn_29 ?_
      refine z_iaddN iX4_moveIn_30 ?_
      refine z_iconst iX4_moveIn_31 kI_3 ?_
      refine z_iremN iX4_moveIn_32 (by omega) (by omega) (by omega) ?_
      refine m_ialdN iX4_moveIn_33 hF2 (hmod _) ?_
      refine z_top (hm _ (hmod _)) ?_
      exact m_iret hE iX4_moveIn_34 ⟨rfl, by simp [fMove, h2, h3]⟩

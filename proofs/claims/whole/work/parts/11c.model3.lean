/-! THE REFERENCE'S STATE -/
def MText (μ : Mem) (ln : Nat) (tx : Nat → Nat) : Prop := μ.1 140 12 = nI ln ∧ ∀ i, i < ln → μ.1 148 i = nI (tx i)
def MActs (μ : Mem) (R : Rl) (n : Nat) (A : Nat → Hd) : Prop := μ.1 140 20 = nI n ∧ ∃ nx, nx < 14 ∧ μ.1 140 21 = nI nx ∧ ∀ k, k < n → NowAt μ 149 (18 * ((nx + 14 - n + k) % 14)) R (A k)
def MSlot (μ : Mem) (R : Rl) (K : Nat → Bool) (KH : Nat → Hd) : Prop := ∀ k, k < 2 → μ.1 155 k = nI (if K k then 1 else 0) ∧ (K k = true → NowAt μ 156 (18 * k) R (KH k))
def MSeen (μ : Mem) (ns : Nat) (sf sh : Nat → Nat) : Prop := μ.1 140 26 = nI ns ∧ ∀ k, k < ns → μ.1 153 k = nI (sf k) ∧ μ.1 154 k = nI (sh k)
def MAt (μ : Mem) (S : St) : Prop := MRoll μ (sR S) ∧ NowAt μ 145 0 (sR S) (sH S) ∧ MText μ (sLn S) (sTx S) ∧ MActs μ (sR S) (sN S) (sA S) ∧ MSlot μ (sR S) (sK S) (sKH S) ∧ MSeen μ (sNs S) (sSf S) (sSh S) ∧ μ.2.1 140 = sSd S ∧ μ.1 141 6 = nI 0
theorem MText.fm {μ μ' : Mem} {ln : Nat} {tx : Nat → Nat} {L K : List Nat} (h : MText μ ln tx) (hF : Fm L K μ μ') (h1 : 148 ∉ L) (h2 : 12 ∉ K) : MText μ' ln tx := ⟨by rw [hF.2.1 12 h2]; exact h.1, fun i hi => by rw [hF.1 148 h1 (by decide)]; exact h.2 i hi⟩
theorem MActs.fm {μ μ' : Mem} {R : Rl} {n : Nat} {A : Nat → Hd} {L K : List Nat} (h : MActs μ R n A) (hR : RlOK R) (hF : Fm L K μ μ') (h1 : 149 ∉ L) (h2 : 20 ∉ K) (h3 : 21 ∉ K) : MActs μ' R n A := by
  obtain ⟨e1, nx, e2, e3, e4⟩ := h
  exact ⟨by rw [hF.2.1 20 h2]; exact e1, nx, e2, by rw [hF.2.1 21 h3]; exact e3, fun k hk => (e4 k hk).fm hR hF h1 (by decide)⟩
theorem MSlot.fm {μ μ' : Mem} {R : Rl} {K1 : Nat → Bool} {KH : Nat → Hd} {L K : List Nat} (h : MSlot μ R K1 KH) (hR : RlOK R) (hF : Fm L K μ μ') (h1 : 155 ∉ L) (h2 : 156 ∉ L) : MSlot μ' R K1 KH := fun k hk => ⟨by rw [hF.1 155 h1 (by decide)]; exact (h k hk).1, fun z => ((h k hk).2 z).fm hR hF h2 (by decide)⟩
theorem MSeen.fm {μ μ' : Mem} {ns : Nat} {sf sh : Nat → Nat} {L K : List Nat} (h : MSeen μ ns sf sh) (hF : Fm L K μ μ') (h1 : 153 ∉ L) (h2 : 154 ∉ L) (h3 : 26 ∉ K) : MSeen μ' ns sf sh := ⟨by rw [hF.2.1 26 h3]; exact h.1, fun k hk => by rw [hF.1 153 h1 (by decide), hF.1 154 h2 (by decide)]; exact h.2 k hk⟩
/-- what holds nothing between calls in the reference -/
def lS : List Nat := [146, 147, 150, 151, 152]
def kS : List Nat := [9, 10, 13, 14, 15, 16, 17, 18, 19]
theorem kB_kS : ∀ a, a ∈ kB → a ∈ kS := by decide
theorem MAt.fm {μ μ' : Mem} {S : St} {L K : List Nat} (h : MAt μ S) (hS : SOK S) (hF : Fm L K μ μ') (hL : ∀ a, a ∈ L → a ∈ lS) (hK : ∀ a, a ∈ K → a ∈ kS) : MAt μ' S := by
  have hF := hF.mono hL hK
  obtain ⟨h1, h2, h3, h4, h5, h6, h7, h8⟩ := h
  have hR := hS.2.2.1
  exact ⟨h1.fm hF (by decide) (by decide), h2.fm hR hF (by decide) (by decide), h3.fm hF (by decide) (by decide), h4.fm hR hF (by decide) (by decide) (by decide), h5.fm hR hF (by decide) (by decide), h6.fm hF (by decide) (by decide) (by decide), by rw [hF.2.2]; exact h7, by rw [hF.1 141 (by decide) (by decide)]; exact h8⟩
/-- the class's cells stay -/
def CSame (μ μ' : Mem) : Prop := (∀ a, a < 140 → μ'.1 a = μ.1 a ∧ μ'.2.1 a = μ.2.1 a) ∧ μ'.2.2 = μ.2.2
theorem CSame.rf {μ : Mem} : CSame μ μ := ⟨fun _ _ => ⟨rfl, rfl⟩, rfl⟩
theorem CSame.trans {μ μ' μ'' : Mem} (h1 : CSame μ μ') (h2 : CSame μ' μ'') : CSame μ μ'' := ⟨fun a h => ⟨(h2.1 a h).1.trans (h1.1 a h).1, (h2.1 a h).2.trans (h1.1 a h).2⟩, h2.2.trans h1.2⟩
theorem Fm.cs {L K : List Nat} {μ μ' : Mem} (h : Fm L K μ μ') (hL : ∀ a, a ∈ L → 140 ≤ a) : CSame μ μ' := ⟨fun a ha => ⟨h.1 a (fun z => by have := hL a z; omega) (by omega), by rw [h.2.2]⟩, by rw [h.2.2]⟩
theorem CAt.cs {μ μ' : Mem} {S : St} (h : CAt μ S) (hC : CSame μ μ') : CAt μ' S := h.kept (fun a ha _ => (hC.1 a ha).1) (by rw [(hC.1 125 (by decide)).1]) (hC.1 0 (by decide)).2 hC.2
theorem NowAt.ms {μ μ' : Mem} {a b : Nat} {R : Rl} {H : Hd} (h : NowAt μ a b R H) (e : μ'.1 a = μ.1 a) : NowAt μ' a b R H := by unfold NowAt; rw [e]; exact h
theorem MAt.ms {μ μ' : Mem} {S : St} (h : MAt μ S) (hM : MSame μ μ') : MAt μ' S := by
  obtain ⟨h1, h2, h3, ⟨a1, nx, a2, a3, a4⟩, h5, h6, h7, h8⟩ := h
  have e : ∀ a, 140 ≤ a → μ'.1 a = μ.1 a := fun a ha => (hM a ha).1
  refine ⟨?_, h2.ms (e _ (by decide)), ?_, ⟨by rw [e _ (by decide)]; exact a1, nx, a2, by rw [e _ (by decide)]; exact a3, fun k hk => (a4 k hk).ms (e _ (by decide))⟩, fun k hk => ⟨by rw [e _ (by decide)]; exact (h5 k hk).1, fun z => ((h5 k hk).2 z).ms (e _ (by decide))⟩, ?_, by rw [(hM 140 (by decide)).2]; exact h7, by rw [e _ (by decide)]; exact h8⟩
  · unfold MRoll
    rw [e 140 (by decide), e 141 (by decide), e 142 (by decide), e 143 (by decide), e 144 (by decide)]
    exact h1
  · unfold MText
    rw [e 140 (by decide), e 148 (by decide)]
    exact h3
  · unfold MSeen
    rw [e 140 (by decide), e 153 (by decide), e 154 (by decide)]
    exact h6
def QM (μ : Mem) (S : St) (v : Int32) : Int32 → Mem → Prop := fun r μ' => r = v ∧ MAt μ' S ∧ CSame μ μ'
def PM (μ : Mem) (q : Int32 × St) : Int32 → Mem → Prop := fun r μ' => r = q.1 ∧ MAt μ' q.2 ∧ CSame μ μ'
theorem QM.rf {μ : Mem} {S : St} {v r : Int32} (h : MAt μ S) (hr : r = v) : QM μ S v r μ := ⟨hr, h, CSame.rf⟩
theorem QM.of {μ μ' : Mem} {S : St} {v r : Int32} {L K : List Nat} (h : MAt μ S) (hS : SOK S) (hF : Fm L K μ μ') (hL : ∀ a, a ∈ L → a ∈ lS) (hK : ∀ a, a ∈ K → a ∈ kS) (hr : r = v) : QM μ S v r μ' := ⟨hr, h.fm hS hF hL hK, hF.cs (fun a z => by have := hL a z; unfold lS at this; simp at this; omega)⟩
theorem PM.rf {μ : Mem} {S : St} {r : Int32} {q : Int32 × St} (h : MAt μ S) (hq : q = (r, S)) : PM μ q r μ := ⟨by rw [hq], by rw [hq]; exact h, CSame.rf⟩
/-! the text -/
theorem c_X11_write (G : qG) (l : Launch) {μ : Mem} {S : St} (h : MAt μ S) (hS : SOK S) (x : Int32) : CtrI G l M_X11_write [.ref (qB G + 140), .int x] μ (PM μ (aWrite S x)) := by
  refine m_enterI [some (.ref (qB G + 140)), some (.int x)] (by decide +kernel) rfl (Nat.le_of_ble_eq_true rfl) (fun X hE hR => ?_)
  have hR : qR X = rm_X11_write := hR
  have hE : EI G X _ (some .int) := hE
  show Zm G X cX11_write RX11 _ 0 [some (.ref (qB G + 140)), some (.int x)] []
  obtain ⟨h1, h2, h3, h4, h5, h6, h7, h8⟩ := id h
  have hl := hS.1
  refine z_iload_1 iX11_write_0 ?_
  refine z_i2l iX11_write_1 ?_
  refine z_lconst (x := 0) iX11_write_2 rfl ?_
  refine z_ldc2 iX11_write_3 k_11_59 ?_
  refine m_callSi iX11_write_6 l_11_61 f_X11_in (c_inI G _ x (y := 0) (z := 255) (a := 0) (b := 255) rfl rfl) rfl rfl (Nat.le_of_ble_eq_true rfl) hR ft_X11_write_X11_in ⟨rfl, rfl⟩ ?_
  rintro r μ1 ⟨rfl, hr⟩
  rcases q_cases x 256 (by decide) with ⟨k, hk, rfl, ei⟩ | ⟨ei, hx, -⟩
  · rw [nI_toInt (by omega)] at hr
    rcases hr with ⟨rfl, hr⟩ | ⟨rfl, hr⟩
    · refine z_if_ne iX11_write_9 (fun q => ?_) (fun q => ?_)
      · refine z_aload_0 iX11_write_15 ?_
        refine m_getI iX11_write_16 g_11_65 rfl ?_
        refine z_top (h3.1) ?_
        refine z_bipush iX11_write_19 kB_52 ?_
        refine z_icmp_neN iX11_write_21 (by omega) (by omega) (fun q2 => ?_) (fun q2 => ?_)
        · have e : aWrite S (nI k) = (nI (sLn S + 1), ((sLn S + 1, updN (sTx S) (sLn S) k), S.2)) := by unfold aWrite; rw [ei]; exact if_neg (by omega)
          refine z_aload_0 iX11_write_27 ?_
          refine m_getR iX11_write_28 g_11_31 rfl ?_
          refine z_aload_0 iX11_write_31 ?_
          refine m_getI iX11_write_32 g_11_65 rfl ?_
          refine z_top (h3.1) ?_
          refine z_iload_1 iX11_write_35 ?_
          refine m_iastN iX11_write_36 rfl (by omega) ?_
          refine z_aload_0 iX11_write_37 ?_
          refine z_dup iX11_write_38 rfl ?_
          refine m_getI iX11_write_39 g_11_65 rfl ?_
          refine z_top ((by simp [mw_rd]; exact h3.1)) ?_
          refine z_iconst iX11_write_42 kI_1 ?_
          refine z_iaddN iX11_write_43 ?_
          refine m_putI iX11_write_44 p_11_65 rfl ?_
          refine z_aload_0 iX11_write_47 ?_
          refine m_getI iX11_write_48 g_11_65 rfl ?_
          refine z_top (mw_same _ _ _ _) ?_
          rw [e] at hE
          have hF : Fm [148] [12] μ1 (mw (mw μ1 148 (sLn S) (nI k)) 140 12 (nI (sLn S + 1))) := (Fm.rf.mw _ _ (by decide) (by decide)).put _ _ (by decide)
          refine m_iret hE iX11_write_51 ⟨rfl, ?_, hF.cs (by decide)⟩
          have hQ := hS.2.2.1
          refine ⟨h1.fm hF (by decide) (by decide), h2.fm hQ hF (by decide) (by decide), ⟨mw_same _ _ _ _, ?_⟩, h4.fm hQ hF (by decide) (by decide) (by decide), h5.fm hQ hF (by decide) (by decide), h6.fm hF (by decide) (by decide) (by decide), h7, by rw [hF.1 141 (by decide) (by decide)]; exact h8⟩
          intro i hi
          have hi' : i < sLn S + 1 := hi
          show _ = nI (updN (sTx S) (sLn S) k i)
          unfold updN
          rw [mw_ne _ _ (Or.inl (by decide))]
          by_cases e2 : i = sLn S
          · rw [e2, mw_same, if_pos rfl]
          · rw [mw_ne _ _ (Or.inr e2), if_neg e2]; exact h3.2 i (by omega)
        · refine z_bipush (x := -4) iX11_write_24 (by decide) ?_
          exact m_iret hE iX11_write_26 (PM.rf h (by unfold aWrite; rw [ei]; exact if_pos (by omega)))
      · exact absurd q nI10
    · omega
  · rcases hr with ⟨rfl, hr⟩ | ⟨rfl, hr⟩
    · omega
    · refine z_if_ne iX11_write_9 (fun q => ?_) (fun q => ?_)
      · exact absurd nI00 q
      · refine z_bipush (x := -2) iX11_write_12 (by decide) ?_
        exact m_iret hE iX11_write_14 (PM.rf h (by unfold aWrite; rw [ei]))
theorem c_X11_wipe (G : qG) (l : Launch) {μ : Mem} {S : St} (h : MAt μ S) (hS : SOK S) : CtrI G l M_X11_wipe [.ref (qB G + 140)] μ (PM μ (aWipe S)) := by
  refine m_enterI [some (.ref (qB G + 140)), none] (by decide +kernel) rfl (Nat.le_of_ble_eq_true rfl) (fun X hE hR => ?_)
  have hR : qR X = rm_X11_wipe := hR
  have hE : EI G X _ (some .int) := hE
  show Zm G X cX11_wipe RX11 _ 0 [some (.ref (qB G + 140)), none] []
  obtain ⟨h1, h2, h3, h4, h5, h6, h7, h8⟩ := id h
  refine z_aload_0 iX11_wipe_0 ?_
  refine m_getI iX11_wipe_1 g_11_65 rfl ?_
  refine z_top (h3.1) ?_
  refine z_istore_1 iX11_wipe_4 rfl ?_
  refine z_aload_0 iX11_wipe_5 ?_
  refine z_iconst iX11_wipe_6 kI_0 ?_
  refine m_putI iX11_wipe_7 p_11_65 rfl ?_
  refine z_iload_1 iX11_wipe_10 ?_
  have hF : Fm [] [12] μ (mw μ 140 12 (nI 0)) := Fm.rf.put _ _ (by decide)
  have hQ := hS.2.2.1
  exact m_iret hE iX11_wipe_11 ⟨rfl, ⟨h1.fm hF (by decide) (by decide), h2.fm hQ hF (by decide) (by decide), ⟨mw_same _ _ _ _, fun i hi => absurd hi (Nat.not_lt_zero i)⟩, h4.fm hQ hF (by decide) (by decide) (by decide), h5.fm hQ hF (by decide) (by decide), h6.fm hF (by decide) (by decide) (by decide), h7, by rw [hF.1 141 (by decide) (by decide)]; exact h8⟩, hF.cs (by decide)⟩
/-! answers of fencers, goods, bouts, costs -/
theorem NowAt.ow0 {μ : Mem} {a : Nat} {R : Rl} {H : Hd} (h : NowAt μ a 0 R H) {g : Nat} (hg : g < rGc R) : μ.1 a g = nI (hOw H g) := by have := h.1 g hg; rw [Nat.zero_add] at this; exact this
theorem NowAt.pu0 {μ : Mem} {a : Nat} {R : Rl} {H : Hd} (h : NowAt μ a 0 R H) {f : Nat} (hf : f < 6) : μ.1 a (5 + f) = nI (hPu H f) := by have := h.2.1 f hf; rw [Nat.zero_add] at this; exact this
theorem NowAt.fe0 {μ : Mem} {a : Nat} {R : Rl} {H : Hd} (h : NowAt μ a 0 R H) {f : Nat} (hf : f < 6) : μ.1 a (11 + f) = nI (hFe H f) := by have := h.2.2.1 f hf; rw [Nat.zero_add] at this; exact this
theorem c_X11_fencer (G : qG) (l : Launch) {μ : Mem} {S : St} (h : MAt μ S) (hS : SOK S) (x y : Int32) : CtrI G l M_X11_fencer [.ref (qB G + 140), .int x, .int y] μ (QM μ S (qFencer S x y)) := by
  refine m_enterI [some (.ref (qB G + 140)), some (.int x), some (.int y)] (by decide +kernel) rfl (Nat.le_of_ble_eq_true rfl) (fun X hE hR => ?_)
  have hR : qR X = rm_X11_fencer := hR
  have hE : EI G X _ (some .int) := hE
  show Zm G X cX11_fencer RX11 _ 0 [some (.ref (qB G + 140)), some (.int x), some (.int y)] []
  obtain ⟨h1, h2, h3, h4, h5, h6, h7, h8⟩ := id h
  have hQ := hS.2.2.1
  have n6 := hQ.1
  refine z_aload_0 iX11_fencer_0 ?_
  refine z_iload_1 iX11_fencer_1 ?_
  refine m_callVi iX11_fencer_2 l_11_153 f_X11_isFencer (c_X11_isFencer G _ h1.1 (by omega) x) rfl rfl rfl (Nat.le_of_ble_eq_true rfl) hR ft_X11_fencer_X11_isFencer ⟨rfl, rfl⟩ ?_
  rintro r μ1 ⟨rfl, ⟨rfl, f, hf, rfl⟩ | ⟨rfl, hn⟩⟩
  · have ei := idx_some (n := rFc (sR S)) (f := f) (by omega) hf
    have f6 : f < 6 := by omega
    refine z_if_ne iX11_fencer_5 (fun q => ?_) (fun q => ?_)
    · refine z_iload_2 iX11_fencer_10 ?_
      rcases q_cases y 6 (by decide) with ⟨k, hk, rfl, ej⟩ | ⟨ej, hy, -⟩
      · have hq : qFencer S (nI f) (nI k) = vFencer S f k := by unfold qFencer; rw [ei, ej]
        rcases (show k = 0 ∨ k = 1 ∨ k = 2 ∨ k = 3 ∨ k = 4 ∨ k = 5 by omega) with rfl | rfl | rfl | rfl | rfl | rfl
        · refine z_tableIn (tgt := 48) iX11_fencer_11 (by decide) (by decide) rfl (by decide) ?_
          refine z_aload_0 iX11_fencer_48 ?_
          refine m_getR iX11_fencer_49 g_11_7 rfl ?_
          refine z_iload_1 iX11_fencer_52 ?_
          refine m_ialdN iX11_fencer_53 rfl (by omega) ?_
          refine z_top ((h1.2.2.1 f hf).1) ?_
          exact m_iret hE iX11_fencer_54 (QM.rf h hq.symm)
        · refine z_tableIn (tgt := 55) iX11_fencer_11 (by decide) (by decide) rfl (by decide) ?_
          have m0 := (h1.2.2.1 f hf).2 0 (by decide)
          rw [Nat.add_zero] at m0
          refine z_bipush iX11_fencer_55 kB_100 ?_
          refine z_aload_0 iX11_fencer_57 ?_
          refine m_getR iX11_fencer_58 g_11_13 rfl ?_
          refine z_iconst iX11_fencer_61 kI_3 ?_
          refine z_iload_1 iX11_fencer_62 ?_
          refine z_imulN iX11_fencer_63 ?_
          refine m_ialdN iX11_fencer_64 rfl (by omega) ?_
          refine z_top (m0) ?_
          refine z_imulN iX11_fencer_65 ?_
          refine z_bipush iX11_fencer_66 kB_10 ?_
          refine z_aload_0 iX11_fencer_68 ?_
          refine m_getR iX11_fencer_69 g_11_13 rfl ?_
          refine z_iconst iX11_fencer_72 kI_3 ?_
          refine z_iload_1 iX11_fencer_73 ?_
          refine z_imulN iX11_fencer_74 ?_
          refine z_iconst iX11_fencer_75 kI_1 ?_
          refine z_iaddN iX11_fencer_76 ?_
          refine m_ialdN iX11_fencer_77 rfl (by omega) ?_
          refine z_top ((h1.2.2.1 f hf).2 1 (by decide)) ?_
          refine z_imulN iX11_fencer_78 ?_
          refine z_iaddN iX11_fencer_79 ?_
          refine z_aload_0 iX11_fencer_80 ?_
          refine m_getR iX11_fencer_81 g_11_13 rfl ?_
          refine z_iconst iX11_fencer_84 kI_3 ?_
          refine z_iload_1 iX11_fencer_85 ?_
          refine z_imulN iX11_fencer_86 ?_
          refine z_iconst iX11_fencer_87 kI_2 ?_
          refine z_iaddN iX11_fencer_88 ?_
          refine m_ialdN iX11_fencer_89 rfl (by omega) ?_
          refine z_top ((h1.2.2.1 f hf).2 2 (by decide)) ?_
          refine z_iaddN iX11_fencer_90 ?_
          exact m_iret hE iX11_fencer_91 (QM.rf h hq.symm)
        · refine z_tableIn (tgt := 92) iX11_fencer_11 (by decide) (by decide) rfl (by decide) ?_
          refine z_aload_0 iX11_fencer_92 ?_
          refine m_getR iX11_fencer_93 g_11_22 rfl ?_
          refine z_iconst iX11_fencer_96 kI_5 ?_
          refine z_iload_1 iX11_fencer_97 ?_
          refine z_iaddN iX11_fencer_98 ?_
          refine m_ialdN iX11_fencer_99 rfl (by omega) ?_
          refine z_top (h2.pu0 f6) ?_
          exact m_iret hE iX11_fencer_100 (QM.rf h hq.symm)
        · refine z_tableIn (tgt := 101) iX11_fencer_11 (by decide) (by decide) rfl (by decide) ?_
          refine z_aload_0 iX11_fencer_101 ?_
          refine m_getR iX11_fencer_102 g_11_22 rfl ?_
          refine z_bipush iX11_fencer_105 kB_11 ?_
          refine z_iload_1 iX11_fencer_107 ?_
          refine z_iaddN iX11_fencer_108 ?_
          refine m_ialdN iX11_fencer_109 rfl (by omega) ?_
          refine z_top (h2.fe0 f6) ?_
          exact m_iret hE iX11_fencer_110 (QM.rf h hq.symm)
        · refine z_tableIn (tgt := 111) iX11_fencer_11 (by decide) (by decide) rfl (by decide) ?_
          refine z_aload_0 iX11_fencer_111 ?_
          refine z_iload_1 iX11_fencer_112 ?_
          refine m_callVi iX11_fencer_113 l_11_157 f_X11_ownedBy (c_X11_ownedBy G _ hQ hS.2.2.2.1 h1 h2 (by omega)) rfl rfl rfl (Nat.le_of_ble_eq_true rfl) hR ft_X11_fencer_X11_ownedBy ⟨rfl, rfl⟩ ?_
          rintro r μ2 ⟨rfl, rfl⟩
          exact m_iret hE iX11_fencer_116 (QM.rf h hq.symm)
        · refine z_tableIn (tgt := 117) iX11_fencer_11 (by decide) (by decide) rfl (by decide) ?_
          refine z_aload_0 iX11_fencer_117 ?_
          refine z_iload_1 iX11_fencer_118 ?_
          refine m_callVi iX11_fencer_119 l_11_160 f_X11_beatenBy (c_X11_beatenBy G _ hQ hS.2.2.2.1 h1 h2 hf) rfl rfl rfl (Nat.le_of_ble_eq_true rfl) hR ft_X11_fencer_X11_beatenBy ⟨rfl, rfl⟩ ?_
          rintro r μ2 ⟨hF, rfl⟩
          exact m_iret hE iX11_fencer_122 (QM.of h hS hF (by decide) kB_kS hq.symm)
      · refine z_tableOut (tgt := 123) iX11_fencer_11 (by omega) (by decide) ?_
        refine z_bipush (x := -2) iX11_fencer_123 (by decide) ?_
        exact m_iret hE iX11_fencer_125 (QM.rf h (by unfold qFencer; rw [ei, ej]))
    · exact absurd q nI10
  · refine z_if_ne iX11_fencer_5 (fun q => ?_) (fun q => ?_)
    · exact absurd nI00 q
    · refine z_iconst (x := -1) iX11_fencer_8 (by decide) ?_
      exact m_iret hE iX11_fencer_9 (QM.rf h (by unfold qFencer; rw [idx_none hn]))
theorem c_X11_good (G : qG) (l : Launch) {μ : Mem} {S : St} (h : MAt μ S) (hS : SOK S) (x y : Int32) : CtrI G l M_X11_good [.ref (qB G + 140), .int x, .int y] μ (QM μ S (qGood S x y)) := by
  refine m_enterI [some (.ref (qB G + 140)), some (.int x), some (.int y)] (by decide +kernel) rfl (Nat.le_of_ble_eq_true rfl) (fun X hE hR => ?_)
  have hR : qR X = rm_X11_good := hR
  have hE : EI G X _ (some .int) := hE
  show Zm G X cX11_good RX11 _ 0 [some (.ref (qB G + 140)), some (.int x), some (.int y)] []
  obtain ⟨h1, h2, h3, h4, h5, h6, h7, h8⟩ := id h
  have hQ := hS.2.2.1
  have n5 := hQ.2.1
  refine z_aload_0 iX11_good_0 ?_
  refine z_iload_1 iX11_good_1 ?_
  refine m_callVi iX11_good_2 l_11_163 f_X11_isGood (c_X11_isGood G _ h1.2.1 (by omega) x) rfl rfl rfl (Nat.le_of_ble_eq_true rfl) hR ft_X11_good_X11_isGood ⟨rfl, rfl⟩ ?_
  rintro r μ1 ⟨rfl, ⟨rfl, g, hg, rfl⟩ | ⟨rfl, hn⟩⟩
  · have ei := idx_some (n := rGc (sR S)) (f := g) (by omega) hg
    refine z_if_ne iX11_good_5 (fun q => ?_) (fun q => ?_)
    · refine z_iload_2 iX11_good_10 ?_
      refine z_if_ne iX11_good_11 (fun q1 => ?_) (fun q1 => ?_)
      · refine z_iload_2 iX11_good_23 ?_
        refine z_iconst iX11_good_24 kI_1 ?_
        refine z_icmp_ne iX11_good_25 (fun q2 => ?_) (fun q2 => ?_)
        · refine z_iload_2 iX11_good_37 ?_
          refine z_iconst iX11_good_38 kI_2 ?_
          refine z_icmp_ne iX11_good_39 (fun q3 => ?_) (fun q3 => ?_)
          · refine z_bipush (x := -2) iX11_good_51 (by decide) ?_
            exact m_iret hE iX11_good_53 (QM.rf h (by
              unfold qGood
              rw [ei]
              rcases q_cases y 3 (by decide) with ⟨k, hk, rfl, ej⟩ | ⟨ej, -⟩
              · rcases (show k = 0 ∨ k = 1 ∨ k = 2 by omega) with rfl | rfl | rfl
                · exact absurd nI00 q1
                · exact absurd rfl q2
                · exact absurd rfl q3
              · rw [ej]))
          · refine z_aload_0 iX11_good_42 ?_
            refine m_getR iX11_good_43 g_11_16 rfl ?_
            refine z_iload_1 iX11_good_46 ?_
            refine m_ialdN iX11_good_47 rfl (by omega) ?_
            refine z_top ((h1.2.2.2 g hg).1) ?_
            refine z_goto iX11_good_48 ?_
            exact m_iret hE iX11_good_53 (QM.rf h (by unfold qGood; rw [ei, q3, idx_some (by decide) (by decide)]; rfl))
        · refine z_aload_0 iX11_good_28 ?_
          refine m_getR iX11_good_29 g_11_19 rfl ?_
          refine z_iload_1 iX11_good_32 ?_
          refine m_ialdN iX11_good_33 rfl (by omega) ?_
          refine z_top ((h1.2.2.2 g hg).2) ?_
          refine z_goto iX11_good_34 ?_
          exact m_iret hE iX11_good_53 (QM.rf h (by unfold qGood; rw [ei, q2, idx_some (by decide) (by decide)]; rfl))
      · refine z_aload_0 iX11_good_14 ?_
        refine m_getR iX11_good_15 g_11_22 rfl ?_
        refine z_iload_1 iX11_good_18 ?_
        refine m_ialdN iX11_good_19 rfl (by omega) ?_
        refine z_top (h2.ow0 hg) ?_
        refine z_goto iX11_good_20 ?_
        exact m_iret hE iX11_good_53 (QM.rf h (by unfold qGood; rw [ei, q1, ← nI_0, idx_some (by decide) (by decide)]; rfl))
    · exact absurd q nI10
  · refine z_if_ne iX11_good_5 (fun q => ?_) (fun q => ?_)
    · exact absurd nI00 q
    · refine z_iconst (x := -1) iX11_good_8 (by decide) ?_
      exact m_iret hE iX11_good_9 (QM.rf h (by unfold qGood; rw [idx_none hn]))
theorem c_X11_bout (G : qG) (l : Launch) {μ : Mem} {S : St} (h : MAt μ S) (hS : SOK S) (x y z : Int32) : CtrI G l M_X11_bout [.ref (qB G + 140), .int x, .int y, .int z] μ (QM μ S (qPair S x y z 3 (vBout S))) := by
  refine m_enterI [some (.ref (qB G + 140)), some (.int x), some (.int y), some (.int z)] (by decide +kernel) rfl (Nat.le_of_ble_eq_true rfl) (fun X hE hR => ?_)
  have hR : qR X = rm_X11_bout := hR
  have hE : EI G X _ (some .int) := hE
  show Zm G X cX11_bout RX11 _ 0 [some (.ref (qB G + 140)), some (.int x), some (.int y), some (.int z)] []
  obtain ⟨h1, h2, h3, h4, h5, h6, h7, h8⟩ := id h
  have hQ := hS.2.2.1
  have n6 := hQ.1
  have no : (idx x (rFc (sR S)) = none ∨ idx y (rFc (sR S)) = none) → Zm G X cX11_bout RX11 μ 16 [some (.ref (qB G + 140)), some (.int x), some (.int y), some (.int z)] [] := by
    intro hn
    refine z_iconst (x := -1) iX11_bout_16 (by decide) ?_
    exact m_iret hE iX11_bout_17 (QM.rf h (qPair_no hn).symm)
  refine z_aload_0 iX11_bout_0 ?_
  refine z_iload_1 iX11_bout_1 ?_
  refine m_callVi iX11_bout_2 l_11_153 f_X11_isFencer (c_X11_isFencer G _ h1.1 (by omega) x) rfl rfl rfl (Nat.le_of_ble_eq_true rfl) hR ft_X11_bout_X11_isFencer ⟨rfl, rfl⟩ ?_
  rintro r μ1 ⟨rfl, ⟨rfl, i, hi, rfl⟩ | ⟨rfl, hn⟩⟩
  · refine z_if_eq iX11_bout_5 (fun q => ?_) (fun q => ?_)
    · exact absurd q nI10
    · refine z_aload_0 iX11_bout_8 ?_
      refine z_iload_2 iX11_bout_9 ?_
      refine m_callVi iX11_bout_10 l_11_153 f_X11_isFencer (c_X11_isFencer G _ h1.1 (by omega) y) rfl rfl rfl (Nat.le_of_ble_eq_true rfl) hR ft_X11_bout_X11_isFencer ⟨rfl, rfl⟩ ?_
      rintro r μ2 ⟨rfl, ⟨rfl, j, hj, rfl⟩ | ⟨rfl, hn⟩⟩
      · refine z_if_ne iX11_bout_13 (fun q => ?_) (fun q => ?_)
        · have out : (i = j ∨ idx z 3 = none) → Zm G X cX11_bout RX11 μ2 35 [some (.ref (qB G + 140)), some (.int (nI i)), some (.int (nI j)), some (.int z)] [] := by
            intro ho
            refine z_bipush (x := -2) iX11_bout_35 (by decide) ?_
            exact m_iret hE iX11_bout_37 (QM.rf h (qPair_out n6 hi hj ho).symm)
          refine z_iload_1 iX11_bout_18 ?_
          refine z_iload_2 iX11_bout_19 ?_
          refine z_icmp_eqN iX11_bout_20 (by omega) (by omega) (fun q1 => ?_) (fun q1 => ?_)
          · exact out (Or.inl q1)
          · refine z_iload_3 iX11_bout_23 ?_
            refine z_i2l iX11_bout_24 ?_
            refine z_lconst (x := 0) iX11_bout_25 rfl ?_
            refine z_ldc2 iX11_bout_26 k_11_166 ?_
            refine m_callSi iX11_bout_29 l_11_61 f_X11_in (c_inI G _ z (y := 0) (z := 2) (a := 0) (b := 2) rfl rfl) rfl rfl (Nat.le_of_ble_eq_true rfl) hR ft_X11_bout_X11_in ⟨rfl, rfl⟩ ?_
            rintro r μ3 ⟨rfl, hr⟩
            rcases q_cases z 3 (by decide) with ⟨k, hk, rfl, ei⟩ | ⟨ei, hx, -⟩
            · rw [nI_toInt (by omega)] at hr
              rcases hr with ⟨rfl, hr⟩ | ⟨rfl, hr⟩
              · refine z_if_ne iX11_bout_32 (fun q2 => ?_) (fun q2 => ?_)
                · have e := qPair_in (v := vBout S) n6 hi hj q1 hk (by decide)
                  refine z_aload_0 iX11_bout_38 ?_
                  refine z_iconst iX11_bout_39 kI_0 ?_
                  refine z_iload_1 iX11_bout_40 ?_
                  refine z_iload_2 iX11_bout_41 ?_
                  refine m_callVv iX11_bout_42 l_11_145 f_X11_fightOn (c_X11_fightOn (lv := 0) G _ hQ hS.2.2.2.1 h1 (by decide) h2 hi hj) rfl rfl rfl (Nat.le_of_ble_eq_true rfl) hR ft_X11_bout_X11_fightOn ⟨rfl, rfl⟩ ?_
                  rintro μ4 ⟨hF, hP⟩
                  rw [e] at hE
                  refine z_iload_3 iX11_bout_45 ?_
                  refine z_if_neN iX11_bout_46 (by omega) (fun q3 => ?_) (fun q3 => ?_)
                  · refine z_iload_3 iX11_bout_56 ?_
                    refine z_iconst iX11_bout_57 kI_1 ?_
                    refine z_icmp_neN iX11_bout_58 (by omega) (by omega) (fun q4 => ?_) (fun q4 => ?_)
                    · refine z_aload_0 iX11_bout_68 ?_
                      refine m_getI iX11_bout_69 g_11_111 rfl ?_
                      refine z_top (hP.2.2.2.2) ?_
                      refine m_iret hE iX11_bout_72 (QM.of h hS hF (by decide) kB_kS ?_)
                      unfold vBout; rw [if_neg q3, if_neg q4]
                    · refine z_aload_0 iX11_bout_61 ?_
                      refine m_getI iX11_bout_62 g_11_131 rfl ?_
                      refine z_top (hP.2.2.2.1) ?_
                      refine z_goto iX11_bout_65 ?_
                      refine m_iret hE iX11_bout_72 (QM.of h hS hF (by decide) kB_kS ?_)
                      unfold vBout; rw [if_neg q3, if_pos q4]; rfl
                  · refine z_aload_0 iX11_bout_49 ?_
                    refine m_getI iX11_bout_50 g_11_128 rfl ?_
                    refine z_top (hP.2.2.1) ?_
                    refine z_goto iX11_bout_53 ?_
                    refine m_iret hE iX11_bout_72 (QM.of h hS hF (by decide) kB_kS ?_)
                    unfold vBout; rw [if_pos q3]; rfl
                · exact absurd q2 nI10
              · omega
            · rcases hr with ⟨rfl, hr⟩ | ⟨rfl, hr⟩
              · omega
              · refine z_if_ne iX11_bout_32 (fun q2 => ?_) (fun q2 => ?_)
                · exact absurd nI00 q2
                · exact out (Or.inr ei)
        · exact absurd q nI10
      · refine z_if_ne iX11_bout_13 (fun q => ?_) (fun q => ?_)
        · exact absurd nI00 q
        · exact no (Or.inr (idx_none hn))
  · refine z_if_eq iX11_bout_5 (fun q => ?_) (fun q => ?_)
    · exact no (Or.inl (idx_none hn))
    · exact absurd nI00 q
theorem qCost_no {S : St} {x y : Int32} (h : idx x (rFc (sR S)) = none ∨ idx y (rGc (sR S)) = none) : qCost S x y = -1 := by
  unfold qCost
  rcases h with h | h
  · rw [h]
  · rw [h]; split <;> simp_all
theorem qCost_in {S : St} {f g : Nat} (hS : SOK S) (hf : f < rFc (sR S)) (hg : g < rGc (sR S)) : qCost S (nI f) (nI g) = if hOw (sH S) g = f then -3 else nI (costH (sR S) (sH S) f (hOw (sH S) g) g) := by
  have h6 := hS.2.2.1.1
  have h5 := hS.2.2.1.2.1
  unfold qCost
  rw [idx_some (by omega) hf, idx_some (by omega) hg]
theorem c_X11_cost (G : qG) (l : Launch) {μ : Mem} {S : St} (h : MAt μ S) (hS : SOK S) (x y : Int32) : CtrI G l M_X11_cost [.ref (qB G + 140), .int x, .int y] μ (QM μ S (qCost S x y)) := by
  refine m_enterI [some (.ref (qB G + 140)), some (.int x), some (.int y)] (by decide +kernel) rfl (Nat.le_of_ble_eq_true rfl) (fun X hE hR => ?_)
  have hR : qR X = rm_X11_cost := hR
  have hE : EI G X _ (some .int) := hE
  show Zm G X cX11_cost RX11 _ 0 [some (.ref (qB G + 140)), some (.int x), some (.int y)] []
  obtain ⟨h1, h2, h3, h4, h5, h6, h7, h8⟩ := id h
  have hQ := hS.2.2.1
  have n6 := hQ.1
  have n5 := hQ.2.1
  have no : (idx x (rFc (sR S)) = none ∨ idx y (rGc (sR S)) = none) → Zm G X cX11_cost RX11 μ 16 [some (.ref (qB G + 140)), some (.int x), some (.int y)] [] := by
    intro hn
    refine z_iconst (x := -1) iX11_cost_16 (by decide) ?_
    exact m_iret hE iX11_cost_17 (QM.rf h (qCost_no hn).symm)
  refine z_aload_0 iX11_cost_0 ?_
  refine z_iload_1 iX11_cost_1 ?_
  refine m_callVi iX11_cost_2 l_11_153 f_X11_isFencer (c_X11_isFencer G _ h1.1 (by omega) x) rfl rfl rfl (Nat.le_of_ble_eq_true rfl) hR ft_X11_cost_X11_isFencer ⟨rfl, rfl⟩ ?_
  rintro r μ1 ⟨rfl, ⟨rfl, f, hf, rfl⟩ | ⟨rfl, hn⟩⟩
  · refine z_if_eq iX11_cost_5 (fun q => ?_) (fun q => ?_)
    · exact absurd q nI10
    · refine z_aload_0 iX11_cost_8 ?_
      refine z_iload_2 iX11_cost_9 ?_
      refine m_callVi iX11_cost_10 l_11_163 f_X11_isGood (c_X11_isGood G _ h1.2.1 (by omega) y) rfl rfl rfl (Nat.le_of_ble_eq_true rfl) hR ft_X11_cost_X11_isGood ⟨rfl, rfl⟩ ?_
      rintro r μ2 ⟨rfl, ⟨rfl, g, hg, rfl⟩ | ⟨rfl, hn⟩⟩
      · have e := qCost_in hS hf hg
        have ho := hS.2.2.2.1.1 g hg
        refine z_if_ne iX11_cost_13 (fun q => ?_) (fun q => ?_)
        · refine z_aload_0 iX11_cost_18 ?_
          refine m_getR iX11_cost_19 g_11_22 rfl ?_
          refine z_iload_2 iX11_cost_22 ?_
          refine m_ialdN iX11_cost_23 rfl (by omega) ?_
          refine z_top (h2.ow0 hg) ?_
          refine z_iload_1 iX11_cost_24 ?_
          refine z_icmp_neN iX11_cost_25 (by omega) (by omega) (fun q1 => ?_) (fun q1 => ?_)
          · refine z_aload_0 iX11_cost_33 ?_
            refine z_iconst iX11_cost_34 kI_0 ?_
            refine z_iload_1 iX11_cost_35 ?_
            refine z_aload_0 iX11_cost_36 ?_
            refine m_getR iX11_cost_37 g_11_22 rfl ?_
            refine z_iload_2 iX11_cost_40 ?_
            refine m_ialdN iX11_cost_41 rfl (by omega) ?_
            refine z_top (h2.ow0 hg) ?_
            refine z_iload_2 iX11_cost_42 ?_
            refine m_callVi iX11_cost_43 l_11_168 f_X11_costFrom (c_X11_costFrom (lv := 0) G _ hQ hS.2.2.2.1 h1 (by decide) h2 hf ho hg) rfl rfl rfl (Nat.le_of_ble_eq_true rfl) hR ft_X11_cost_X11_costFrom ⟨rfl, rfl⟩ ?_
            rintro r μ3 ⟨hF, rfl⟩
            exact m_iret hE iX11_cost_46 (QM.of h hS hF (by decide) kB_kS (by rw [e, if_neg q1]))
          · refine z_bipush (x := -3) iX11_cost_28 (by decide) ?_
            refine z_goto iX11_cost_30 ?_
            exact m_iret hE iX11_cost_46 (QM.rf h (by rw [e, if_pos q1]))
        · exact absurd q nI10
      · refine z_if_ne iX11_cost_13 (fun q => ?_) (fun q => ?_)
        · exact absurd nI00 q
        · exact no (Or.inr (idx_none hn))
  · refine z_if_eq iX11_cost_5 (fun q => ?_) (fun q => ?_)
    · exact no (Or.inl (idx_none hn))
    · exact absurd nI00 q

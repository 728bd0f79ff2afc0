/-! THE REFERENCE: order -/
theorem okO_cons {n : Nat} {a : List Nat} {r : List (List Nat)} (h : okO n (a :: r) = true) : (∀ j, j < n → gt a j < n) ∧ okO n r = true := by
  unfold okO at h ⊢
  rw [List.all_cons, Bool.and_eq_true] at h
  refine ⟨fun j hj => ?_, h.2⟩
  have := List.all_eq_true.mp h.1 j (List.mem_range.mpr hj)
  simpa using this
theorem chO_nil {n : Nat} {a : List Nat} (h : chO n [a] = true) : nxP n (gt a) = none := by
  simp only [chO, Bool.and_true] at h
  cases e : nxP n (gt a) with
  | none => rfl
  | some p => rw [e] at h; cases h
theorem chO_cons {n : Nat} {a b : List Nat} {r : List (List Nat)} (h : chO n (a :: b :: r) = true) : (∃ p, nxP n (gt a) = some p ∧ ∀ j, j < n → p j = gt b j) ∧ chO n (b :: r) = true := by
  have h : ((match nxP n (gt a) with
      | none => false
      | some p => (List.range n).all (fun j => p j == gt b j)) && chO n (b :: r)) = true := h
  rw [Bool.and_eq_true] at h
  refine ⟨?_, h.2⟩
  cases e : nxP n (gt a) with
  | none => rw [e] at h; cases h.1
  | some p =>
    rw [e] at h
    refine ⟨p, rfl, fun j hj => ?_⟩
    have := List.all_eq_true.mp h.1 j (List.mem_range.mpr hj)
    simpa using this
theorem agP_lt {bs p : Nat → Nat} {n : Nat} (hn : n ≤ 6) : agP bs p n < 1000 := by
  have h1 := agS_le bs p n n
  have h2 := mul6 (a := n) (b := n) hn hn
  unfold agP
  omega
theorem c_X11_order (G : qG) (l : Launch) {μ : Mem} {S : St} (h : MAt μ S) (hS : SOK S) (x : Int32) : CtrI G l M_X11_order [.ref (qB G + 140), .int x] μ (QM μ S (qTwo x (nI (ordT S (2 ^ rFc (sR S) - 1))) (nI (bOrd (whoB (sR S) (sH S)) (ordT S) (rFc (sR S)) (rFc (sR S))).2))) := by
  refine m_enterI [some (.ref (qB G + 140)), some (.int x), none, none, none] (by decide +kernel) rfl (Nat.le_of_ble_eq_true rfl) (fun X hE hR => ?_)
  have hR : qR X = rm_X11_order := hR
  have hE : EI G X _ (some .int) := hE
  show Zm G X cX11_order RX11 _ 0 [some (.ref (qB G + 140)), some (.int x), none, none, none] []
  obtain ⟨h1, h2, h3, h4, h5, h6, h7, h8⟩ := id h
  have hQ := hS.2.2.1
  have hH := hS.2.2.2.1
  have n6 := hQ.1
  have h2p : (2 : Nat) ^ rFc (sR S) ≤ 64 := Nat.pow_le_pow_right (by decide) n6
  refine z_iload_1 iX11_order_0 ?_
  refine z_i2l iX11_order_1 ?_
  refine z_lconst (x := 0) iX11_order_2 rfl ?_
  refine z_lconst (x := 1) iX11_order_3 rfl ?_
  refine m_callSi iX11_order_4 l_11_61 f_X11_in (c_inI G _ x (y := 0) (z := 1) (a := 0) (b := 1) rfl rfl) rfl rfl (Nat.le_of_ble_eq_true rfl) hR ft_X11_order_X11_in ⟨rfl, rfl⟩ ?_
  rintro r μ1 ⟨rfl, hr⟩
  rcases q_cases x 2 (by decide) with ⟨k, hk, rfl, ei⟩ | ⟨ei, hx, -⟩
  · rw [nI_toInt (by omega)] at hr
    rcases hr with ⟨rfl, hr⟩ | ⟨rfl, hr⟩
    · refine z_if_ne iX11_order_7 (fun q2 => ?_) (fun q2 => ?_)
      · have hbs : ∀ k, k < rFc (sR S) → btS (sR S) (sH S) k < 64 := fun k _ => Nat.lt_of_lt_of_le btS_lt h2p
        have hBs : ∀ j k, j < rFc (sR S) → k < rFc (sR S) → bitN (btS (sR S) (sH S) j) k = bitN (whoB (sR S) (sH S) k) j := by
          intro j k hj hk
          have e1 := bs_bit (R := sR S) (H := sH S) (k := j) (o := k) hk
          have e2 := who_bit (R := sR S) (H := sH S) (k := j) (o := k) hj
          rcases bit_01 (btS (sR S) (sH S) j) k with a | a <;> rcases bit_01 (whoB (sR S) (sH S) k) j with b | b
          · rw [a, b]
          · have := e1.mpr (e2.mp b); omega
          · have := e2.mpr (e1.mp a); omega
          · rw [a, b]
        have hbest := bm_lex (B := whoB (sR S) (sH S)) (bs := btS (sR S) (sH S)) n6 hBs (rFc (sR S)) (2 ^ rFc (sR S) - 1) 0 (by have := Nat.two_pow_pos (rFc (sR S)); omega) (cnt_all (rFc (sR S)) (by omega))
        have hgd : gd (whoB (sR S) (sH S)) (tbl (whoB (sR S) (sH S)) (rFc (sR S)) (2 ^ rFc (sR S))) (rFc (sR S)) (rFc (sR S)) 0 (2 ^ rFc (sR S) - 1) = (bOrd (whoB (sR S) (sH S)) (ordT S) (rFc (sR S)) (rFc (sR S))).2 := gd_bOrd (whoB (sR S) (sH S)) (ordT S) (rFc (sR S)) (rFc (sR S)) 0 (by omega)
        have hch := chO_all (rFc (sR S)) (by omega)
        have hok := okO_all (rFc (sR S)) (by omega)
        have hhd := hdO_all (rFc (sR S)) (by omega)
        rw [hgd] at hbest
        generalize lexP (rFc (sR S)) (rFc (sR S)) (2 ^ rFc (sR S) - 1) = L at hbest hch hok hhd
        cases L with
        | nil => cases hhd
        | cons a0 r0 =>
          have hid : ∀ j, j < rFc (sR S) → gt a0 j = j := by
            intro j hj
            have hhd : (List.range (rFc (sR S))).all (fun j => gt a0 j == j) = true := hhd
            have := List.all_eq_true.mp hhd j (List.mem_range.mpr hj)
            simpa using this
          have hfold : r0.foldl (stB (fun l => agP (btS (sR S) (sH S)) (gt l) (rFc (sR S))) (fun l => fgA 0 (gt l) (rFc (sR S)))) (agP (btS (sR S) (sH S)) (gt a0) (rFc (sR S)), fgA 0 (gt a0) (rFc (sR S))) = (ordT S (2 ^ rFc (sR S) - 1), (bOrd (whoB (sR S) (sH S)) (ordT S) (rFc (sR S)) (rFc (sR S))).2) := by
            have := bm_fold (fun l => agP (btS (sR S) (sH S)) (gt l) (rFc (sR S))) (fun l => fgA 0 (gt l) (rFc (sR S))) r0 (agP (btS (sR S) (sH S)) (gt a0) (rFc (sR S)), fgA 0 (gt a0) (rFc (sR S)))
            exact Option.some.inj (this.trans hbest)
          have loop : ∀ (r : List (List Nat)) (a : List Nat) (q : Nat × Nat) (o : Option Value) (μ' : Mem), chO (rFc (sR S)) (a :: r) = true → okO (rFc (sR S)) (a :: r) = true → (o = none ∨ ∃ w, o = some (.int w)) → q.1 < 1000 → Fm [151, 152] kB μ1 μ' → StAt μ' (rFc (sR S)) (gt a) → (∀ k, k < rFc (sR S) → μ'.1 152 k = nI (btS (sR S) (sH S) k)) → r.foldl (stB (fun l => agP (btS (sR S) (sH S)) (gt l) (rFc (sR S))) (fun l => fgA 0 (gt l) (rFc (sR S)))) q = (ordT S (2 ^ rFc (sR S) - 1), (bOrd (whoB (sR S) (sH S)) (ordT S) (rFc (sR S)) (rFc (sR S))).2) → Zm G X cX11_order RX11 μ' 57 [some (.ref (qB G + 140)), some (.int (nI k)), some (.int (nI q.1)), some (.int (nI q.2)), o] [] := by
            intro r
            induction r with
            | nil =>
              intro a q o μ' hc ho hoo hq hF hSt hb hf
              have hR2 := h1.fm hF (by decide) (by decide)
              have hlt := (okO_cons ho).1
              have hf : q = (ordT S (2 ^ rFc (sR S) - 1), (bOrd (whoB (sR S) (sH S)) (ordT S) (rFc (sR S)) (rFc (sR S))).2) := hf
              refine z_aload_0 iX11_order_57 ?_
              refine m_callVi iX11_order_58 l_11_204 f_X11_nextOrder (c_X11_nextOrder G _ n6 hR2.1 hSt (fun j hj => by have := hlt j hj; omega)) rfl rfl rfl (Nat.le_of_ble_eq_true rfl) hR ft_X11_order_X11_nextOrder ⟨rfl, rfl⟩ ?_
              rintro r μ2 ⟨hF2, ⟨rfl, he⟩ | ⟨rfl, p', he, hS2⟩⟩
              · have hF3 : Fm [151, 152] kB μ1 μ2 := hF.trans (hF2.mono (by decide) (by decide))
                have hq9 : ∀ v : Int32, QM μ1 S v v μ2 := fun v => QM.of h hS hF3 (by decide) kB_kS rfl
                refine z_if_eq iX11_order_61 (fun q3 => ?_) (fun q3 => ?_)
                · refine z_iload_1 iX11_order_101 ?_
                  refine z_if_neN iX11_order_102 (by omega) (fun q4 => ?_) (fun q4 => ?_)
                  · rw [show k = 1 by omega, qTwo_1] at hE
                    rw [hf]
                    refine z_iload_3 iX11_order_109 ?_
                    exact m_iret hE iX11_order_110 (hq9 _)
                  · rw [q4, qTwo_0] at hE
                    rw [hf]
                    refine z_iload_2 iX11_order_105 ?_
                    refine z_goto iX11_order_106 ?_
                    exact m_iret hE iX11_order_110 (hq9 _)
                · exact absurd nI00 q3
              · rw [chO_nil hc] at he; cases he
            | cons b r ih =>
              intro a q o μ' hc ho hoo hq hF hSt hb hf
              have hR2 := h1.fm hF (by decide) (by decide)
              have hlt := (okO_cons ho).1
              have hok2 := (okO_cons ho).2
              have hltb := (okO_cons hok2).1
              obtain ⟨⟨p, hp1, hp2⟩, hc2⟩ := chO_cons hc
              refine z_aload_0 iX11_order_57 ?_
              refine m_callVi iX11_order_58 l_11_204 f_X11_nextOrder (c_X11_nextOrder G _ n6 hR2.1 hSt (fun j hj => by have := hlt j hj; omega)) rfl rfl rfl (Nat.le_of_ble_eq_true rfl) hR ft_X11_order_X11_nextOrder ⟨rfl, rfl⟩ ?_
              rintro r9 μ2 ⟨hF2, ⟨rfl, he⟩ | ⟨rfl, p', he, hS2⟩⟩
              · rw [hp1] at he; cases he
              · have hpp : p' = p := Option.some.inj (he.symm.trans hp1)
                have hF3 : Fm [151, 152] kB μ1 μ2 := hF.trans (hF2.mono (by decide) (by decide))
                have hSb : StAt μ2 (rFc (sR S)) (gt b) := fun j hj => by rw [hS2 j hj, hpp, hp2 j hj]
                have hR3 := h1.fm hF3 (by decide) (by decide)
                have hb3 : ∀ k, k < rFc (sR S) → μ2.1 152 k = nI (btS (sR S) (sH S) k) := fun k hk => by rw [hF2.1 152 (by decide) (by decide)]; exact hb k hk
                have hal := agP_lt (bs := btS (sR S) (sH S)) (p := gt b) n6
                have hf : r.foldl (stB (fun l => agP (btS (sR S) (sH S)) (gt l) (rFc (sR S))) (fun l => fgA 0 (gt l) (rFc (sR S)))) (stB (fun l => agP (btS (sR S) (sH S)) (gt l) (rFc (sR S))) (fun l => fgA 0 (gt l) (rFc (sR S))) q b) = _ := hf
                refine z_if_eq iX11_order_61 (fun q3 => ?_) (fun q3 => ?_)
                · exact absurd q3 nI10
                · refine z_aload_0 iX11_order_64 ?_
                  refine m_callVi iX11_order_65 l_11_198 f_X11_against (c_X11_against (bs := btS (sR S) (sH S)) G _ n6 hR3.1 hSb hltb (fun k hk => ⟨hb3 k hk, hbs k hk⟩)) rfl rfl rfl (Nat.le_of_ble_eq_true rfl) hR ft_X11_order_X11_against ⟨rfl, rfl⟩ ?_
                  rintro r8 μ3 ⟨rfl, rfl⟩
                  rcases hoo with rfl | ⟨w9, rfl⟩
                  all_goals {
                  refine z_istore_4 iX11_order_68 rfl ?_
                  refine z_iload_4 iX11_order_70 ?_
                  refine z_iload_2 iX11_order_72 ?_
                  refine z_icmp_geN iX11_order_73 (by omega) (by omega) (fun q4 => ?_) (fun q4 => ?_)
                  · refine z_iload_3 iX11_order_83 ?_
                    refine z_istore_3 iX11_order_84 rfl ?_
                    refine z_iload_4 iX11_order_85 ?_
                    refine z_iload_2 iX11_order_87 ?_
                    refine z_icmp_geN iX11_order_88 (by omega) (by omega) (fun q5 => ?_) (fun q5 => ?_)
                    · refine z_iload_2 iX11_order_96 ?_
                      refine z_istore_2 iX11_order_97 rfl ?_
                      refine z_goto iX11_order_98 ?_
                      have es : stB (fun l => agP (btS (sR S) (sH S)) (gt l) (rFc (sR S))) (fun l => fgA 0 (gt l) (rFc (sR S))) q b = q := if_neg (by show ¬ agP (btS (sR S) (sH S)) (gt b) (rFc (sR S)) < q.1; omega)
                      rw [es] at hf
                      exact ih b q _ μ3 hc2 hok2 (Or.inr ⟨_, rfl⟩) hq hF3 hSb hb3 hf
                    · omega
                  · refine z_aload_0 iX11_order_76 ?_
                    refine m_callVi iX11_order_77 l_11_201 f_X11_figures (c_X11_figures G _ n6 hR3.1 hSb) rfl rfl rfl (Nat.le_of_ble_eq_true rfl) hR ft_X11_order_X11_figures ⟨rfl, rfl⟩ ?_
                    rintro r7 μ4 ⟨rfl, rfl⟩
                    refine z_goto iX11_order_80 ?_
                    refine z_istore_3 iX11_order_84 rfl ?_
                    refine z_iload_4 iX11_order_85 ?_
                    refine z_iload_2 iX11_order_87 ?_
                    refine z_icmp_geN iX11_order_88 (by omega) (by omega) (fun q5 => ?_) (fun q5 => ?_)
                    · omega
                    · refine z_iload_4 iX11_order_91 ?_
                      refine z_goto iX11_order_93 ?_
                      refine z_istore_2 iX11_order_97 rfl ?_
                      refine z_goto iX11_order_98 ?_
                      have es : stB (fun l => agP (btS (sR S) (sH S)) (gt l) (rFc (sR S))) (fun l => fgA 0 (gt l) (rFc (sR S))) q b = (agP (btS (sR S) (sH S)) (gt b) (rFc (sR S)), fgA 0 (gt b) (rFc (sR S))) := if_pos q4
                      rw [es] at hf
                      exact ih b (agP (btS (sR S) (sH S)) (gt b) (rFc (sR S)), fgA 0 (gt b) (rFc (sR S))) _ μ4 hc2 hok2 (Or.inr ⟨_, rfl⟩) hal hF3 hSb hb3 hf }
          have loop1 : ∀ (m j : Nat) (μ' : Mem), m + j = rFc (sR S) → Fm [151, 152] kB μ1 μ' → (∀ i, i < j → μ'.1 151 i = nI i ∧ μ'.1 152 i = nI (btS (sR S) (sH S) i)) → Zm G X cX11_order RX11 μ' 15 [some (.ref (qB G + 140)), some (.int (nI k)), some (.int (nI j)), none, none] [] := by
            intro m
            induction m with
            | zero =>
              intro j μ' hm hF hb
              have hR2 := h1.fm hF (by decide) (by decide)
              have hSt : StAt μ' (rFc (sR S)) (gt a0) := fun i hi => by rw [hid i hi]; exact (hb i (by omega)).1
              refine z_iload_2 iX11_order_15 ?_
              refine z_aload_0 iX11_order_16 ?_
              refine m_getI iX11_order_17 g_11_99 rfl ?_
              refine z_top (hR2.1) ?_
              refine z_icmp_geN iX11_order_20 (by omega) (by omega) (fun q3 => ?_) (fun q3 => ?_)
              · refine z_aload_0 iX11_order_47 ?_
                refine m_callVi iX11_order_48 l_11_198 f_X11_against (c_X11_against (bs := btS (sR S) (sH S)) G _ n6 hR2.1 hSt (okO_cons hok).1 (fun k hk => ⟨(hb k (by omega)).2, hbs k hk⟩)) rfl rfl rfl (Nat.le_of_ble_eq_true rfl) hR ft_X11_order_X11_against ⟨rfl, rfl⟩ ?_
                rintro r8 μ3 ⟨rfl, rfl⟩
                refine z_istore_2 iX11_order_51 rfl ?_
                refine z_aload_0 iX11_order_52 ?_
                refine m_callVi iX11_order_53 l_11_201 f_X11_figures (c_X11_figures G _ n6 hR2.1 hSt) rfl rfl rfl (Nat.le_of_ble_eq_true rfl) hR ft_X11_order_X11_figures ⟨rfl, rfl⟩ ?_
                rintro r7 μ4 ⟨rfl, rfl⟩
                refine z_istore_3 iX11_order_56 rfl ?_
                exact loop r0 a0 (agP (btS (sR S) (sH S)) (gt a0) (rFc (sR S)), fgA 0 (gt a0) (rFc (sR S))) none μ4 hch hok (Or.inl rfl) (agP_lt n6) hF hSt (fun i hi => (hb i (by omega)).2) hfold
              · omega
            | succ m ih =>
              intro j μ' hm hF hb
              have hR2 := h1.fm hF (by decide) (by decide)
              refine z_iload_2 iX11_order_15 ?_
              refine z_aload_0 iX11_order_16 ?_
              refine m_getI iX11_order_17 g_11_99 rfl ?_
              refine z_top (hR2.1) ?_
              refine z_icmp_geN iX11_order_20 (by omega) (by omega) (fun q3 => ?_) (fun q3 => ?_)
              · omega
              · refine z_aload_0 iX11_order_23 ?_
                refine m_getR iX11_order_24 g_11_40 rfl ?_
                refine z_iload_2 iX11_order_27 ?_
                refine z_iload_2 iX11_order_28 ?_
                refine m_iastN iX11_order_29 rfl (by omega) ?_
                refine z_aload_0 iX11_order_30 ?_
                refine m_getR iX11_order_31 g_11_43 rfl ?_
                refine z_iload_2 iX11_order_34 ?_
                refine z_aload_0 iX11_order_35 ?_
                refine z_iload_2 iX11_order_36 ?_
                have hFa : Fm [151, 152] kB μ1 (mw μ' 151 j (nI j)) := hF.mw _ _ (by decide) (by decide)
                refine m_callVi iX11_order_37 l_11_160 f_X11_beatenBy (c_X11_beatenBy G _ hQ hH (h1.fm hFa (by decide) (by decide)) (h2.fm hQ hFa (by decide) (by decide)) (show j < rFc (sR S) by omega)) rfl rfl rfl (Nat.le_of_ble_eq_true rfl) hR ft_X11_order_X11_beatenBy ⟨rfl, rfl⟩ ?_
                rintro r7 μ5 ⟨hF5, rfl⟩
                refine m_iastN iX11_order_40 rfl (by omega) ?_
                refine z_iinc_2N iX11_order_41 rfl ?_
                refine z_goto iX11_order_44 ?_
                refine ih (j + 1) _ (by omega) ((hFa.trans (hF5.mono (by decide) (fun _ z => z))).mw _ _ (by decide) (by decide)) (fun i hi => ?_)
                rw [mw_other (b := 151) _ _ (by decide), hF5.1 151 (by decide) (by decide)]
                by_cases z : i = j
                · rw [z, mw_same, mw_same]; exact ⟨rfl, rfl⟩
                · rw [mw_ne _ _ (Or.inr z), mw_ne _ _ (Or.inr z), hF5.1 152 (by decide) (by decide), mw_other _ _ (by decide)]
                  exact hb i (by omega)
          refine z_iconst iX11_order_13 kI_0 ?_
          refine z_istore_2 iX11_order_14 rfl ?_
          exact loop1 (rFc (sR S)) 0 μ1 (by omega) Fm.rf (fun i hi => absurd hi (Nat.not_lt_zero i))
      · exact absurd q2 nI10
    · omega
  · rcases hr with ⟨rfl, hr⟩ | ⟨rfl, hr⟩
    · omega
    · refine z_if_ne iX11_order_7 (fun q2 => ?_) (fun q2 => ?_)
      · exact absurd nI00 q2
      · refine z_bipush (x := -2) iX11_order_10 (by decide) ?_
        exact m_iret hE iX11_order_12 (QM.rf h (qTwo_no ei).symm)

/-! ORDERS: the first best of all is what the table gives -/
def cmb : Option (Nat × Nat) → Option (Nat × Nat) → Option (Nat × Nat)
  | none, b => b
  | some q, none => some q
  | some q, some r => if r.1 < q.1 then some r else some q
theorem cmb_none (a : Option (Nat × Nat)) : cmb a none = a := by cases a <;> rfl
theorem cmb_assoc (a b c : Option (Nat × Nat)) : cmb (cmb a b) c = cmb a (cmb b c) := by
  cases a with
  | none => rfl
  | some q =>
    cases b with
    | none => rfl
    | some r =>
      cases c with
      | none => rw [cmb_none, cmb_none]
      | some s =>
        simp only [cmb]
        by_cases h1 : r.1 < q.1
        · rw [if_pos h1]
          by_cases h2 : s.1 < r.1
          · simp only [cmb, if_pos h2]; rw [if_pos (by omega)]
          · simp only [cmb, if_neg h2]; rw [if_pos h1]
        · rw [if_neg h1]
          by_cases h2 : s.1 < r.1
          · simp only [cmb, if_pos h2]
          · simp only [cmb, if_neg h2]; rw [if_neg h1, if_neg (by omega)]
def bm (c v : List Nat → Nat) : List (List Nat) → Option (Nat × Nat)
  | [] => none
  | l :: r => cmb (some (c l, v l)) (bm c v r)
theorem bm_append (c v : List Nat → Nat) : ∀ A B, bm c v (A ++ B) = cmb (bm c v A) (bm c v B)
  | [], B => rfl
  | l :: r, B => by
    show cmb _ (bm c v (r ++ B)) = cmb (cmb _ (bm c v r)) (bm c v B)
    rw [bm_append c v r B, cmb_assoc]
def stB (c v : List Nat → Nat) (q : Nat × Nat) (l : List Nat) : Nat × Nat := if c l < q.1 then (c l, v l) else q
theorem bm_fold (c v : List Nat → Nat) : ∀ r q, some (r.foldl (stB c v) q) = cmb (some q) (bm c v r)
  | [], q => rfl
  | l :: r, q => by
    show some (r.foldl (stB c v) (stB c v q l)) = cmb (some q) (cmb (some (c l, v l)) (bm c v r))
    rw [bm_fold c v r, ← cmb_assoc]
    congr 1
    unfold stB
    simp only [cmb]
    split <;> rfl
theorem bm_map {c v c' v' : List Nat → Nat} {k w : Nat} : ∀ L : List (List Nat), (∀ r ∈ L, c (k :: r) = w + c' r ∧ v (k :: r) = v' r) → bm c v (L.map (fun r => k :: r)) = (bm c' v' L).map (fun q => (w + q.1, q.2))
  | [], _ => rfl
  | l :: r, h => by
    show cmb (some (c (k :: l), v (k :: l))) (bm c v (r.map (fun r => k :: r))) = (cmb (some (c' l, v' l)) (bm c' v' r)).map _
    rw [bm_map r (fun x hx => h x (List.mem_cons_of_mem _ hx)), (h l List.mem_cons_self).1, (h l List.mem_cons_self).2]
    cases bm c' v' r with
    | none => rfl
    | some q =>
      simp only [cmb, Option.map]
      by_cases z : q.1 < c' l
      · rw [if_pos z, if_pos (by omega)]
      · rw [if_neg z, if_neg (by omega)]
theorem sumN_sh (g : Nat → Nat) : ∀ n, sumN g (n + 1) = g 0 + sumN (fun i => g (i + 1)) n
  | 0 => by simp [sumN]
  | n + 1 => by
    show sumN g (n + 1) + g (n + 1) = g 0 + (sumN (fun i => g (i + 1)) n + g (n + 1))
    rw [sumN_sh g n]; omega
theorem agP_cons (bs : Nat → Nat) (k : Nat) (r : List Nat) (m : Nat) : agP bs (gt (k :: r)) (m + 1) = sumN (fun j => bitN (bs (gt r j)) k) m + agP bs (gt r) m := by
  unfold agP
  rw [sumN_sh]
  congr 1
  · unfold agR
    rw [sumN_sh, if_neg (Nat.lt_irrefl 0), Nat.zero_add]
    exact sumN_congr m (fun j _ => by rw [if_pos (Nat.succ_pos j)]; rfl)
  · refine sumN_congr m (fun a _ => ?_)
    unfold agR
    rw [sumN_sh, if_neg (Nat.not_lt_zero _), Nat.zero_add]
    refine sumN_congr m (fun j _ => ?_)
    by_cases z : a < j
    · rw [if_pos z, if_pos (by omega)]; rfl
    · rw [if_neg z, if_neg (by omega)]
theorem fgA_cons (acc k : Nat) (r : List Nat) : ∀ m, fgA acc (gt (k :: r)) (m + 1) = fgA (10 * acc + k + 1) (gt r) m
  | 0 => rfl
  | m + 1 => by
    show 10 * fgA acc (gt (k :: r)) (m + 1) + gt (k :: r) (m + 1) + 1 = 10 * fgA (10 * acc + k + 1) (gt r) m + gt r m + 1
    rw [fgA_cons acc k r m]
    rfl
/-! bits of a set less one -/
theorem bit_clr : ∀ s, s < 64 → ∀ k, k < 6 → ∀ j, j < 6 → bitN (clr s k) j = if j = k then 0 else bitN s j := by decide +kernel
theorem cnt_clr : ∀ n, n < 7 → ∀ s, s < 2 ^ n → ∀ k, k < n → bitN s k = 1 → sumN (bitN (clr s k)) n + 1 = sumN (bitN s) n := by decide +kernel
theorem cnt_0 : ∀ n, n < 7 → ∀ s, s < 2 ^ n → sumN (bitN s) n = 0 → s = 0 := by decide +kernel
theorem cnt_all : ∀ n, n < 7 → sumN (bitN (2 ^ n - 1)) n = n := by decide +kernel
theorem bit_any : ∀ n, n < 7 → ∀ s, s < 2 ^ n → 0 < s → (List.range n).any (fun k => bitN s k == 1) = true := by decide +kernel
theorem bit_ex {n s : Nat} (hn : n < 7) (hs : s < 2 ^ n) (h0 : 0 < s) : ∃ k, k < n ∧ bitN s k = 1 := by
  have := bit_any n hn s hs h0
  rw [List.any_eq_true] at this
  obtain ⟨k, h1, h2⟩ := this
  exact ⟨k, List.mem_range.mp h1, by simpa using h2⟩
theorem bit_and {a b o : Nat} : bitN (a &&& b) o = bitN b o * bitN a o := by
  have h : bitN (a &&& b) o = 1 ↔ bitN a o = 1 ∧ bitN b o = 1 := by rw [bit_tb, bit_tb, bit_tb, Nat.testBit_and]; simp
  rcases bit_01 a o with ha | ha <;> rcases bit_01 b o with hb | hb <;> rcases bit_01 (a &&& b) o with hc | hc <;> rw [ha, hb, hc] <;> simp_all
theorem lex_sum {fc : Nat} (hfc : fc ≤ 6) : ∀ m s, s < 2 ^ fc → sumN (bitN s) fc = m → ∀ r ∈ lexP fc m s, ∀ f : Nat → Nat, sumN (fun j => f (gt r j)) m = sumN (fun j => bitN s j * f j) fc
  | 0, s, hs, hc, r, _, f => by
    rw [cnt_0 fc (by omega) s hs hc]
    show 0 = _
    rw [sumN_congr (g := fun _ => 0) fc (fun j _ => by rw [bit_0, Nat.zero_mul]), sumN_0]
  | m + 1, s, hs, hc, r, hr, f => by
    have h2p : (2 : Nat) ^ fc ≤ 64 := Nat.pow_le_pow_right (by decide) hfc
    unfold lexP at hr
    rw [List.mem_flatMap] at hr
    obtain ⟨k, hk, hr⟩ := hr
    have hk := List.mem_range.mp hk
    by_cases z : bitN s k = 1
    · rw [if_pos z, List.mem_map] at hr
      obtain ⟨r', hr', rfl⟩ := hr
      have hcc := cnt_clr fc (by omega) s hs k hk z
      have ih := lex_sum hfc m (clr s k) (Nat.lt_of_le_of_lt (clr_le s k) hs) (by omega) r' hr' f
      rw [sumN_sh]
      show f k + sumN (fun j => f (gt r' j)) m = _
      rw [ih]
      have e : ∀ j, j < fc → bitN s j * f j = bitN (clr s k) j * f j + (if j = k then f k else 0) := by
        intro j hj
        rw [bit_clr s (by omega) k (by omega) j (by omega)]
        by_cases w : j = k
        · rw [if_pos w, if_pos w, w, z]; omega
        · rw [if_neg w, if_neg w]; omega
      rw [sumN_congr fc e, sumN_add]
      have e2 : ∀ n, k < n → sumN (fun j => if j = k then f k else 0) n = f k := by
        intro n
        induction n with
        | zero => intro h; omega
        | succ n ih =>
          intro h
          show sumN (fun j => if j = k then f k else 0) n + (if n = k then f k else 0) = f k
          by_cases w : n = k
          · rw [if_pos w]
            have : sumN (fun j => if j = k then f k else 0) n = 0 := by
              rw [sumN_congr (g := fun _ => 0) n (fun j hj => by rw [if_neg (by omega)]), sumN_0]
            omega
          · rw [if_neg w, ih (by omega)]; rfl
      rw [e2 fc hk]
      omega
    · rw [if_neg z] at hr
      cases hr
/-! the table -/
theorem tbl_stable (B : Nat → Nat) (fc : Nat) {n x : Nat} (hx : x < n) : ∀ N, n ≤ N → tbl B fc N x = tbl B fc n x := by
  intro N
  induction N with
  | zero => intro h; omega
  | succ N ih =>
    intro h
    by_cases e : n = N + 1
    · rw [e]
    · cases N with
      | zero => omega
      | succ M =>
        show updN (tbl B fc (M + 1)) (M + 1) _ x = _
        unfold updN
        rw [if_neg (by omega)]
        exact ih (by omega)
theorem mnF_congr {B t t' : Nat → Nat} {s : Nat} : ∀ K, (∀ k, k < K → bitN s k = 1 → t (clr s k) = t' (clr s k)) → mnF B t s K = mnF B t' s K
  | 0, _ => rfl
  | K + 1, h => by
    unfold mnF
    rw [mnF_congr K (fun k hk => h k (by omega))]
    by_cases z : bitN s K = 1
    · rw [if_pos z, if_pos z]
      unfold ag
      rw [h K (by omega) z]
    · rw [if_neg z, if_neg z]
theorem tbl_fix {B : Nat → Nat} {fc s : Nat} (hfc : fc ≤ 6) (h0 : 0 < s) (hs : s < 2 ^ fc) : tbl B fc (2 ^ fc) s = mnF B (tbl B fc (2 ^ fc)) s fc := by
  have h2p : (2 : Nat) ^ fc ≤ 64 := Nat.pow_le_pow_right (by decide) hfc
  rw [tbl_stable B fc (Nat.lt_succ_self s) (2 ^ fc) hs]
  obtain ⟨M, rfl⟩ : ∃ M, s = M + 1 := ⟨s - 1, by omega⟩
  show updN (tbl B fc (M + 1)) (M + 1) (mnF B (tbl B fc (M + 1)) (M + 1) fc) (M + 1) = _
  unfold updN
  rw [if_pos rfl]
  refine mnF_congr fc (fun k hk z => ?_)
  have := (clr_lt (M + 1) (by omega) k (by omega)).2 z
  exact (tbl_stable B fc this (2 ^ fc) (by omega)).symm
theorem mnF_ag {B t : Nat → Nat} {s k : Nat} : ∀ K, k < K → bitN s k = 1 → mnF B t s K ≤ ag B t s k
  | 0, h, _ => absurd h (Nat.not_lt_zero k)
  | K + 1, h, z => by
    unfold mnF
    by_cases e : k = K
    · rw [← e, if_pos z]; exact Nat.min_le_right _ _
    · have ih := mnF_ag (B := B) (t := t) K (show k < K by omega) z
      split
      · exact Nat.le_trans (Nat.min_le_left _ _) ih
      · exact ih
theorem tbl_0 (B : Nat → Nat) (fc : Nat) : tbl B fc (2 ^ fc) 0 = 0 := tbl_stable B fc (n := 1) (by decide) (2 ^ fc) (Nat.two_pow_pos fc)
theorem tbl_small {B : Nat → Nat} {fc : Nat} (hfc : fc ≤ 6) : ∀ N s, s ≤ N → s < 2 ^ fc → tbl B fc (2 ^ fc) s ≤ 6 * s := by
  have h2p : (2 : Nat) ^ fc ≤ 64 := Nat.pow_le_pow_right (by decide) hfc
  intro N
  induction N with
  | zero =>
    intro s h1 h2
    rw [show s = 0 by omega, tbl_0]
    omega
  | succ N ih =>
    intro s h1 h2
    by_cases h0 : s = 0
    · rw [h0, tbl_0]; omega
    · obtain ⟨k, hk, hb⟩ := bit_ex (n := fc) (by omega) h2 (by omega)
      rw [tbl_fix hfc (by omega) h2]
      have h3 := mnF_ag (B := B) (t := tbl B fc (2 ^ fc)) fc hk hb
      have h4 := (clr_lt s (by omega) k (by omega)).2 hb
      have h5 := ih (clr s k) (by omega) (by omega)
      have h6 := pcN_le (B k &&& clr s k)
      unfold ag at h3
      omega
def am (B t : Nat → Nat) (s : Nat) : Nat → Option Nat
  | 0 => none
  | k + 1 => if bitN s k = 1 then (match am B t s k with
    | none => some k
    | some j => if ag B t s k < ag B t s j then some k else some j) else am B t s k
theorem am_spec {B t : Nat → Nat} {s : Nat} : ∀ K, (∀ k, k < K → bitN s k = 1 → ag B t s k ≤ 1000000) → (am B t s K = none ∧ (∀ j, j < K → bitN s j ≠ 1) ∧ mnF B t s K = 1000000) ∨ ∃ k, am B t s K = some k ∧ k < K ∧ bitN s k = 1 ∧ (∀ j, j < k → bitN s j = 1 → ag B t s k < ag B t s j) ∧ mnF B t s K = ag B t s k
  | 0, _ => Or.inl ⟨rfl, fun j hj => absurd hj (Nat.not_lt_zero j), rfl⟩
  | K + 1, h => by
    have hK := fun z => h K (Nat.lt_succ_self K) z
    by_cases z : bitN s K = 1
    · have hK := hK z
      rcases am_spec K (fun k hk => h k (by omega)) with ⟨e1, e2, e3⟩ | ⟨k, e1, e2, e3, e4, e5⟩
      · refine Or.inr ⟨K, by simp only [am, if_pos z, e1], by omega, z, fun j hj w => absurd w (e2 j hj), ?_⟩
        unfold mnF; rw [if_pos z, e3]; omega
      · by_cases w : ag B t s K < ag B t s k
        · refine Or.inr ⟨K, by simp only [am, if_pos z, e1, if_pos w], by omega, z, fun j hj y => ?_, ?_⟩
          · by_cases v : j < k
            · have := e4 j v y; omega
            · have := mnF_ag (B := B) (t := t) K hj y
              omega
          · unfold mnF; rw [if_pos z, e5]; omega
        · refine Or.inr ⟨k, by simp only [am, if_pos z, e1, if_neg w], by omega, e3, e4, ?_⟩
          unfold mnF; rw [if_pos z, e5]; omega
    · rcases am_spec K (fun k hk => h k (by omega)) with ⟨e1, e2, e3⟩ | ⟨k, e1, e2, e3, e4, e5⟩
      · refine Or.inl ⟨by simp only [am, if_neg z, e1], fun j hj => ?_, by unfold mnF; rw [if_neg z, e3]⟩
        by_cases v : j = K
        · rw [v]; exact z
        · exact e2 j (by omega)
      · exact Or.inr ⟨k, by simp only [am, if_neg z, e1], by omega, e3, e4, by unfold mnF; rw [if_neg z, e5]⟩
theorem firstK_is {q : Nat → Bool} {k : Nat} (h1 : q k = true) : ∀ n i, i ≤ k → k < i + n → (∀ j, i ≤ j → j < k → q j = false) → firstK q n i = k
  | 0, i, h2, h3, _ => by omega
  | n + 1, i, h2, h3, h4 => by
    unfold firstK
    by_cases e : i = k
    · rw [e, h1]; rfl
    · rw [h4 i (Nat.le_refl _) (by omega)]
      exact firstK_is h1 n (i + 1) (by omega) (by omega) (fun j hj => h4 j (by omega))
/-- the greedy figures -/
def gd (B t : Nat → Nat) (fc : Nat) : Nat → Nat → Nat → Nat
  | 0, acc, _ => acc
  | m + 1, acc, s => gd B t fc m (10 * acc + firstK (lsQ B t s) fc 0 + 1) (clr s (firstK (lsQ B t s) fc 0))
theorem bm_lex {B bs : Nat → Nat} {fc : Nat} (hfc : fc ≤ 6) (hB : ∀ j k, j < fc → k < fc → bitN (bs j) k = bitN (B k) j) : ∀ m s acc, s < 2 ^ fc → sumN (bitN s) fc = m → bm (fun l => agP bs (gt l) m) (fun l => fgA acc (gt l) m) (lexP fc m s) = some (tbl B fc (2 ^ fc) s, gd B (tbl B fc (2 ^ fc)) fc m acc s) := by
  have h2p : (2 : Nat) ^ fc ≤ 64 := Nat.pow_le_pow_right (by decide) hfc
  intro m
  induction m with
  | zero =>
    intro s acc hs hc
    rw [cnt_0 fc (by omega) s hs hc, tbl_0]
    rfl
  | succ m ih =>
    intro s acc hs hc
    have h0 : 0 < s := by
      rcases Nat.eq_zero_or_pos s with z | z
      · rw [z] at hc
        rw [sumN_congr (g := fun _ => 0) fc (fun j _ => bit_0 j), sumN_0] at hc
        omega
      · exact z
    have grp : ∀ K, K ≤ fc → bm (fun l => agP bs (gt l) (m + 1)) (fun l => fgA acc (gt l) (m + 1)) ((List.range K).flatMap (fun k => if bitN s k = 1 then (lexP fc m (clr s k)).map (fun r => k :: r) else [])) = (am B (tbl B fc (2 ^ fc)) s K).map (fun k => (ag B (tbl B fc (2 ^ fc)) s k, gd B (tbl B fc (2 ^ fc)) fc m (10 * acc + k + 1) (clr s k))) := by
      intro K
      induction K with
      | zero => intro _; rfl
      | succ K ihK =>
        intro hK
        rw [List.range_succ, List.flatMap_append, bm_append, ihK (by omega)]
        have e1 : ([K].flatMap (fun k => if bitN s k = 1 then (lexP fc m (clr s k)).map (fun r => k :: r) else [])) = if bitN s K = 1 then (lexP fc m (clr s K)).map (fun r => K :: r) else [] := by simp
        rw [e1]
        by_cases z : bitN s K = 1
        · have hcl : clr s K < 2 ^ fc := Nat.lt_of_le_of_lt (clr_le s K) hs
          have hcc := cnt_clr fc (by omega) s hs K (by omega) z
          have hg : bm (fun l => agP bs (gt l) (m + 1)) (fun l => fgA acc (gt l) (m + 1)) ((lexP fc m (clr s K)).map (fun r => K :: r)) = some (ag B (tbl B fc (2 ^ fc)) s K, gd B (tbl B fc (2 ^ fc)) fc m (10 * acc + K + 1) (clr s K)) := by
            rw [bm_map (c' := fun l => agP bs (gt l) m) (v' := fun l => fgA (10 * acc + K + 1) (gt l) m) (w := pcN (B K &&& clr s K)), ih (clr s K) (10 * acc + K + 1) hcl (by omega)]
            · rfl
            · intro r hr
              refine ⟨?_, fgA_cons acc K r m⟩
              show agP bs (gt (K :: r)) (m + 1) = _
              rw [agP_cons, lex_sum hfc m (clr s K) hcl (by omega) r hr (fun x => bitN (bs x) K)]
              congr 1
              rw [pc_sum6 hfc (fun o h1 _ => by rw [bit_and, bit_hi hcl h1, Nat.zero_mul])]
              exact sumN_congr fc (fun j hj => by rw [bit_and, hB j K hj (by omega)])
          rw [if_pos z, hg]
          simp only [am, if_pos z]
          cases am B (tbl B fc (2 ^ fc)) s K with
          | none => rfl
          | some j =>
            simp only [Option.map, cmb]
            by_cases w : ag B (tbl B fc (2 ^ fc)) s K < ag B (tbl B fc (2 ^ fc)) s j
            · rw [if_pos w, if_pos w]
            · rw [if_neg w, if_neg w]
        · rw [if_neg z]
          simp only [am, if_neg z]
          exact cmb_none _
    show bm _ _ ((List.range fc).flatMap _) = _
    rw [grp fc (Nat.le_refl _)]
    have hag : ∀ k, k < fc → bitN s k = 1 → ag B (tbl B fc (2 ^ fc)) s k ≤ 1000000 := by
      intro k hk z
      have h1 := tbl_small (B := B) hfc (clr s k) (clr s k) (Nat.le_refl _) (Nat.lt_of_le_of_lt (clr_le s k) hs)
      have h2 := clr_le s k
      have h3 := pcN_le (B k &&& clr s k)
      unfold ag
      omega
    have hfx := tbl_fix (B := B) hfc h0 hs
    rcases am_spec (B := B) (t := tbl B fc (2 ^ fc)) (s := s) fc hag with ⟨e1, e2, e3⟩ | ⟨k, e1, e2, e3, e4, e5⟩
    · obtain ⟨k, hk, hb⟩ := bit_ex (n := fc) (by omega) hs h0
      exact absurd hb (e2 k hk)
    · have hfirst : firstK (lsQ B (tbl B fc (2 ^ fc)) s) fc 0 = k := by
        refine firstK_is ?_ fc 0 (Nat.zero_le _) (by omega) (fun j _ hj => ?_)
        · unfold lsQ
          rw [hfx, e5]
          simp [e3]
        · unfold lsQ
          rw [hfx, e5]
          by_cases z : bitN s j = 1
          · have := e4 j hj z
            simp [z]; omega
          · simp [z]
      rw [e1]
      show some (ag B _ s k, _) = some (tbl B fc (2 ^ fc) s, _)
      have eg : gd B (tbl B fc (2 ^ fc)) fc (m + 1) acc s = gd B (tbl B fc (2 ^ fc)) fc m (10 * acc + k + 1) (clr s k) := by
        show gd B _ fc m (10 * acc + firstK _ fc 0 + 1) (clr s (firstK _ fc 0)) = _
        rw [hfirst]
      rw [eg]
      have : tbl B fc (2 ^ fc) s = ag B (tbl B fc (2 ^ fc)) s k := by rw [hfx]; exact e5
      rw [this]
theorem gd_bOrd (B t : Nat → Nat) (fc : Nat) : ∀ m n, m + n = fc → gd B t fc m (bOrd B t fc n).2 (bOrd B t fc n).1 = (bOrd B t fc fc).2
  | 0, n, h => by
    rw [show n = fc by omega]
    rfl
  | m + 1, n, h => gd_bOrd B t fc m (n + 1) (by omega)

/-! ===== pure rows: five in one, the calls ===== -/
theorem fv_neg1 {n e : Nat} {w s : Nat → Nat} (hn : n ≤ 4) (h0 : n = 0 → e = 0) : (fv_ch n e w s = -1 ↔ n = 0 ∨ ¬ (3 ≤ w (fv_bs w s n) ∨ 5 ≤ e)) ∧ (fv_ch n e w s ≠ -1 → fv_ch n e w s = nI (fv_bs w s n) ∧ fv_bs w s n < n) := by
  unfold fv_ch
  by_cases c0 : n = 0
  · rw [if_pos c0]
    exact ⟨⟨fun _ => Or.inl c0, fun _ => rfl⟩, fun h => absurd rfl h⟩
  · have hb := fv_bs_lt (w := w) (s := s) (n := n) (by omega)
    rw [if_neg c0]
    by_cases c1 : 3 ≤ w (fv_bs w s n) ∨ 5 ≤ e
    · rw [if_pos c1]
      exact ⟨⟨fun h => absurd h (e_m1 (by omega)), fun h => by omega⟩, fun _ => ⟨rfl, hb⟩⟩
    · rw [if_neg c1]
      exact ⟨⟨fun _ => Or.inr c1, fun _ => rfl⟩, fun h => absurd rfl h⟩
theorem P_won {N : Nat} (hN : 60000 ≤ N) {x0_2 x0_3 x0_4 : Int32} {f0_0 f0_1 : Nat → Int32} {x5_15 x5_16 : Int32} {f5_17 f5_18 : Nat → Int32} (h : i_F x0_2 x0_3 x0_4 f0_0 f0_1 x5_15 x5_16 f5_17 f5_18) : ∃ (o1 : Int32) (o2 : Int32), q_X0_champion N x0_4 = some o1 ∧ q_X5_won N x5_15 x5_16 f5_17 f5_18 = some o2 ∧ o1 = o2 ∧ i_F x0_2 x0_3 x0_4 f0_0 f0_1 x5_15 x5_16 f5_17 f5_18 := by
  have h' := h
  obtain ⟨n, e, w, s, hn, he, h0, rfl, rfl, rfl, rfl, hf, hg, hs, hsw, rfl⟩ := h
  exact ⟨_, _, rfl, fv_won (by omega) hn he h0 hg hs hsw, rfl, h'⟩
theorem fv_five_L {N v : Nat} (hv : v ≤ 4) : ∀ (n i : Nat) (f g : Nat → Int32), i ≤ v → v - i < n → ∃ F G : Nat → Int32, q_X5_five_L23 N (nI v) n (nI i) f g = some (F, G) ∧ (∀ k, i ≤ k → k < v → F k = 0 ∧ G k = 0) ∧ (∀ k, k < i → F k = f k ∧ G k = g k) := by
  intro n
  induction n with
  | zero => intro i f g _ h; omega
  | succ n ih =>
    intro i f g hi hn
    rw [q_X5_five_L23]
    by_cases h : i = v
    · subst h
      exact ⟨f, g, e_p (e_le (Nat.le_refl _) (by omega)) rfl, fun k h1 h2 => by omega, fun k _ => ⟨rfl, rfl⟩⟩
    · obtain ⟨F, G, g1, g2, g3⟩ := ih (i + 1) (upd f i 0) (upd g i 0) (by omega) (by omega)
      refine ⟨F, G, e_n (e_nle (by omega) (by omega)) (e_p (e_in (by omega) (by omega)) ?_), fun k h1 h2 => ?_, fun k h1 => ?_⟩
      · rw [nI_1, e_cl (by omega)]
        exact g1
      · by_cases e : k = i
        · subst e
          rw [(g3 k (by omega)).1, (g3 k (by omega)).2]
          exact ⟨pk_us, pk_us⟩
        · exact g2 k (by omega) h2
      · rw [(g3 k (by omega)).1, (g3 k (by omega)).2]
        exact ⟨pk_un (by omega), pk_un (by omega)⟩
theorem P_five {N : Nat} (hN : 60000 ≤ N) {x0_2 x0_3 x0_4 : Int32} {f0_0 f0_1 : Nat → Int32} {x5_15 x5_16 : Int32} {f5_17 f5_18 : Nat → Int32} (h : i_F x0_2 x0_3 x0_4 f0_0 f0_1 x5_15 x5_16 f5_17 f5_18) (v1 : Int32) : ∃ (o1 : (Int32 × Int32 × Int32 × Int32 × (Nat → Int32) × (Nat → Int32))) (o2 : (Int32 × Int32 × Int32 × (Nat → Int32) × (Nat → Int32))), q_X0_begin N v1 x0_2 x0_3 x0_4 f0_0 f0_1 = some o1 ∧ q_X5_five N v1 x5_15 x5_16 f5_17 f5_18 = some o2 ∧ o1.1 = o2.1 ∧ i_F o1.2.1 o1.2.2.1 o1.2.2.2.1 o1.2.2.2.2.1 o1.2.2.2.2.2 o2.2.1 o2.2.2.1 o2.2.2.2.1 o2.2.2.2.2 := by
  rcases e_or v1 with hv | ⟨v, hv, rfl⟩
  · refine ⟨(0, x0_2, x0_3, x0_4, f0_0, f0_1), (0, x5_15, x5_16, f5_17, f5_18), ?_, ?_, rfl, h⟩
    · unfold q_X0_begin
      exact e_p (e_neg_lt (n := 1) hv (by omega)) rfl
    · unfold q_X5_five
      exact e_b (q_in_n (lo := 1) hv (by omega)) (e_p rfl rfl)
  · by_cases c : 1 ≤ v ∧ v ≤ 4
    · obtain ⟨g0, a1, a2⟩ := q_fill_ok (N := N) (len := 4) (v := 0) f0_0 (by omega) (by omega)
      obtain ⟨g1, b1, b2⟩ := q_fill_ok (N := N) (len := 4) (v := 0) f0_1 (by omega) (by omega)
      obtain ⟨F, G, c1, c2, -⟩ := fv_five_L (N := N) (v := v) (by omega) N 0 f5_17 f5_18 (Nat.zero_le _) (by omega)
      refine ⟨(1, nI v, 0, (-1), g0, g1), (1, nI v, 0, F, G), ?_, ?_, rfl, ?_⟩
      · unfold q_X0_begin
        exact e_n (e_nlt (b := 1) c.1 hv) (e_p (e_le (b := 4) c.2 (by omega)) (e_b a1 (e_b b1 rfl)))
      · unfold q_X5_five
        exact e_b (q_in_1 (lo := 1) (hi := 4) c.1 c.2 hv (by omega)) (e_n e_10 (e_b c1 rfl))
      · refine ⟨v, 0, fun _ => 0, fun _ => 0, c.2, by omega, fun _ => rfl, rfl, rfl, rfl, rfl, fun k hk => ⟨a2 k (by omega), b2 k (by omega)⟩, fun k hk => c2 k (Nat.zero_le _) hk, fun k _ => Nat.le_refl _, fun _ => ?_, ?_⟩
        · have : ∀ q, fv_sw (fun _ => 0) q = 0 := fun q => by
            induction q with
            | zero => rfl
            | succ q ih => unfold fv_sw; rw [ih]
          exact this v
        · exact (fv_ch_0 (by omega) (by omega)).symm
    · refine ⟨(0, x0_2, x0_3, x0_4, f0_0, f0_1), (0, x5_15, x5_16, f5_17, f5_18), ?_, ?_, rfl, h⟩
      · unfold q_X0_begin
        by_cases c1 : v < 1
        · exact e_p (e_lt (b := 1) c1 (by omega)) rfl
        · exact e_n (e_nlt (b := 1) (by omega) hv) (e_n (e_nle (b := 4) (by omega) hv) rfl)
      · unfold q_X5_five
        exact e_b (q_in_0 (lo := 1) (hi := 4) (by omega) hv (by omega)) (e_p rfl rfl)
/-- whether one can win: the two loops step alike -/
theorem fv_can_L {N n a left mine : Nat} {w s : Nat → Nat} {f g f' g' : Nat → Int32} (hn : n ≤ 4) (ha : a < n) (hl : left ≤ 5) (hm : mine ≤ 2) (hf : fv_num n w s f g) (hf' : fv_num n w s f' g') (hw : ∀ k, k < n → w k ≤ 5) (hs : ∀ k, k < n → s k ≤ 80) : ∀ (m i : Nat), i ≤ n → n - i < m → ∃ r : Sum Int32 Unit, q_X0_canWin_L48 N (nI a) (nI left) (nI mine) (nI n) f g m (nI i) = some r ∧ q_X5_can_L49 N (nI a) (nI left) (nI mine) (nI n) f' g' m (nI i) = some r ∧ (r = Sum.inl 0 ∨ r = Sum.inr ()) := by
  have hmul : left * n ≤ 20 := by
    have := Nat.mul_le_mul hl hn
    omega
  intro m
  induction m with
  | zero => intro i _ h; omega
  | succ m ih =>
    intro i hi hm'
    rw [q_X0_canWin_L48, q_X5_can_L49]
    by_cases h : i = n
    · subst h
      exact ⟨Sum.inr (), e_p (e_le (Nat.le_refl _) (by omega)) rfl, e_p (e_le (Nat.le_refl _) (by omega)) rfl, Or.inr rfl⟩
    · obtain ⟨r, r1, r2, r3⟩ := ih (i + 1) (by omega) (by omega)
      have hwi := hw i (by omega)
      have hsi := hs i (by omega)
      have hsa := hs a ha
      rw [← nI_1] at r1 r2
      have e1 : g i + nI left * nI n = nI (s i + left * n) := by rw [(hf i (by omega)).2, pk_mul, nI_add]
      have e2 : g' i + nI left * nI n = nI (s i + left * n) := by rw [(hf' i (by omega)).2, pk_mul, nI_add]
      have e3 : g a + nI left = nI (s a + left) := by rw [(hf a ha).2, nI_add]
      have e4 : g' a + nI left = nI (s a + left) := by rw [(hf' a ha).2, nI_add]
      by_cases c : i = a
      · subst c
        refine ⟨r, ?_, ?_, r3⟩
        · refine e_n (e_nle (by omega) (by omega)) (e_p (e_in (by omega) (by omega)) (e_s (e_p rfl r1)))
        · exact e_n (e_nle (by omega) (by omega)) (e_p rfl r2)
      · have K1 : ∀ (o : Int32) (x : Option (Sum Int32 Unit)), q_X0_isAhead N (nI a) (nI mine) (nI (s a + left)) (nI i) (nI (w i)) (nI (s i + left * n)) = some o → (if o = 0 then some (Sum.inl 0) else q_X0_canWin_L48 N (nI a) (nI left) (nI mine) (nI n) f g m (nI i + 1)) = x → (if nI n ≤ nI i then some (Sum.inr ()) else if z_in (nI i) 4 then Option.bind (some (g (Int32.toNatClampNeg (nI i)) + nI left * nI n)) (fun n3 => if nI i = nI a then q_X0_canWin_L48 N (nI a) (nI left) (nI mine) (nI n) f g m (nI i + 1) else if z_in (nI a) 4 then Option.bind (q_X0_isAhead N (nI a) (nI mine) (g (Int32.toNatClampNeg (nI a)) + nI left) (nI i) (f (Int32.toNatClampNeg (nI i))) n3) (fun o6 => if o6 = 0 then some (Sum.inl 0) else q_X0_canWin_L48 N (nI a) (nI left) (nI mine) (nI n) f g m (nI i + 1)) else none) else none) = x := by
          intro o x ho hx
          refine e_n (e_nle (by omega) (by omega)) (e_p (e_in (by omega) (by omega)) (e_s (e_n (e_ne c (by omega) (by omega)) (e_p (e_in (by omega) (by omega)) ?_))))
          rw [e_cl (n := i) (by omega), e_cl (n := a) (by omega), e1, e3, (hf i (by omega)).1]
          exact e_b ho hx
        have A1 : (w i < mine ∨ (mine = w i ∧ (s a + left < s i + left * n ∨ (s a + left = s i + left * n ∧ a < i)))) → q_X0_isAhead N (nI a) (nI mine) (nI (s a + left)) (nI i) (nI (w i)) (nI (s i + left * n)) = some 1 := fun h => fv_ahead_1 (by omega) (by omega) (by omega) (by omega) (by omega) (by omega) h
        have A0 : ¬ (w i < mine ∨ (mine = w i ∧ (s a + left < s i + left * n ∨ (s a + left = s i + left * n ∧ a < i)))) → q_X0_isAhead N (nI a) (nI mine) (nI (s a + left)) (nI i) (nI (w i)) (nI (s i + left * n)) = some 0 := fun h => fv_ahead_0 (by omega) (by omega) (by omega) (by omega) (by omega) (by omega) h
        have K2 : ∀ x : Option (Sum Int32 Unit), (if nI mine ≤ nI (w i) then (if nI (w i) ≤ nI mine then (if nI (s i + left * n) < nI (s a + left) then some (Sum.inl 0) else if nI (s i + left * n) = nI (s a + left) then (if nI a ≤ nI i then q_X5_can_L49 N (nI a) (nI left) (nI mine) (nI n) f' g' m (nI i + 1) else some (Sum.inl 0)) else q_X5_can_L49 N (nI a) (nI left) (nI mine) (nI n) f' g' m (nI i + 1)) else some (Sum.inl 0)) else q_X5_can_L49 N (nI a) (nI left) (nI mine) (nI n) f' g' m (nI i + 1)) = x → (if nI n ≤ nI i then some (Sum.inr ()) else if nI i = nI a then q_X5_can_L49 N (nI a) (nI left) (nI mine) (nI n) f' g' m (nI i + 1) else if z_in (nI i) 4 then (if nI mine ≤ f' (Int32.toNatClampNeg (nI i)) then (if f' (Int32.toNatClampNeg (nI i)) ≤ nI mine then (if z_in (nI a) 4 then Option.bind (some (g' (Int32.toNatClampNeg (nI i)) + nI left * nI n)) (fun n7 => if n7 < g' (Int32.toNatClampNeg (nI a)) + nI left then some (Sum.inl 0) else if n7 = g' (Int32.toNatClampNeg (nI a)) + nI left then (if nI a ≤ nI i then q_X5_can_L49 N (nI a) (nI left) (nI mine) (nI n) f' g' m (nI i + 1) else some (Sum.inl 0)) else q_X5_can_L49 N (nI a) (nI left) (nI mine) (nI n) f' g' m (nI i + 1)) else none) else some (Sum.inl 0)) else q_X5_can_L49 N (nI a) (nI left) (nI mine) (nI n) f' g' m (nI i + 1)) else none) = x := by
          intro x hx
          refine e_n (e_nle (by omega) (by omega)) (e_n (e_ne c (by omega) (by omega)) (e_p (e_in (by omega) (by omega)) ?_))
          rw [if_pos (e_in (n := a) (k := 4) (by omega) (by omega)), e_cl (n := i) (by omega), e_cl (n := a) (by omega), e2, e4, (hf' i (by omega)).1]
          exact hx
        by_cases d1 : w i < mine
        · exact ⟨r, K1 1 _ (A1 (by omega)) (e_n e_10 r1), K2 _ (e_n (e_nle d1 (by omega)) r2), r3⟩
        · by_cases d2 : mine = w i
          · have p1 : nI mine ≤ nI (w i) := e_le (by omega) (by omega)
            have p2 : nI (w i) ≤ nI mine := e_le (by omega) (by omega)
            by_cases d3 : s i + left * n < s a + left
            · exact ⟨Sum.inl 0, K1 0 _ (A0 (by omega)) (e_p rfl rfl), K2 _ (e_p p1 (e_p p2 (e_p (e_lt d3 (by omega)) rfl))), Or.inl rfl⟩
            · have p3 : ¬ nI (s i + left * n) < nI (s a + left) := e_nlt (by omega) (by omega)
              by_cases d4 : s i + left * n = s a + left
              · by_cases d5 : a < i
                · exact ⟨r, K1 1 _ (A1 (by omega)) (e_n e_10 r1), K2 _ (e_p p1 (e_p p2 (e_n p3 (e_p (by rw [d4]) (e_p (e_le (by omega) (by omega)) r2))))), r3⟩
                · exact ⟨Sum.inl 0, K1 0 _ (A0 (by omega)) (e_p rfl rfl), K2 _ (e_p p1 (e_p p2 (e_n p3 (e_p (by rw [d4]) (e_n (e_nle (by omega) (by omega)) rfl))))), Or.inl rfl⟩
              · exact ⟨r, K1 1 _ (A1 (by omega)) (e_n e_10 r1), K2 _ (e_p p1 (e_p p2 (e_n p3 (e_n (e_ne d4 (by omega) (by omega)) r2)))), r3⟩
          · exact ⟨Sum.inl 0, K1 0 _ (A0 (by omega)) (e_p rfl rfl), K2 _ (e_p (e_le (by omega) (by omega)) (e_n (e_nle (by omega) (by omega)) rfl)), Or.inl rfl⟩
theorem fv_can {N n e a : Nat} {w s : Nat → Nat} {f g f' g' : Nat → Int32} (hN : 60000 ≤ N) (hn : n ≤ 4) (he : e ≤ 5) (h0 : n = 0 → e = 0) (ha : a < n) (hf : fv_num n w s f g) (hf' : fv_num n w s f' g') (hs : ∀ k, k < n → s k ≤ 16 * e) (hsw : n ≠ 0 → fv_sw w n = e) : ∃ r : Int32, q_X0_canWin N (nI a) (nI n) (nI e) (fv_ch n e w s) f g = some r ∧ q_X5_can N (nI a) (nI n) (nI e) f' g' = some r := by
  have hsum := hsw (by omega)
  have hw5 : ∀ k, k < n → w k ≤ 5 := fun k hk => by
    have := fv_sw_ge (w := w) hk
    omega
  have hwa := hw5 a ha
  obtain ⟨n1, n2⟩ := fv_neg1 (w := w) (s := s) hn h0
  have hwon := fv_won (N := N) (by omega) hn he h0 hf' hs hsw
  unfold q_X0_canWin q_X5_can
  by_cases c : fv_ch n e w s = -1
  · have e5 : e < 5 ∧ w (fv_bs w s n) ≤ 2 := by
      have := n1.mp c
      omega
    have e1 : f a + (5 - nI e) = nI (w a + (5 - e)) := by rw [(hf a ha).1, show (5 : Int32) - nI e = nI (5 - e) from pk_sub (a := 5) (by omega), nI_add]
    have e2 : f' a + (5 - nI e) = nI (w a + (5 - e)) := by rw [(hf' a ha).1, show (5 : Int32) - nI e = nI (5 - e) from pk_sub (a := 5) (by omega), nI_add]
    have e3 : (5 : Int32) - nI e = nI (5 - e) := pk_sub (a := 5) (by omega)
    by_cases d : 3 ≤ w a + (5 - e)
    · refine ⟨1, ?_, ?_⟩
      · refine e_p c (e_p (e_in (by omega) (by omega)) ?_)
        rw [e_cl (by omega), e1]
        exact e_s (e_n (e_nlt (b := 3) d (by omega)) rfl)
      · refine e_b hwon (e_p c (e_p (e_in (by omega) (by omega)) ?_))
        rw [e_cl (by omega), e2]
        exact e_s (e_n (e_nle (b := 2) (by omega) (by omega)) rfl)
    · obtain ⟨r, r1, r2, r3⟩ := fv_can_L (N := N) (left := 5 - e) (mine := w a + (5 - e)) hn ha (by omega) (by omega) hf hf' hw5 (fun k hk => by have := hs k hk; omega) N 0 (Nat.zero_le _) (by omega)
      refine ⟨(match r with | Sum.inl q => q | Sum.inr _ => 1), ?_, ?_⟩
      · refine e_p c (e_p (e_in (by omega) (by omega)) ?_)
        rw [e_cl (by omega), e1]
        refine e_s (e_p (e_lt (b := 3) (by omega) (by omega)) ?_)
        rw [e3]
        refine e_b r1 ?_
        rcases r3 with rfl | rfl <;> rfl
      · refine e_b hwon (e_p c (e_p (e_in (by omega) (by omega)) ?_))
        rw [e_cl (by omega), e2]
        refine e_s (e_p (e_le (b := 2) (by omega) (by omega)) ?_)
        rw [e3]
        refine e_b r2 ?_
        rcases r3 with rfl | rfl <;> rfl
  · by_cases d : fv_ch n e w s = nI a
    · exact ⟨1, e_n c (e_p d rfl), e_b hwon (e_n c (e_p d rfl))⟩
    · exact ⟨0, e_n c (e_n d rfl), e_b hwon (e_n c (e_n d rfl))⟩
theorem P_athlete {N : Nat} (hN : 60000 ≤ N) {x0_2 x0_3 x0_4 : Int32} {f0_0 f0_1 : Nat → Int32} {x5_15 x5_16 : Int32} {f5_17 f5_18 : Nat → Int32} (h : i_F x0_2 x0_3 x0_4 f0_0 f0_1 x5_15 x5_16 f5_17 f5_18) (v1 v2 : Int32) : ∃ (o1 : Int32) (o2 : Int32), q_X0_tell N v1 v2 x0_2 x0_3 x0_4 f0_0 f0_1 = some o1 ∧ q_X5_athlete N v1 v2 x5_15 x5_16 f5_17 f5_18 = some o2 ∧ o1 = o2 ∧ i_F x0_2 x0_3 x0_4 f0_0 f0_1 x5_15 x5_16 f5_17 f5_18 := by
  have h' := h
  obtain ⟨n, e, w, s, hn, he, h0, rfl, rfl, rfl, rfl, hf, hg, hs, hsw, rfl⟩ := h
  rcases e_or v1 with hv | ⟨v, hv, rfl⟩
  · refine ⟨-1, -1, ?_, ?_, rfl, h'⟩
    · unfold q_X0_tell
      exact e_p hv rfl
    · unfold q_X5_athlete
      exact e_b (q_in_n (lo := 0) hv (by omega)) (e_p rfl rfl)
  · have hv0 : ¬ nI v < 0 := nI_pos hv
    by_cases c : v < n
    · have K1 : ∀ x : Option Int32, (if v2 = 0 then some (f0_0 v) else if v2 = 1 then some (f0_1 v) else if v2 = 2 then Option.bind (q_X0_canWin N (nI v) (nI n) (nI e) (fv_ch n e w s) f0_0 f0_1) (fun o8 => if o8 = 0 then some 0 else some 1) else some (-1)) = x → q_X0_tell N (nI v) v2 (nI n) (nI e) (fv_ch n e w s) f0_0 f0_1 = x := by
        intro x hx
        unfold q_X0_tell
        refine e_n hv0 (e_p (e_lt c (by omega)) ?_)
        rw [if_pos (e_in (n := v) (k := 4) (by omega) (by omega)), if_pos (e_in (n := v) (k := 4) (by omega) (by omega)), e_cl (n := v) (by omega)]
        exact hx
      have K2 : ∀ x : Option Int32, (if v2 = 0 then some (f5_17 v) else if v2 = 1 then some (f5_18 v) else if v2 = 2 then Option.bind (q_X5_can N (nI v) (nI n) (nI e) f5_17 f5_18) (fun o6 => if o6 = 0 then some 0 else some 1) else some (-1)) = x → q_X5_athlete N (nI v) v2 (nI n) (nI e) f5_17 f5_18 = x := by
        intro x hx
        unfold q_X5_athlete
        have hi : q_X5_in N (nI v) 0 (nI n - 1) = some 1 := by
          rw [show nI n - 1 = nI (n - 1) from pk_sub (b := 1) (by omega)]
          exact q_in_1 (lo := 0) (by omega) (by omega) hv (by omega)
        refine e_b hi (e_n e_10 ?_)
        rw [if_pos (e_in (n := v) (k := 4) (by omega) (by omega)), if_pos (e_in (n := v) (k := 4) (by omega) (by omega)), e_cl (n := v) (by omega)]
        exact hx
      by_cases d0 : v2 = 0
      · exact ⟨_, _, K1 _ (e_p d0 rfl), K2 _ (e_p d0 rfl), by rw [(hf v c).1, (hg v c).1], h'⟩
      · by_cases d1 : v2 = 1
        · exact ⟨_, _, K1 _ (e_n d0 (e_p d1 rfl)), K2 _ (e_n d0 (e_p d1 rfl)), by rw [(hf v c).2, (hg v c).2], h'⟩
        · by_cases d2 : v2 = 2
          · obtain ⟨r, r1, r2⟩ := fv_can (N := N) hN hn he h0 c hf hg hs hsw
            by_cases dr : r = 0
            · exact ⟨0, 0, K1 _ (e_n d0 (e_n d1 (e_p d2 (e_b r1 (e_p dr rfl))))), K2 _ (e_n d0 (e_n d1 (e_p d2 (e_b r2 (e_p dr rfl))))), rfl, h'⟩
            · exact ⟨1, 1, K1 _ (e_n d0 (e_n d1 (e_p d2 (e_b r1 (e_n dr rfl))))), K2 _ (e_n d0 (e_n d1 (e_p d2 (e_b r2 (e_n dr rfl))))), rfl, h'⟩
          · exact ⟨-1, -1, K1 _ (e_n d0 (e_n d1 (e_n d2 rfl))), K2 _ (e_n d0 (e_n d1 (e_n d2 rfl))), rfl, h'⟩
    · refine ⟨-1, -1, ?_, ?_, rfl, h'⟩
      · unfold q_X0_tell
        exact e_n hv0 (e_n (e_nlt (by omega) hv) rfl)
      · unfold q_X5_athlete
        by_cases c0 : n = 0
        · subst c0
          have hi : q_X5_in N (nI v) 0 (nI 0 - 1) = some 0 := by
            unfold q_X5_in
            refine e_n hv0 (e_p ?_ rfl)
            exact e_neg_lt (by decide) hv
          exact e_b hi (e_p rfl rfl)
        · have hi : q_X5_in N (nI v) 0 (nI n - 1) = some 0 := by
            rw [show nI n - 1 = nI (n - 1) from pk_sub (b := 1) (by omega)]
            exact q_in_0 (lo := 0) (by omega) hv (by omega)
          exact e_b hi (e_p rfl rfl)

/-! ===== pure rows: lose ===== -/
def qM (s a b K : Nat) (f g : Nat → Int32) : Prop := (∀ x, x < a → ∀ y, y < K - 1 → f (6 * x + y) = g (6 * q_sh s x + q_sh s y)) ∧ (∀ y, y < b → f (6 * a + y) = g (6 * q_sh s a + q_sh s y)) ∧ (∀ y, b ≤ y → y < K → f (6 * a + y) = g (6 * a + y)) ∧ ∀ x, a < x → x < K → ∀ y, y < K → f (6 * x + y) = g (6 * x + y)
theorem qM_src {s a b K : Nat} {f g : Nat → Int32} (h : qM s a b K f g) (ha : a + 1 < K) (hb : b + 1 < K) : f (6 * q_sh s a + q_sh s b) = g (6 * q_sh s a + q_sh s b) := by
  have hb2 : q_sh s b < K ∧ b ≤ q_sh s b := by
    unfold q_sh
    by_cases c : b < s
    · rw [if_pos c]; omega
    · rw [if_neg c]; omega
  by_cases c : a < s
  · have e : q_sh s a = a := if_pos c
    rw [e]
    exact h.2.2.1 _ hb2.2 hb2.1
  · have e : q_sh s a = a + 1 := if_neg c
    rw [e]
    exact h.2.2.2 (a + 1) (by omega) ha _ hb2.1
theorem qM_up {s a b K : Nat} {f g : Nat → Int32} (h : qM s a b K f g) (hK : K ≤ 6) (ha : a + 1 < K) (hb : b + 1 < K) : qM s a (b + 1) K (upd f (6 * a + b) (g (6 * q_sh s a + q_sh s b))) g := by
  refine ⟨fun x hx y hy => ?_, fun y hy => ?_, fun y h1 h2 => ?_, fun x h1 h2 y hy => ?_⟩
  · rw [pk_un (by omega)]
    exact h.1 x hx y hy
  · by_cases c : y = b
    · subst c; exact pk_us
    · rw [pk_un (by omega)]
      exact h.2.1 y (by omega)
  · rw [pk_un (by omega)]
    exact h.2.2.1 y (by omega) h2
  · rw [pk_un (by omega)]
    exact h.2.2.2 x h1 h2 y hy
theorem q_nb {x : Int32} (h : x = 0 ∨ x = 1) : vp_nar .boolean x = x := by
  rcases h with h | h <;> subst h <;> rfl
theorem q_137 {N K s a : Nat} {g : Nat → Int32} (hK : K ≤ 6) (hs : s < K) (ha : a + 1 < K) (hg : ∀ x y, x < K → y < K → g (6 * x + y) = 0 ∨ g (6 * x + y) = 1) : ∀ (m b : Nat) (f : Nat → Int32), b + 1 ≤ K → K - b < m → qM s a b K f g → ∃ F : Nat → Int32, q_X5_lose_L137 N (nI s) (nI a) (nI K) m (nI b) f = some F ∧ qM s a (K - 1) K F g := by
  intro m
  induction m with
  | zero => intro i _ _ h; omega
  | succ m ih =>
    intro b f hb hm h
    have k1 : nI K - 1 = nI (K - 1) := pk_sub (a := K) (b := 1) (by omega)
    rw [q_X5_lose_L137, nI_1, nI_1, k1, ix6, ix6, ix6, ix6]
    by_cases e : b + 1 = K
    · have e' : b = K - 1 := by omega
      rw [← e']
      exact ⟨f, e_p (e_le (by omega) (by omega)) rfl, h⟩
    · have hl : b + 1 < K := by omega
      have nle : ¬ nI (K - 1) ≤ nI b := e_nle (by omega) (by omega)
      have src := qM_src h ha hl
      obtain ⟨F, p, q⟩ := ih (b + 1) _ (by omega) (by omega) (qM_up h hK ha hl)
      have hsa : q_sh s a < K := by
        unfold q_sh
        by_cases c : a < s
        · rw [if_pos c]; omega
        · rw [if_neg c]; omega
      have hsb : q_sh s b < K := by
        unfold q_sh
        by_cases c : b < s
        · rw [if_pos c]; omega
        · rw [if_neg c]; omega
      have nb := q_nb (hg _ _ hsa hsb)
      refine ⟨F, e_n nle ?_, q⟩
      have i2 : z_in (nI (6 * a + b)) 36 := e_in (by omega) (by omega)
      have c2 : Int32.toNatClampNeg (nI (6 * a + b)) = 6 * a + b := e_cl (by omega)
      by_cases c : a < s
      · have ea : q_sh s a = a := if_pos c
        refine e_n (e_nle c (by omega)) ?_
        by_cases d : b < s
        · have eb : q_sh s b = b := if_pos d
          rw [ea, eb] at p src nb
          refine e_n (e_nle d (by omega)) (e_p i2 (e_s ?_))
          rw [c2, src, nb]
          exact p
        · have eb : q_sh s b = b + 1 := if_neg d
          rw [ea, eb] at p src nb
          refine e_p (e_le (by omega) (by omega)) (e_p (e_in (by omega) (by omega)) (e_s (e_p i2 ?_)))
          rw [c2, e_cl (n := 6 * a + (b + 1)) (by omega), src, nb]
          exact p
      · have ea : q_sh s a = a + 1 := if_neg c
        refine e_p (e_le (by omega) (by omega)) ?_
        by_cases d : b < s
        · have eb : q_sh s b = b := if_pos d
          rw [ea, eb] at p src nb
          refine e_n (e_nle d (by omega)) (e_p (e_in (by omega) (by omega)) (e_s (e_p i2 ?_)))
          rw [c2, e_cl (n := 6 * (a + 1) + b) (by omega), src, nb]
          exact p
        · have eb : q_sh s b = b + 1 := if_neg d
          rw [ea, eb] at p src nb
          refine e_p (e_le (by omega) (by omega)) (e_p (e_in (by omega) (by omega)) (e_s (e_p i2 ?_)))
          rw [c2, e_cl (n := 6 * (a + 1) + (b + 1)) (by omega), src, nb]
          exact p
theorem q_125 {N K s : Nat} {g : Nat → Int32} (hN : 60000 ≤ N) (hK : K ≤ 6) (hs : s < K) (hg : ∀ x y, x < K → y < K → g (6 * x + y) = 0 ∨ g (6 * x + y) = 1) : ∀ (m a : Nat) (f : Nat → Int32), a + 1 ≤ K → K - a < m → qM s a 0 K f g → ∃ F : Nat → Int32, q_X5_lose_L125 N (nI s) (nI K) m (nI a) f = some F ∧ qM s (K - 1) 0 K F g := by
  intro m
  induction m with
  | zero => intro i _ _ h; omega
  | succ m ih =>
    intro a f ha hm h
    have k1 : nI K - 1 = nI (K - 1) := pk_sub (a := K) (b := 1) (by omega)
    rw [q_X5_lose_L125, nI_1, k1]
    by_cases e : a + 1 = K
    · have e' : a = K - 1 := by omega
      rw [← e']
      exact ⟨f, e_p (e_le (Nat.le_refl _) (by omega)) rfl, h⟩
    · obtain ⟨G, p, q⟩ := q_137 (N := N) hK hs (show a + 1 < K by omega) hg N 0 f (by omega) (by omega) h
      obtain ⟨F, p', q'⟩ := ih (a + 1) G (by omega) (by omega) ⟨fun x hx y hy => by
        by_cases c : x = a
        · subst c; exact q.2.1 y hy
        · exact q.1 x (by omega) y hy, fun y hy => by omega, fun y h1 h2 => q.2.2.2 (a + 1) (by omega) (by omega) y h2, fun x h1 h2 y hy => q.2.2.2 x (by omega) h2 y hy⟩
      exact ⟨F, e_n (e_nle (by omega) (by omega)) (e_b p p'), q'⟩
theorem P_lose {N : Nat} (hN : 60000 ≤ N) {x3_7 : Int32} {x3_8 : Int32} {x3_12 : Int32} {x3_13 : Int32} {f3_0 : (Nat → Int32)} {f3_1 : (Nat → Int32)} {f3_2 : (Nat → Int32)} {f3_3 : (Nat → Int32)} {f3_4 : (Nat → Int32)} {f3_5 : (Nat → Int32)} {f3_6 : (Nat → Int32)} {f3_9 : (Nat → Int32)} {f3_10 : (Nat → Int32)} {f3_11 : (Nat → Int64)} {x5_41 : Int32} {x5_42 : Int32} {f5_35 : (Nat → Int32)} {f5_36 : (Nat → Int32)} {f5_37 : (Nat → Int32)} {f5_38 : (Nat → Int32)} {f5_39 : (Nat → Int32)} {f5_40 : (Nat → Int32)} (h : i_Q x3_7 x3_8 x3_12 x3_13 f3_0 f3_1 f3_2 f3_3 f3_4 f3_5 f3_6 f3_9 f3_10 f3_11 x5_41 x5_42 f5_35 f5_36 f5_37 f5_38 f5_39 f5_40) (v1 : Int32) : ∃ (o1 : (Int32 × Int32 × Int32 × Int32 × (Nat → Int32) × (Nat → Int32) × (Nat → Int32) × (Nat → Int32) × (Nat → Int32) × (Nat → Int32) × (Nat → Int32))) (o2 : (Int32 × Int32 × (Nat → Int32) × (Nat → Int32) × (Nat → Int32) × (Nat → Int32) × (Nat → Int32) × (Nat → Int32))), q_X3_breakUp N v1 x3_7 x3_12 x3_13 f3_0 f3_1 f3_2 f3_3 f3_4 f3_5 f3_6 = some o1 ∧ q_X5_lose N v1 x5_41 f5_35 f5_36 f5_37 f5_38 f5_39 f5_40 = some o2 ∧ o1.1 = o2.1 ∧ i_Q o1.2.1 x3_8 o1.2.2.1 o1.2.2.2.1 o1.2.2.2.2.1 o1.2.2.2.2.2.1 o1.2.2.2.2.2.2.1 o1.2.2.2.2.2.2.2.1 o1.2.2.2.2.2.2.2.2.1 o1.2.2.2.2.2.2.2.2.2.1 o1.2.2.2.2.2.2.2.2.2.2 f3_9 f3_10 f3_11 o2.2.1 x5_42 o2.2.2.1 o2.2.2.2.1 o2.2.2.2.2.1 o2.2.2.2.2.2.1 o2.2.2.2.2.2.2.1 o2.2.2.2.2.2.2.2 := by
  have hh := h
  obtain ⟨K, sp, a, d, Bj, hK, hsp, e1, e2, e3, e4, hS, hL, hJ, hC⟩ := h
  subst e1 e2 e3 e4
  unfold q_X3_breakUp q_X5_lose
  rcases q_isS (N := N) (v := v1) hK with ⟨s, s1, s2, s3, s4⟩ | ⟨s3, s4⟩
  · subst s2
    have k1 : nI K - 1 = nI (K - 1) := pk_sub (a := K) (b := 1) (by omega)
    obtain ⟨F0, F1, F2, F3, F4, F5, F6, p, h0, h1, h2, h3, h4, h5, h6⟩ := q_bu12 (N := N) (K := K) (s := s) hK N s f3_0 f3_1 f3_2 f3_3 f3_4 f3_5 f3_6 (Nat.le_refl _) (by omega) (by omega) qH_0 qH_0 qH_0 qH_0 qH_0 qH_0 qH_0
    obtain ⟨G0, G1, G2, G3, G4, q, g0, g1, g2, g3, g4⟩ := q_lo12 (N := N) (K := K) (s := s) hN hK N s f5_35 f5_36 f5_37 f5_38 f5_39 (Nat.le_refl _) (by omega) (by omega) qH_0 qH_0 qH_0 ⟨fun k hk q hq => by
      unfold q_sh
      rw [if_pos hk], fun _ _ _ _ _ => rfl⟩ qH_0
    have sh : ∀ k, k < K - 1 → q_sh s k < K := fun k hk => by
      unfold q_sh
      by_cases c : k < s
      · rw [if_pos c]; omega
      · rw [if_neg c]; omega
    obtain ⟨F6', p6, r6⟩ := q_138 (N := N) (L := K - 1) (s := s) (B := fun k => Bj (q_sh s k)) (by omega) (by omega) (fun k hk => q_64 hK (hJ _ (sh k hk)).2.1) N 0 F6 (Nat.zero_le _) (by omega) (fun k hk => by omega) (fun k _ hk => by
      rw [h6.1 k hk, (hJ _ (sh k hk)).1])
    have hg : ∀ x y, x < K → y < K → f5_40 (6 * x + y) = 0 ∨ f5_40 (6 * x + y) = 1 := fun x y hx hy => by
      rw [(hJ x hx).2.2.1 y hy]
      by_cases c : (Bj x).testBit y = true
      · rw [if_pos c]; exact Or.inr rfl
      · rw [if_neg c]; exact Or.inl rfl
    obtain ⟨G40, q4, m4⟩ := q_125 (N := N) hN hK s1 hg N 0 f5_40 (by omega) (by omega) ⟨fun x hx => by omega, fun y hy => by omega, fun _ _ _ => rfl, fun _ _ _ _ _ => rfl⟩
    refine ⟨(nI K - 1, nI K - 1, -1, -1, F0, F1, F2, F3, F4, F5, F6'), (nI K - 1, nI K - 1, G0, G1, G2, G3, G4, G40), e_b s3 (e_n e_10 (e_b p (e_b (by rw [k1]; exact p6) (e_b rfl rfl)))), e_b s4 (e_n e_10 (e_b q (e_b q4 rfl))), rfl, K - 1, sp, (fun k => a (q_sh s k)), (fun k => d (q_sh s k)), (fun k => qwb (Bj (q_sh s k)) s), by omega, hsp, k1, k1, rfl, rfl, ?_, ?_, ?_, Or.inl rfl, Or.inl rfl⟩
    · intro k hk
      show F0 k = G0 k ∧ F1 k = nI (a (q_sh s k)) ∧ G1 k = nI (a (q_sh s k)) ∧ F2 k = nI (a (q_sh s k) + d (q_sh s k)) ∧ G2 k = nI (a (q_sh s k) + d (q_sh s k)) ∧ F5 k = G4 k ∧ d (q_sh s k) ≤ 5 ∧ a (q_sh s k) + d (q_sh s k) ≤ 40
      rw [h0.1 k hk, g0.1 k hk, h1.1 k hk, g1.1 k hk, h2.1 k hk, g2.1 k hk, h5.1 k hk, g4.1 k hk]
      exact hS _ (sh k hk)
    · intro k hk i hi
      show G3 (8 * k + i) = qL (F3 k) (F4 k) i
      rw [g3.1 k hk i hi, h3.1 k hk, h4.1 k hk]
      exact hL _ (sh k hk) i hi
    · intro k hk
      have tb : ∀ x y, x < K - 1 → y < K - 1 → (qwb (Bj (q_sh s x)) s).testBit y = (Bj (q_sh s x)).testBit (q_sh s y) := fun x y hx hy => qwb_t ⟨Bj (q_sh s x), q_64 hK (hJ _ (sh x hx)).2.1⟩ ⟨s, by omega⟩ ⟨y, by omega⟩
      refine ⟨r6 k hk, ?_, fun j hj => ?_, fun j hj => ?_⟩
      · have hb := (hJ _ (sh k hk)).2.1
        have := qwb_b ⟨K - 1, by omega⟩ ⟨Bj (q_sh s k), q_64 hK hb⟩ ⟨s, by omega⟩ (by
          show Bj (q_sh s k) < 2 ^ (K - 1 + 1)
          rw [show K - 1 + 1 = K by omega]
          exact hb) (show s < K - 1 + 1 by omega)
        exact this
      · show G40 (6 * k + j) = if (qwb (Bj (q_sh s k)) s).testBit j then 1 else 0
        rw [m4.1 k hk j hj, tb k j hk hj]
        exact (hJ _ (sh k hk)).2.2.1 _ (sh j hj)
      · show (qwb (Bj (q_sh s k)) s).testBit j = (qwb (Bj (q_sh s j)) s).testBit k
        rw [tb k j hk hj, tb j k hj hk]
        exact (hJ _ (sh k hk)).2.2.2 _ (sh j hj)
  · exact ⟨(-1, nI K, x3_12, x3_13, f3_0, f3_1, f3_2, f3_3, f3_4, f3_5, f3_6), (-1, nI K, f5_35, f5_36, f5_37, f5_38, f5_39, f5_40), e_b s3 (e_p rfl rfl), e_b s4 (e_p rfl rfl), rfl, hh⟩

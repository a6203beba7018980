/-! ===== pure rows: heats, the mixing ===== -/
theorem ht_ush (x : Int32) : ∃ u : Nat, u < 65536 ∧ z_ushr x 16 = nI u := by
  have h := pk_ushr x 16 16 (by decide +kernel)
  have hx := x.toBitVec.isLt
  refine ⟨x.toBitVec.toNat / 2 ^ 16, by omega, ?_⟩
  apply Int32.toBitVec_inj.mp
  apply BitVec.eq_of_toNat_eq
  rw [pk_tn (by omega)]
  exact h
def ht_sw (E : Nat → Nat) (i j : Nat) : Nat → Nat := fun k => if k = j then E i else if k = i then E j else E k
def ht_r (M : Nat) (E : Nat → Nat) (f : Nat → Int32) : Prop := ∀ k, k < M → f k = nI (E k)
def ht_b (R M : Nat) (E : Nat → Nat) : Prop := ∀ k, k < M → E k < R
def ht_inj (M : Nat) (E : Nat → Nat) : Prop := ∀ k l, k < M → l < M → E k = E l → k = l
theorem ht_r_sw {M i j : Nat} {E : Nat → Nat} {f : Nat → Int32} (h : ht_r M E f) (hi : i < M) (hj : j < M) : ht_r M (ht_sw E i j) (upd (upd f i (f j)) j (f i)) := by
  intro k hk
  unfold upd ht_sw
  by_cases a : k = j
  · rw [if_pos a, if_pos a, h i hi]
  · rw [if_neg a, if_neg a]
    by_cases b : k = i
    · rw [if_pos b, if_pos b, h j hj]
    · rw [if_neg b, if_neg b, h k hk]
theorem ht_sw_c {E : Nat → Nat} {i j : Nat} : ht_sw E i j = ht_sw E j i := by
  funext k
  unfold ht_sw
  by_cases a : k = j
  · rw [if_pos a]
    by_cases b : k = i
    · rw [if_pos b, ← a, ← b]
    · rw [if_neg b, if_pos a]
  · rw [if_neg a]
    by_cases b : k = i
    · rw [if_pos b, if_pos b]
    · rw [if_neg b, if_neg b, if_neg a]
theorem ht_b_sw {R M i j : Nat} {E : Nat → Nat} (h : ht_b R M E) (hi : i < M) (hj : j < M) : ht_b R M (ht_sw E i j) := by
  intro k hk
  unfold ht_sw
  by_cases a : k = j
  · rw [if_pos a]; exact h i hi
  · rw [if_neg a]
    by_cases b : k = i
    · rw [if_pos b]; exact h j hj
    · rw [if_neg b]; exact h k hk
theorem ht_inj_sw {M i j : Nat} {E : Nat → Nat} (h : ht_inj M E) (hi : i < M) (hj : j < M) : ht_inj M (ht_sw E i j) := by
  intro k l hk hl e
  unfold ht_sw at e
  by_cases a : k = j
  · rw [if_pos a] at e
    by_cases b : l = j
    · omega
    · rw [if_neg b] at e
      by_cases c : l = i
      · rw [if_pos c] at e
        have := h i j hi hj e
        omega
      · rw [if_neg c] at e
        have := h i l hi hl e
        omega
  · rw [if_neg a] at e
    by_cases d : k = i
    · rw [if_pos d] at e
      by_cases b : l = j
      · rw [if_pos b] at e
        have := h j i hj hi e
        omega
      · rw [if_neg b] at e
        by_cases c : l = i
        · omega
        · rw [if_neg c] at e
          have := h j l hj hl e
          omega
    · rw [if_neg d] at e
      by_cases b : l = j
      · rw [if_pos b] at e
        have := h k i hk hi e
        omega
      · rw [if_neg b] at e
        by_cases c : l = i
        · rw [if_pos c] at e
          have := h k j hk hj e
          omega
        · rw [if_neg c] at e
          exact h k l hk hl e
theorem ht_exch {N i j : Nat} {f : Nat → Int32} (hi : i < 24) (hj : j < 24) : q_X1_exchange N (nI i) (nI j) f = some (upd (upd f i (f j)) j (f i)) := by
  unfold q_X1_exchange
  refine e_p (e_in hi (by omega)) (e_p (e_in hj (by omega)) ?_)
  rw [e_cl (n := i) (by omega), e_cl (n := j) (by omega)]
theorem ht_mix {N R M : Nat} (hM : M ≤ 24) : ∀ (m i : Nat) (lot : Int32) (f2 f8 : Nat → Int32) (E : Nat → Nat), i < M → i < m → ht_r M E f2 → ht_r M E f8 → ht_b R M E → ht_inj M E → ∃ (lot' : Int32) (F2 F8 : Nat → Int32) (E' : Nat → Nat), q_X1_mixRow_L7 N m (nI i) lot f2 = some (lot', F2) ∧ q_X5_mix_L7 N m (nI i) lot f8 = some (lot', F8) ∧ ht_r M E' F2 ∧ ht_r M E' F8 ∧ ht_b R M E' ∧ ht_inj M E' := by
  intro m
  induction m with
  | zero => intro i _ _ _ _ _ h; omega
  | succ m ih =>
    intro i lot f2 f8 E hi hm h2 h8 hb hj
    rw [q_X1_mixRow_L7, q_X5_mix_L7]
    cases i with
    | zero => exact ⟨lot, f2, f8, E, e_p (e_lt (b := 1) (by omega) (by omega)) rfl, e_p (e_le (b := 0) (by omega) (by omega)) rfl, h2, h8, hb, hj⟩
    | succ i =>
      obtain ⟨u, hu, eu⟩ := ht_ush (lot * 1103515245 + 12345)
      have n0 : ¬ nI (i + 1 + 1) = 0 := nI_ne0 (by omega) (by omega)
      have hr : z_rem (nI u) (nI (i + 1 + 1)) = nI (u % (i + 1 + 1)) := e_rem (by omega) (by omega) (by omega)
      have hlt : u % (i + 1 + 1) < i + 1 + 1 := Nat.mod_lt _ (by omega)
      rw [eu, nI_1 (i + 1), hr, pk_m1]
      obtain ⟨lot', F2, F8, E', r1, r2, r3⟩ := ih i (lot * 1103515245 + 12345) _ _ _ (by omega) (by omega) (ht_r_sw h2 hi (show u % (i + 1 + 1) < M by omega)) (ht_r_sw h8 hi (show u % (i + 1 + 1) < M by omega)) (ht_b_sw hb hi (show u % (i + 1 + 1) < M by omega)) (ht_inj_sw hj hi (show u % (i + 1 + 1) < M by omega))
      refine ⟨lot', F2, F8, E', e_n (e_nlt (b := 1) (by omega) (by omega)) (e_n n0 (e_b (ht_exch (by omega) (by omega)) r1)), e_n (e_nle (b := 0) (by omega) (by omega)) (e_n n0 (e_s (e_p (e_in (by omega) (by omega)) (e_p (e_in (by omega) (by omega)) ?_)))), r3⟩
      rw [e_cl (n := i + 1) (by omega), e_cl (n := u % (i + 1 + 1)) (by omega)]
      exact r2
/-! the bye -/
def ht_v : Nat → Int32
  | 0 => -1
  | k + 1 => nI k
theorem ht_v_s {i : Nat} : nI i - 1 = ht_v i := by
  cases i with
  | zero => decide
  | succ i => exact nI_pred i
theorem ht_v_m {i : Nat} : nI i + (-1) = ht_v i := by
  cases i with
  | zero => decide
  | succ i => exact pk_m1 i
def ht_hb (Bt : Nat) (f : Nat → Int32) : Prop := ∀ k, k < 24 → f k = if Bt.testBit k then 1 else 0
theorem ht_lw1 {N m M R Bt i : Nat} {f2 : Nat → Int32} {E : Nat → Nat} (hM : M ≤ 24) (hR : R ≤ 24) (hB : Bt < 2 ^ 24) (h2 : ht_r M E f2) (hb : ht_b R M E) (hi : i < M) : q_X1_lastWithoutBye_L4 N (nI Bt) f2 (m + 1) (nI i) = if Bt.testBit (E i) then q_X1_lastWithoutBye_L4 N (nI Bt) f2 m (ht_v i) else some (Sum.inl (nI i)) := by
  have hE := hb i hi
  have bb := bt_hasBit (N := N) (B := Bt) (k := E i) (by omega) (by omega)
  rw [q_X1_lastWithoutBye_L4]
  refine e_n (nI_pos (by omega)) (e_p (e_in (by omega) (by omega)) ?_)
  rw [e_cl (n := i) (by omega), h2 i hi, ht_v_m]
  by_cases c : Bt.testBit (E i) = true
  · rw [if_pos c] at bb ⊢
    exact e_b bb (e_n e_10 rfl)
  · rw [if_neg c] at bb ⊢
    exact e_b bb (e_p rfl rfl)
theorem ht_lw5 {N m M R Bt i : Nat} {f8 f11 : Nat → Int32} {E : Nat → Nat} (hM : M ≤ 24) (hR : R ≤ 24) (h8 : ht_r M E f8) (hb : ht_b R M E) (h11 : ht_hb Bt f11) (hi : i < M) : q_X5_mix_L113 N f8 f11 (m + 1) (nI i) = if Bt.testBit (E i) then q_X5_mix_L113 N f8 f11 m (ht_v i) else some (nI i) := by
  have hE := hb i hi
  rw [q_X5_mix_L113]
  refine e_n (nI_pos (by omega)) (e_p (e_in (by omega) (by omega)) ?_)
  rw [e_cl (n := i) (by omega), h8 i hi, ht_v_m]
  refine e_p (e_in (by omega) (by omega)) ?_
  rw [e_cl (n := E i) (by omega), h11 (E i) (by omega)]
  by_cases c : Bt.testBit (E i) = true
  · rw [if_pos c, if_pos c]
    exact e_n e_10 rfl
  · rw [if_neg c, if_neg c]
    exact e_p rfl rfl
theorem ht_lw {N M R Bt : Nat} {f2 f8 f11 : Nat → Int32} {E : Nat → Nat} (hM : M ≤ 24) (hR : R ≤ 24) (hB : Bt < 2 ^ 24) (h2 : ht_r M E f2) (h8 : ht_r M E f8) (hb : ht_b R M E) (h11 : ht_hb Bt f11) : ∀ (m i : Nat), i ≤ M → i < m → (∃ k, k < i ∧ q_X1_lastWithoutBye_L4 N (nI Bt) f2 m (ht_v i) = some (Sum.inl (nI k)) ∧ q_X5_mix_L113 N f8 f11 m (ht_v i) = some (nI k)) ∨ (q_X1_lastWithoutBye_L4 N (nI Bt) f2 m (ht_v i) = some (Sum.inr ()) ∧ q_X5_mix_L113 N f8 f11 m (ht_v i) = some (-1)) := by
  intro m
  induction m with
  | zero => intro i _ h; omega
  | succ m ih =>
    intro i hi hm
    cases i with
    | zero =>
      rw [q_X1_lastWithoutBye_L4, q_X5_mix_L113]
      exact Or.inr ⟨e_p (show (-1 : Int32) < 0 by decide) rfl, e_p (show (-1 : Int32) < 0 by decide) rfl⟩
    | succ i =>
      rw [show ht_v (i + 1) = nI i from rfl, ht_lw1 hM hR hB h2 hb (by omega), ht_lw5 hM hR h8 hb h11 (by omega)]
      by_cases c : Bt.testBit (E i) = true
      · simp only [if_pos c]
        rcases ih i (by omega) (by omega) with ⟨k, k1, k2, k3⟩ | ⟨k2, k3⟩
        · exact Or.inl ⟨k, by omega, k2, k3⟩
        · exact Or.inr ⟨k2, k3⟩
      · simp only [if_neg c]
        exact Or.inl ⟨i, by omega, rfl, rfl⟩
/-! arrays made anew -/
theorem ht_189_L {N : Nat} : ∀ (n i : Nat) (f : Nat → Int32), i ≤ 24 → 24 - i < n → ∃ g : Nat → Int32, q_X5_mix_L189 N n (nI i) f = some g ∧ (∀ k, i ≤ k → k < 24 → g k = -1) ∧ (∀ k, k < i → g k = f k) := by
  intro n
  induction n with
  | zero => intro i f _ h; omega
  | succ n ih =>
    intro i f hi hn
    rw [q_X5_mix_L189]
    by_cases h : i = 24
    · subst h
      exact ⟨f, e_p (e_le (a := 24) (Nat.le_refl _) (by omega)) rfl, fun k h1 h2 => by omega, fun k _ => rfl⟩
    · obtain ⟨g, g1, g2, g3⟩ := ih (i + 1) (upd f i (-1)) (by omega) (by omega)
      refine ⟨g, e_n (e_nle (a := 24) (by omega) (by omega)) (e_p (e_in (by omega) (by omega)) ?_), fun k h1 h2 => ?_, fun k h1 => ?_⟩
      · rw [nI_1, e_cl (by omega)]
        exact g1
      · by_cases e : k = i
        · subst e
          rw [g3 k (by omega)]
          exact pk_us
        · exact g2 k (by omega) h2
      · rw [g3 k (by omega)]
        exact pk_un (by omega)
theorem ht_189 {N : Nat} (hN : 60000 ≤ N) (f : Nat → Int32) : ∃ g : Nat → Int32, q_X5_mix_L189 N N 0 f = some g ∧ ∀ k, k < 24 → g k = -1 := by
  obtain ⟨g, g1, g2, -⟩ := ht_189_L (N := N) N 0 f (Nat.zero_le _) (by omega)
  exact ⟨g, g1, fun k hk => g2 k (Nat.zero_le _) hk⟩
theorem ht_210_L {N : Nat} : ∀ (n i : Nat) (f : Nat → Int32), i ≤ 216 → 216 - i < n → ∃ g : Nat → Int32, q_X5_mix_L210 N n (nI i) f = some g ∧ (∀ k, i ≤ k → k < 216 → g k = -1) ∧ (∀ k, k < i → g k = f k) := by
  intro n
  induction n with
  | zero => intro i f _ h; omega
  | succ n ih =>
    intro i f hi hn
    rw [q_X5_mix_L210]
    by_cases h : i = 216
    · subst h
      exact ⟨f, e_p (e_le (a := 216) (Nat.le_refl _) (by omega)) rfl, fun k h1 h2 => by omega, fun k _ => rfl⟩
    · obtain ⟨g, g1, g2, g3⟩ := ih (i + 1) (upd f i (-1)) (by omega) (by omega)
      refine ⟨g, e_n (e_nle (a := 216) (by omega) (by omega)) (e_p (e_in (by omega) (by omega)) ?_), fun k h1 h2 => ?_, fun k h1 => ?_⟩
      · rw [nI_1, e_cl (by omega)]
        exact g1
      · by_cases e : k = i
        · subst e
          rw [g3 k (by omega)]
          exact pk_us
        · exact g2 k (by omega) h2
      · rw [g3 k (by omega)]
        exact pk_un (by omega)
theorem ht_210 {N : Nat} (hN : 60000 ≤ N) (f : Nat → Int32) : ∃ g : Nat → Int32, q_X5_mix_L210 N N 0 f = some g ∧ ∀ k, k < 216 → g k = -1 := by
  obtain ⟨g, g1, g2, -⟩ := ht_210_L (N := N) N 0 f (Nat.zero_le _) (by omega)
  exact ⟨g, g1, fun k hk => g2 k (Nat.zero_le _) hk⟩
theorem ht_101_L {N : Nat} (hN : 60000 ≤ N) : ∀ (n i : Nat) (V : Nat → Nat → Int32), i ≤ 9 → 9 - i < n → ∃ G : Nat → Nat → Int32, q_X1_beginRound_L101 N n (nI i) V = some G ∧ (∀ k, i ≤ k → k < 9 → ∀ j, j < 12 → G k j = -1) ∧ (∀ k, k < i → G k = V k) := by
  intro n
  induction n with
  | zero => intro i f _ h; omega
  | succ n ih =>
    intro i V hi hn
    rw [q_X1_beginRound_L101]
    by_cases h : i = 9
    · subst h
      exact ⟨V, e_p (e_le (a := 9) (Nat.le_refl _) (by omega)) rfl, fun k h1 h2 => by omega, fun k _ => rfl⟩
    · obtain ⟨r, r1, r2⟩ := q_fill_ok (N := N) (len := 12) (v := -1) (V i) (by omega) (by omega)
      obtain ⟨g, g1, g2, g3⟩ := ih (i + 1) (z_upR V i r) (by omega) (by omega)
      refine ⟨g, e_n (e_nle (a := 9) (by omega) (by omega)) (e_p (e_in (by omega) (by omega)) ?_), fun k h1 h2 => ?_, fun k h1 => ?_⟩
      · rw [nI_1, e_cl (by omega)]
        exact e_b r1 g1
      · by_cases e : k = i
        · subst e
          intro j hj
          rw [g3 k (by omega)]
          show (if k = k then r else V k) j = -1
          rw [if_pos rfl]
          exact r2 j hj
        · exact g2 k (by omega) h2
      · rw [g3 k (by omega)]
        show (if k = i then r else V k) = V k
        rw [if_neg (by omega)]
theorem ht_101 {N : Nat} (hN : 60000 ≤ N) (V : Nat → Nat → Int32) : ∃ G : Nat → Nat → Int32, q_X1_beginRound_L101 N N 0 V = some G ∧ ∀ k, k < 9 → ∀ j, j < 12 → G k j = -1 := by
  obtain ⟨g, g1, g2, -⟩ := ht_101_L hN N 0 V (Nat.zero_le _) (by omega)
  exact ⟨g, g1, fun k hk => g2 k (Nat.zero_le _) hk⟩

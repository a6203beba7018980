/-! ===== pure rows: base ===== -/
theorem e_p {α : Type} {c : Prop} [Decidable c] {a b x : α} (k : c) (h : a = x) : (if c then a else b) = x := by rw [if_pos k]; exact h
theorem e_n {α : Type} {c : Prop} [Decidable c] {a b x : α} (k : ¬ c) (h : b = x) : (if c then a else b) = x := by rw [if_neg k]; exact h
theorem e_b {α β : Type} {x : Option α} {v : α} {k : α → Option β} {y : Option β} (h1 : x = some v) (h2 : k v = y) : Option.bind x k = y := by rw [h1]; exact h2
theorem e_s {α β : Type} {v : α} {k : α → Option β} {y : Option β} (h2 : k v = y) : Option.bind (some v) k = y := h2
theorem e_in {n k : Nat} (h : n < k) (hk : k < 2 ^ 31) : z_in (nI n) k := nI_in h hk
theorem e_cl {n : Nat} (h : n < 2 ^ 31) : Int32.toNatClampNeg (nI n) = n := nI_clamp h
theorem e_le {a b : Nat} (h : a ≤ b) (hb : b < 2 ^ 31) : nI a ≤ nI b := nI_le h hb
theorem e_nle {a b : Nat} (h : b < a) (ha : a < 2 ^ 31) : ¬ nI a ≤ nI b := nI_ge h ha
theorem e_lt {a b : Nat} (h : a < b) (hb : b < 2 ^ 31) : nI a < nI b := nI_lt h hb
theorem e_nlt {a b : Nat} (h : b ≤ a) (ha : a < 2 ^ 31) : ¬ nI a < nI b := nI_nlt h ha
theorem e_ne {a b : Nat} (h : a ≠ b) (ha : a < 2 ^ 31) (hb : b < 2 ^ 31) : ¬ nI a = nI b := fun q => h ((nI_eq ha hb).mp q)
theorem e_m1 {a : Nat} (ha : a < 2 ^ 31) : ¬ nI a = (-1 : Int32) := fun q => by
  have h : (nI a).toInt = (-1 : Int32).toInt := congrArg Int32.toInt q
  rw [nI_toInt ha] at h
  have h2 : (-1 : Int32).toInt = -1 := by decide
  omega
theorem e_rem {a d : Nat} (ha : a < 2 ^ 31) (h0 : 0 < d) (hd : d < 2 ^ 31) : z_rem (nI a) (nI d) = nI (a % d) := pk_rem ha h0 hd
theorem e_div {a d : Nat} (ha : a < 2 ^ 31) (h0 : 0 < d) (hd : d < 2 ^ 31) : nI a / nI d = nI (a / d) := pk_div ha h0 hd
theorem e_ti {x : Int32} : x < 0 ↔ x.toInt < 0 := by rw [Int32.lt_iff_toInt_lt]; rfl
/-- an int is below 0, or a number -/
theorem e_or (x : Int32) : x < 0 ∨ ∃ k : Nat, k < 2 ^ 31 ∧ x = nI k := by
  by_cases h : x < 0
  · exact Or.inl h
  · exact Or.inr (nI_of h)
theorem e_neg_lt {x : Int32} {n : Nat} (h : x < 0) (hn : n < 2 ^ 31) : x < nI n := by
  rw [Int32.lt_iff_toInt_lt, nI_toInt hn]
  have := e_ti.mp h
  omega
theorem e_neg_nle {x : Int32} {n : Nat} (h : x < 0) (hn : n < 2 ^ 31) : ¬ nI n ≤ x := by
  rw [Int32.le_iff_toInt_le, nI_toInt hn]
  have := e_ti.mp h
  omega
theorem e_neg_le {x : Int32} {n : Nat} (h : x < 0) (hn : n < 2 ^ 31) : x ≤ nI n := by
  rw [Int32.le_iff_toInt_le, nI_toInt hn]
  have := e_ti.mp h
  omega
theorem e_neg_ne {x : Int32} {n : Nat} (h : x < 0) (hn : n < 2 ^ 31) : ¬ x = nI n := fun q => by
  have h1 := e_ti.mp h
  rw [q, nI_toInt hn] at h1
  omega
/-- in(v, lo, hi) -/
theorem q_in_1 {N v lo hi : Nat} (h1 : lo ≤ v) (h2 : v ≤ hi) (hv : v < 2 ^ 31) (hh : hi < 2 ^ 31) : q_X5_in N (nI v) (nI lo) (nI hi) = some 1 := by
  unfold q_X5_in
  exact e_n (e_nlt h1 hv) (e_n (e_nlt h2 hh) rfl)
theorem q_in_0 {N v lo hi : Nat} (h : v < lo ∨ hi < v) (hv : v < 2 ^ 31) (hl : lo < 2 ^ 31) : q_X5_in N (nI v) (nI lo) (nI hi) = some 0 := by
  unfold q_X5_in
  by_cases h1 : v < lo
  · exact e_p (e_lt h1 hl) rfl
  · exact e_n (e_nlt (by omega) hv) (e_p (e_lt (by omega) hv) rfl)
theorem q_in_n {N lo : Nat} {x hi : Int32} (h : x < 0) (hl : lo < 2 ^ 31) : q_X5_in N x (nI lo) hi = some 0 := by
  unfold q_X5_in
  exact e_p (e_neg_lt h hl) rfl
/-- fill -/
theorem q_fill_L {N len : Nat} {v : Int32} (hlen : len < 2 ^ 31) : ∀ (n i : Nat) (f : Nat → Int32), i ≤ len → len - i < n → ∃ g : Nat → Int32, q_J7_fill_53178_L5 N v (nI len) len n (nI i) f = some g ∧ (∀ k, i ≤ k → k < len → g k = v) ∧ (∀ k, k < i → g k = f k) := by
  intro n
  induction n with
  | zero => intro i f _ h; omega
  | succ n ih =>
    intro i f hi hn
    rw [q_J7_fill_53178_L5]
    by_cases h : i = len
    · subst h
      exact ⟨f, e_p (e_le (Nat.le_refl _) hlen) rfl, fun k h1 h2 => by omega, fun k _ => rfl⟩
    · obtain ⟨g, g1, g2, g3⟩ := ih (i + 1) (upd f i v) (by omega) (by omega)
      refine ⟨g, e_n (e_nle (by omega) hlen) (e_p (e_in (by omega) hlen) ?_), fun k h1 h2 => ?_, fun k h1 => ?_⟩
      · rw [nI_1, e_cl (by omega)]
        exact g1
      · by_cases e : k = i
        · subst e
          rw [g3 k (by omega)]
          exact pk_us
        · exact g2 k (by omega) h2
      · rw [g3 k (by omega)]
        exact pk_un (by omega)
theorem q_fill_ok {N len : Nat} {v : Int32} (f : Nat → Int32) (hlen : len < 2 ^ 31) (hN : len < N) : ∃ g : Nat → Int32, q_J7_fill_53178 N len v f = some g ∧ ∀ k, k < len → g k = v := by
  obtain ⟨g, g1, g2, -⟩ := q_fill_L (N := N) (v := v) hlen N 0 f (Nat.zero_le _) (by omega)
  refine ⟨g, ?_, fun k hk => g2 k (Nat.zero_le _) hk⟩
  unfold q_J7_fill_53178
  exact e_b g1 rfl

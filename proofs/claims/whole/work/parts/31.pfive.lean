/-! ===== pure rows: five in one ===== -/
/-- the best of the first athletes -/
def fv_bs (w s : Nat → Nat) : Nat → Nat
  | 0 => 0
  | k + 1 => if k ≠ 0 ∧ (w (fv_bs w s k) < w k ∨ (w k = w (fv_bs w s k) ∧ s k < s (fv_bs w s k))) then k else fv_bs w s k
def fv_sw (w : Nat → Nat) : Nat → Nat
  | 0 => 0
  | k + 1 => fv_sw w k + w k
def fv_ch (n e : Nat) (w s : Nat → Nat) : Int32 := if n = 0 then -1 else if 3 ≤ w (fv_bs w s n) ∨ 5 ≤ e then nI (fv_bs w s n) else -1
def fv_num (n : Nat) (w s : Nat → Nat) (f g : Nat → Int32) : Prop := ∀ k, k < n → f k = nI (w k) ∧ g k = nI (s k)
def i_F (x0_2 x0_3 x0_4 : Int32) (f0_0 f0_1 : Nat → Int32) (x5_15 x5_16 : Int32) (f5_17 f5_18 : Nat → Int32) : Prop := ∃ (n e : Nat) (w s : Nat → Nat), n ≤ 4 ∧ e ≤ 5 ∧ (n = 0 → e = 0) ∧ x0_2 = nI n ∧ x5_15 = nI n ∧ x0_3 = nI e ∧ x5_16 = nI e ∧ fv_num n w s f0_0 f0_1 ∧ fv_num n w s f5_17 f5_18 ∧ (∀ k, k < n → s k ≤ 16 * e) ∧ (n ≠ 0 → fv_sw w n = e) ∧ x0_4 = fv_ch n e w s
theorem fv_bs_lt {w s : Nat → Nat} : ∀ {n : Nat}, 0 < n → fv_bs w s n < n
  | 0, h => by omega
  | k + 1, _ => by
    unfold fv_bs
    by_cases h : k ≠ 0 ∧ (w (fv_bs w s k) < w k ∨ (w k = w (fv_bs w s k) ∧ s k < s (fv_bs w s k)))
    · rw [if_pos h]; omega
    · rw [if_neg h]
      by_cases hk : k = 0
      · subst hk; show (0 : Nat) < 1; omega
      · have := fv_bs_lt (w := w) (s := s) (n := k) (by omega)
        omega
theorem fv_bs_max {w s : Nat → Nat} : ∀ {n : Nat} {k : Nat}, k < n → w k ≤ w (fv_bs w s n)
  | 0, k, h => by omega
  | n + 1, k, hk => by
    unfold fv_bs
    by_cases h : n ≠ 0 ∧ (w (fv_bs w s n) < w n ∨ (w n = w (fv_bs w s n) ∧ s n < s (fv_bs w s n)))
    · rw [if_pos h]
      by_cases e : k = n
      · rw [e]; exact Nat.le_refl _
      · have := fv_bs_max (w := w) (s := s) (n := n) (k := k) (by omega)
        omega
    · rw [if_neg h]
      by_cases e : k = n
      · subst e
        by_cases h0 : k = 0
        · subst h0; exact Nat.le_refl _
        · have h1 : ¬ w (fv_bs w s k) < w k := fun q => h ⟨h0, Or.inl q⟩
          omega
      · exact fv_bs_max (w := w) (s := s) (n := n) (k := k) (by omega)
theorem fv_sw_ge {w : Nat → Nat} : ∀ {n i : Nat}, i < n → w i ≤ fv_sw w n
  | 0, i, h => by omega
  | n + 1, i, h => by
    unfold fv_sw
    by_cases e : i = n
    · subst e; omega
    · have := fv_sw_ge (w := w) (n := n) (i := i) (by omega)
      omega
theorem fv_sw_two {w : Nat → Nat} : ∀ {n i j : Nat}, i < n → j < n → i ≠ j → w i + w j ≤ fv_sw w n
  | 0, i, j, h, _, _ => by omega
  | n + 1, i, j, hi, hj, hij => by
    unfold fv_sw
    by_cases e : i = n
    · subst e
      have := fv_sw_ge (w := w) (n := i) (i := j) (by omega)
      omega
    · by_cases e2 : j = n
      · subst e2
        have := fv_sw_ge (w := w) (n := j) (i := i) (by omega)
        omega
      · have := fv_sw_two (w := w) (n := n) (i := i) (j := j) (by omega) (by omega) hij
        omega
theorem fv_sw_up {w : Nat → Nat} {d : Nat} : ∀ {n : Nat}, fv_sw (fun j => if j = d then w j + 1 else w j) n = fv_sw w n + (if d < n then 1 else 0)
  | 0 => rfl
  | n + 1 => by
    unfold fv_sw
    rw [fv_sw_up (w := w) (d := d) (n := n)]
    by_cases e : n = d
    · subst e
      simp
      omega
    · by_cases h : d < n
      · simp [h, e, Nat.lt_succ_of_lt h]
        omega
      · simp [h, e, show ¬ d < n + 1 by omega]
theorem fv_ahead {N a wa sa b wb sb : Nat} (h1 : a < 2 ^ 31) (h2 : wa < 2 ^ 31) (h3 : sa < 2 ^ 31) (h4 : b < 2 ^ 31) (h5 : wb < 2 ^ 31) (h6 : sb < 2 ^ 31) : q_X0_isAhead N (nI a) (nI wa) (nI sa) (nI b) (nI wb) (nI sb) = some (if wb < wa ∨ (wa = wb ∧ (sa < sb ∨ (sa = sb ∧ a < b))) then 1 else 0) := by
  unfold q_X0_isAhead
  by_cases c1 : wa = wb
  · refine e_p (by rw [c1]) ?_
    by_cases c2 : sa = sb
    · refine e_p (by rw [c2]) ?_
      by_cases c3 : b ≤ a
      · refine e_p (e_le c3 h1) ?_
        rw [if_neg (by omega)]
      · refine e_n (e_nle (by omega) h4) ?_
        rw [if_pos (by omega)]
    · refine e_n (e_ne c2 h3 h6) ?_
      by_cases c3 : sb ≤ sa
      · refine e_p (e_le c3 h3) ?_
        rw [if_neg (by omega)]
      · refine e_n (e_nle (by omega) h6) ?_
        rw [if_pos (by omega)]
  · refine e_n (e_ne c1 h2 h5) ?_
    by_cases c3 : wa ≤ wb
    · refine e_p (e_le c3 h5) ?_
      rw [if_neg (by omega)]
    · refine e_n (e_nle (by omega) h2) ?_
      rw [if_pos (by omega)]
theorem e_10 : ¬ (1 : Int32) = 0 := by decide
theorem fv_ahead_1 {N a wa sa b wb sb : Nat} (h1 : a < 2 ^ 31) (h2 : wa < 2 ^ 31) (h3 : sa < 2 ^ 31) (h4 : b < 2 ^ 31) (h5 : wb < 2 ^ 31) (h6 : sb < 2 ^ 31) (h : wb < wa ∨ (wa = wb ∧ (sa < sb ∨ (sa = sb ∧ a < b)))) : q_X0_isAhead N (nI a) (nI wa) (nI sa) (nI b) (nI wb) (nI sb) = some 1 := by
  rw [fv_ahead h1 h2 h3 h4 h5 h6, if_pos h]
theorem fv_ahead_0 {N a wa sa b wb sb : Nat} (h1 : a < 2 ^ 31) (h2 : wa < 2 ^ 31) (h3 : sa < 2 ^ 31) (h4 : b < 2 ^ 31) (h5 : wb < 2 ^ 31) (h6 : sb < 2 ^ 31) (h : ¬ (wb < wa ∨ (wa = wb ∧ (sa < sb ∨ (sa = sb ∧ a < b))))) : q_X0_isAhead N (nI a) (nI wa) (nI sa) (nI b) (nI wb) (nI sb) = some 0 := by
  rw [fv_ahead h1 h2 h3 h4 h5 h6, if_neg h]
theorem fv_ch_1 {n e : Nat} {w s : Nat → Nat} (h0 : n ≠ 0) (h : 3 ≤ w (fv_bs w s n) ∨ 5 ≤ e) : fv_ch n e w s = nI (fv_bs w s n) := by
  unfold fv_ch
  rw [if_neg h0, if_pos h]
theorem fv_ch_0 {n e : Nat} {w s : Nat → Nat} (h0 : n ≠ 0) (h : ¬ (3 ≤ w (fv_bs w s n) ∨ 5 ≤ e)) : fv_ch n e w s = -1 := by
  unfold fv_ch
  rw [if_neg h0, if_neg h]
theorem fv_bs_1 {w s : Nat → Nat} {i : Nat} (h : i ≠ 0 ∧ (w (fv_bs w s i) < w i ∨ (w i = w (fv_bs w s i) ∧ s i < s (fv_bs w s i)))) : fv_bs w s (i + 1) = i := by
  show (if _ then _ else _) = _
  rw [if_pos h]
theorem fv_bs_0 {w s : Nat → Nat} {i : Nat} (h : ¬ (i ≠ 0 ∧ (w (fv_bs w s i) < w i ∨ (w i = w (fv_bs w s i) ∧ s i < s (fv_bs w s i))))) : fv_bs w s (i + 1) = fv_bs w s i := by
  show (if _ then _ else _) = _
  rw [if_neg h]
theorem fv_champ_L {N n : Nat} {w s : Nat → Nat} {f g : Nat → Int32} (hn : n ≤ 4) (hf : fv_num n w s f g) (hw : ∀ k, k < n → w k < 2 ^ 31) (hs : ∀ k, k < n → s k < 2 ^ 31) : ∀ (m i : Nat), 1 ≤ i → i ≤ n → n - i < m → q_X0_findChampion_L4 N (nI n) f g m (nI (fv_bs w s i)) (nI i) = some (nI (fv_bs w s n)) := by
  intro m
  induction m with
  | zero => intro i _ _ h; omega
  | succ m ih =>
    intro i hi1 hi hm
    rw [q_X0_findChampion_L4]
    by_cases h : i = n
    · subst h
      exact e_p (e_le (Nat.le_refl _) (by omega)) rfl
    · have hb := fv_bs_lt (w := w) (s := s) (n := i) (by omega)
      refine e_n (e_nle (by omega) (by omega)) (e_p (e_in (by omega) (by omega)) (e_p (e_in (by omega) (by omega)) ?_))
      rw [e_cl (n := i) (by omega), e_cl (n := fv_bs w s i) (by omega), (hf i (by omega)).1, (hf i (by omega)).2, (hf (fv_bs w s i) (by omega)).1, (hf (fv_bs w s i) (by omega)).2]
      rw [nI_1]
      have ihi := ih (i + 1) (by omega) (by omega) (by omega)
      by_cases c : w (fv_bs w s i) < w i ∨ (w i = w (fv_bs w s i) ∧ s i < s (fv_bs w s i))
      · rw [fv_bs_1 ⟨by omega, c⟩] at ihi
        exact e_b (fv_ahead_1 (by omega) (hw i (by omega)) (hs i (by omega)) (by omega) (hw _ (by omega)) (hs _ (by omega)) (by omega)) (e_n e_10 ihi)
      · rw [fv_bs_0 (fun q => c q.2)] at ihi
        exact e_b (fv_ahead_0 (by omega) (hw i (by omega)) (hs i (by omega)) (by omega) (hw _ (by omega)) (hs _ (by omega)) (by omega)) (e_p rfl ihi)
theorem fv_champ {N n e : Nat} {w s : Nat → Nat} {f g : Nat → Int32} (hN : 60 ≤ N) (hn : n ≤ 4) (h0 : 0 < n) (he : e ≤ 5) (hf : fv_num n w s f g) (hw : ∀ k, k < n → w k < 2 ^ 31) (hs : ∀ k, k < n → s k < 2 ^ 31) : q_X0_findChampion N (nI n) (nI e) f g = some (fv_ch n e w s) := by
  have hb := fv_bs_lt (w := w) (s := s) h0
  unfold q_X0_findChampion
  refine e_b (fv_champ_L hn hf hw hs N 1 (Nat.le_refl _) h0 (by omega)) (e_p (e_in (by omega) (by omega)) ?_)
  rw [e_cl (by omega), (hf _ hb).1]
  by_cases c : 3 ≤ w (fv_bs w s n)
  · rw [fv_ch_1 (by omega) (Or.inl c)]
    exact e_p (e_le c (hw _ hb)) rfl
  · refine e_n (e_nle (a := 3) (by omega) (by omega)) ?_
    by_cases c2 : e < 5
    · rw [fv_ch_0 (by omega) (by omega)]
      exact e_p (e_lt (b := 5) c2 (by omega)) rfl
    · rw [fv_ch_1 (by omega) (by omega)]
      exact e_n (e_nlt (b := 5) (by omega) (by omega)) rfl
/-- the reference's won(): none has three -/
theorem fv_won_A {N n : Nat} {w s : Nat → Nat} {f g : Nat → Int32} (hn : n ≤ 4) (hf : fv_num n w s f g) (hw : ∀ k, k < n → w k ≤ 2) (hs : ∀ k, k < n → s k < 2 ^ 31) : ∀ (m i : Nat), i ≤ n → n - i < m → q_X5_won_L4 N (nI n) f g m (if i = 0 then -1 else nI (fv_bs w s i)) (nI i) = some (Sum.inr (if n = 0 then -1 else nI (fv_bs w s n))) := by
  intro m
  induction m with
  | zero => intro i _ h; omega
  | succ m ih =>
    intro i hi hm
    rw [q_X5_won_L4]
    by_cases h : i = n
    · subst h
      exact e_p (e_le (Nat.le_refl _) (by omega)) rfl
    · have hwi := hw i (by omega)
      refine e_n (e_nle (by omega) (by omega)) (e_p (e_in (by omega) (by omega)) ?_)
      rw [e_cl (n := i) (by omega), (hf i (by omega)).1, (hf i (by omega)).2, nI_1]
      refine e_p (e_le (b := 2) hwi (by omega)) ?_
      have ihi := ih (i + 1) (by omega) (by omega)
      rw [if_neg (show ¬ i + 1 = 0 by omega)] at ihi
      by_cases c0 : i = 0
      · subst c0
        rw [fv_bs_0 (fun q => q.1 rfl)] at ihi
        exact e_p rfl ihi
      · have hb := fv_bs_lt (w := w) (s := s) (n := i) (by omega)
        have hwb := hw (fv_bs w s i) (by omega)
        have hsb := hs (fv_bs w s i) (by omega)
        have hsi := hs i (by omega)
        rw [if_neg c0]
        refine e_n (e_m1 (by omega)) (e_p (e_in (by omega) (by omega)) ?_)
        rw [e_cl (n := fv_bs w s i) (by omega), (hf (fv_bs w s i) (by omega)).1, (hf (fv_bs w s i) (by omega)).2]
        by_cases c1 : w (fv_bs w s i) < w i
        · rw [fv_bs_1 ⟨c0, Or.inl c1⟩] at ihi
          exact e_p (e_lt c1 (by omega)) ihi
        · refine e_n (e_nlt (by omega) (by omega)) ?_
          by_cases c2 : w i = w (fv_bs w s i)
          · refine e_p (by rw [c2]) ?_
            by_cases c3 : s (fv_bs w s i) ≤ s i
            · rw [fv_bs_0 (by omega)] at ihi
              exact e_p (e_le c3 hsi) ihi
            · rw [fv_bs_1 (by omega)] at ihi
              exact e_n (e_nle (by omega) hsb) ihi
          · rw [fv_bs_0 (by omega)] at ihi
            exact e_n (e_ne c2 (by omega) (by omega)) ihi
/-- the reference's won(): j is the first with three -/
theorem fv_won_B {N n j : Nat} {w s : Nat → Nat} {f g : Nat → Int32} (hn : n ≤ 4) (hf : fv_num n w s f g) (hj : j < n) (hj3 : 3 ≤ w j) (hw : ∀ k, k < j → w k ≤ 2) (hwj : ∀ k, k < n → w k < 2 ^ 31) (hs : ∀ k, k < n → s k < 2 ^ 31) : ∀ (m i : Nat), i ≤ j → n - i < m → q_X5_won_L4 N (nI n) f g m (if i = 0 then -1 else nI (fv_bs w s i)) (nI i) = some (Sum.inl (nI j)) := by
  intro m
  induction m with
  | zero => intro i _ h; omega
  | succ m ih =>
    intro i hi hm
    rw [q_X5_won_L4]
    refine e_n (e_nle (by omega) (by omega)) (e_p (e_in (by omega) (by omega)) ?_)
    rw [e_cl (n := i) (by omega), (hf i (by omega)).1, (hf i (by omega)).2, nI_1]
    by_cases h : i = j
    · subst h
      exact e_n (e_nle (b := 2) (by omega) (hwj i hj)) rfl
    · have hwi := hw i (by omega)
      refine e_p (e_le (b := 2) hwi (by omega)) ?_
      have ihi := ih (i + 1) (by omega) (by omega)
      rw [if_neg (show ¬ i + 1 = 0 by omega)] at ihi
      by_cases c0 : i = 0
      · subst c0
        rw [fv_bs_0 (fun q => q.1 rfl)] at ihi
        exact e_p rfl ihi
      · have hb := fv_bs_lt (w := w) (s := s) (n := i) (by omega)
        have hwb := hw (fv_bs w s i) (by omega)
        have hsb := hs (fv_bs w s i) (by omega)
        have hsi := hs i (by omega)
        rw [if_neg c0]
        refine e_n (e_m1 (by omega)) (e_p (e_in (by omega) (by omega)) ?_)
        rw [e_cl (n := fv_bs w s i) (by omega), (hf (fv_bs w s i) (by omega)).1, (hf (fv_bs w s i) (by omega)).2]
        by_cases c1 : w (fv_bs w s i) < w i
        · rw [fv_bs_1 ⟨c0, Or.inl c1⟩] at ihi
          exact e_p (e_lt c1 (by omega)) ihi
        · refine e_n (e_nlt (by omega) (by omega)) ?_
          by_cases c2 : w i = w (fv_bs w s i)
          · refine e_p (by rw [c2]) ?_
            by_cases c3 : s (fv_bs w s i) ≤ s i
            · rw [fv_bs_0 (by omega)] at ihi
              exact e_p (e_le c3 hsi) ihi
            · rw [fv_bs_1 (by omega)] at ihi
              exact e_n (e_nle (by omega) hsb) ihi
          · rw [fv_bs_0 (by omega)] at ihi
            exact e_n (e_ne c2 (by omega) (by omega)) ihi
theorem fv_first {w : Nat → Nat} : ∀ (n : Nat), (∀ k, k < n → w k ≤ 2) ∨ ∃ j, j < n ∧ 3 ≤ w j ∧ ∀ k, k < j → w k ≤ 2
  | 0 => Or.inl (fun k h => by omega)
  | n + 1 => by
    rcases fv_first (w := w) n with h | ⟨j, h1, h2, h3⟩
    · by_cases c : w n ≤ 2
      · refine Or.inl (fun k hk => ?_)
        by_cases e : k = n
        · rw [e]; exact c
        · exact h k (by omega)
      · exact Or.inr ⟨n, by omega, by omega, h⟩
    · exact Or.inr ⟨j, by omega, h2, h3⟩
theorem fv_won {N n e : Nat} {w s : Nat → Nat} {f g : Nat → Int32} (hN : 60 ≤ N) (hn : n ≤ 4) (he : e ≤ 5) (h0 : n = 0 → e = 0) (hf : fv_num n w s f g) (hs : ∀ k, k < n → s k ≤ 16 * e) (hsw : n ≠ 0 → fv_sw w n = e) : q_X5_won N (nI n) (nI e) f g = some (fv_ch n e w s) := by
  have hw5 : ∀ k, k < n → w k ≤ 5 := fun k hk => by
    have := fv_sw_ge (w := w) hk
    have := hsw (by omega)
    omega
  have hs2 : ∀ k, k < n → s k < 2 ^ 31 := fun k hk => by
    have := hs k hk
    omega
  unfold q_X5_won
  rcases fv_first (w := w) n with h | ⟨j, h1, h2, h3⟩
  · have hL := fv_won_A (N := N) hn hf h hs2 N 0 (Nat.zero_le _) (by omega)
    rw [if_pos rfl] at hL
    refine e_b hL ?_
    show (if nI e = 5 then some (if n = 0 then (-1 : Int32) else nI (fv_bs w s n)) else some (-1)) = _
    by_cases c0 : n = 0
    · have := h0 c0
      subst this
      have hz : fv_ch n 0 w s = -1 := by
        unfold fv_ch
        rw [if_pos c0]
      rw [hz]
      exact e_n (e_ne (b := 5) (by omega) (by omega) (by omega)) rfl
    · have hb := h _ (fv_bs_lt (w := w) (s := s) (n := n) (by omega))
      rw [if_neg c0]
      by_cases c5 : e = 5
      · rw [fv_ch_1 c0 (by omega)]
        exact e_p (by rw [c5]; rfl) rfl
      · rw [fv_ch_0 c0 (by omega)]
        exact e_n (e_ne (b := 5) c5 (by omega) (by omega)) rfl
  · have hL := fv_won_B (N := N) hn hf h1 h2 h3 (fun k hk => by have := hw5 k hk; omega) hs2 N 0 (Nat.zero_le _) (by omega)
    rw [if_pos rfl] at hL
    refine e_b hL ?_
    show some (nI j) = _
    have hn0 : n ≠ 0 := by omega
    have hbl := fv_bs_lt (w := w) (s := s) (n := n) (by omega)
    have hbm := fv_bs_max (w := w) (s := s) h1
    have hsum := hsw hn0
    have hj : fv_bs w s n = j := by
      by_cases q : fv_bs w s n = j
      · exact q
      · have := fv_sw_two (w := w) hbl h1 q
        omega
    rw [fv_ch_1 hn0 (by rw [hj]; exact Or.inl h2), hj]

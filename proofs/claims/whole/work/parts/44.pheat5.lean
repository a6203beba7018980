/-! ===== pure rows: heats, where a runner is ===== -/
theorem ht_idx {S M h i : Nat} (h2 : 2 ≤ S) (h6 : S ≤ 6) (hM : M ≤ 24) (hh : h < ht_H S M) (hi : i < ht_n S M h) : h * S + i < M ∧ (M % S = 1 → h * S + i < M - 1) ∧ i < S ∧ h < 12 := by
  have h12 := ht_H12 h2 h6 hM
  unfold ht_n at hi
  have a := Nat.lt_of_lt_of_le hi (Nat.min_le_left _ _)
  have b := Nat.lt_of_lt_of_le hi (Nat.min_le_right _ _)
  have hl : h < 12 := by omega
  unfold ht_H at hh
  refine ⟨by omega, fun c => ?_, a, hl⟩
  rw [if_pos (by omega)] at hh
  rcases ht_S h2 h6 with e | e | e | e | e <;> subst e <;> omega
theorem ht_idx2 {S M k : Nat} (h2 : 2 ≤ S) (h6 : S ≤ 6) (hM : M ≤ 24) (hk : k < M) (hb : M % S = 1 → k < M - 1) : k / S < ht_H S M ∧ k % S < ht_n S M (k / S) ∧ k / S * S + k % S = k := by
  have hm : k % S < S := Nat.mod_lt _ (by omega)
  have e : k / S * S + k % S = k := by rw [Nat.mul_comm]; exact Nat.div_add_mod k S
  refine ⟨?_, Nat.lt_min.mpr ⟨hm, by omega⟩, e⟩
  unfold ht_H
  by_cases c : M % S ≤ 1
  · rw [if_pos c]
    rcases ht_S h2 h6 with e | e | e | e | e <;> subst e <;> omega
  · rw [if_neg c]
    rcases ht_S h2 h6 with e | e | e | e | e <;> subst e <;> omega
theorem ht_hS {S M h : Nat} (h2 : 2 ≤ S) (h6 : S ≤ 6) (hM : M ≤ 24) (hh : h < ht_H S M) : h * S < M ∧ (M % S = 1 → h * S + S ≤ M - 1) := by
  unfold ht_H at hh
  by_cases c : M % S ≤ 1
  · rw [if_pos c] at hh
    rcases ht_S h2 h6 with e | e | e | e | e <;> subst e <;> omega
  · rw [if_neg c] at hh
    rcases ht_S h2 h6 with e | e | e | e | e <;> subst e <;> omega
theorem ht_in_v {N h H : Nat} (hh : h < 2 ^ 31) (hH : H < 2 ^ 31) : q_X5_in N (nI h) 0 (nI H - 1) = some (if h < H then 1 else 0) := by
  rw [ht_v_s]
  cases H with
  | zero =>
    rw [if_neg (by omega)]
    unfold q_X5_in
    have m1 : (-1 : Int32) < nI h := by
      rw [Int32.lt_iff_toInt_lt, nI_toInt hh]
      have q : (-1 : Int32).toInt = -1 := by decide
      omega
    exact e_n (e_nlt (b := 0) (by omega) (by omega)) (e_p m1 rfl)
  | succ H =>
    by_cases c : h < H + 1
    · rw [if_pos c]
      exact q_in_1 (lo := 0) (by omega) (by omega) hh (by omega)
    · rw [if_neg c]
      exact q_in_0 (lo := 0) (by omega) hh (by omega)
theorem ht_in_neg {N : Nat} {v hi : Int32} (h : v < 0) : q_X5_in N v 0 hi = some 0 := q_in_n (lo := 0) h (by omega)
theorem ht_isH {N R S M rd : Nat} {E : Nat → Nat} {v : Int32} (hR : R ≤ 24) (hS : 2 ≤ S) (hS6 : S ≤ 6) (hM : 1 ≤ M) (hMR : M ≤ R) (hrd : 1 ≤ rd) (hrd2 : rd + M ≤ 26) (hb : ht_b R M E) : (∃ h, h < ht_H S M ∧ v = nI h ∧ q_X1_isHeat N v (nI (ht_H S M)) = some 1 ∧ q_X5_isHeat N v (nI S) (nI rd) (nI M) (ht_B S M E) = some 1) ∨ (q_X1_isHeat N v (nI (ht_H S M)) = some 0 ∧ q_X5_isHeat N v (nI S) (nI rd) (nI M) (ht_B S M E) = some 0) := by
  have h12 := ht_H12 hS hS6 (show M ≤ 24 by omega)
  have hh := ht_heats (N := N) hS hS6 hM (show M ≤ 24 by omega) hR hb
  have r0 : ¬ nI rd ≤ 0 := e_nle (b := 0) (by omega) (by omega)
  unfold q_X1_isHeat q_X5_isHeat
  rcases e_or v with h | ⟨k, k1, k2⟩
  · exact Or.inr ⟨e_p h rfl, e_n r0 (e_b hh (e_b (ht_in_neg h) (e_p rfl rfl)))⟩
  · subst k2
    have hi := ht_in_v (N := N) k1 (show ht_H S M < 2 ^ 31 by omega)
    by_cases c : k < ht_H S M
    · rw [if_pos c] at hi
      exact Or.inl ⟨k, c, rfl, e_n (nI_pos k1) (e_n (e_nle c (by omega)) rfl), e_n r0 (e_b hh (e_b hi (e_n e_10 rfl)))⟩
    · rw [if_neg c] at hi
      exact Or.inr ⟨e_n (nI_pos k1) (e_p (e_le (by omega) k1) rfl), e_n r0 (e_b hh (e_b hi (e_p rfl rfl)))⟩
theorem ht_isH1 {N h H : Nat} (hh : h < H) (hH : H ≤ 24) : q_X1_isHeat N (nI h) (nI H) = some 1 := by
  unfold q_X1_isHeat
  exact e_n (nI_pos (by omega)) (e_n (e_nle hh (by omega)) rfl)
theorem ht_size1 {N S M h : Nat} (hS : 2 ≤ S) (hS6 : S ≤ 6) (hM : M ≤ 24) (hh : h < ht_H S M) : q_X1_sizeOf N (nI h) (nI S) (nI M) = some (nI (ht_n S M h)) := by
  have a := (ht_hS hS hS6 hM hh).1
  unfold q_X1_sizeOf z_min ht_n
  rw [pk_mul, pk_sub (show h * S ≤ M by omega)]
  by_cases c : M - h * S < S
  · rw [if_pos (e_lt c (by omega)), Nat.min_eq_right (by omega)]
  · rw [if_neg (e_nlt (by omega) (by omega)), Nat.min_eq_left (by omega)]
theorem ht_size5 {N R S M h : Nat} {E : Nat → Nat} (hR : R ≤ 24) (hS : 2 ≤ S) (hS6 : S ≤ 6) (hM : 1 ≤ M) (hMR : M ≤ R) (hb : ht_b R M E) (hh : h < ht_H S M) : q_X5_inHeat N (nI h) (nI S) (nI M) (ht_B S M E) = some (nI (ht_n S M h)) := by
  obtain ⟨a, b⟩ := ht_hS hS hS6 (show M ≤ 24 by omega) hh
  have hE := hb (M - 1) (by omega)
  unfold q_X5_inHeat ht_B ht_n
  rw [pk_mul, show nI M - 0 = nI M from pk_sub (a := M) (b := 0) (by omega), show nI M - 1 = nI (M - 1) from pk_sub (a := M) (b := 1) hM]
  by_cases c : M % S = 1
  · have b := b c
    rw [if_pos c, pk_sub (show h * S ≤ M - 1 by omega), Nat.min_eq_left (by omega)]
    exact e_n (e_m1 (by omega)) (e_p (e_le (by omega) (by omega)) rfl)
  · rw [if_neg c, pk_sub (show h * S ≤ M by omega)]
    refine e_p rfl ?_
    by_cases d : S ≤ M - h * S
    · rw [Nat.min_eq_left d]
      exact e_p (e_le d (by omega)) rfl
    · rw [Nat.min_eq_right (by omega)]
      exact e_n (e_nle (by omega) (by omega)) rfl
theorem ht_at1 {N S M h i : Nat} {E : Nat → Nat} {f2 : Nat → Int32} (hS : 2 ≤ S) (hS6 : S ≤ 6) (hM : M ≤ 24) (h2 : ht_r M E f2) (hh : h < ht_H S M) (hi : i < ht_n S M h) : q_X1_runnerAt N (nI h) (nI i) (nI S) (nI M) (nI (ht_H S M)) f2 = some (nI (E (h * S + i))) := by
  have h12 := ht_H12 hS hS6 hM
  obtain ⟨a, -, b, -⟩ := ht_idx hS hS6 hM hh hi
  have n6 : ht_n S M h ≤ S := Nat.min_le_left _ _
  unfold q_X1_runnerAt
  refine e_b (ht_isH1 hh (by omega)) (e_n e_10 (e_n (nI_pos (by omega)) (e_b (ht_size1 hS hS6 hM hh) (e_n (e_nle hi (by omega)) ?_))))
  rw [pk_mul, nI_add]
  refine e_p (e_in (by omega) (by omega)) ?_
  rw [e_cl (n := h * S + i) (by omega), h2 _ a]
theorem ht_at0 {N S M h i : Nat} {f2 : Nat → Int32} (hS : 2 ≤ S) (hS6 : S ≤ 6) (hM : M ≤ 24) (hh : h < ht_H S M) (hi : ht_n S M h ≤ i) (hi2 : i < 2 ^ 31) : q_X1_runnerAt N (nI h) (nI i) (nI S) (nI M) (nI (ht_H S M)) f2 = some (-1) := by
  have h12 := ht_H12 hS hS6 hM
  unfold q_X1_runnerAt
  exact e_b (ht_isH1 hh (by omega)) (e_n e_10 (e_n (nI_pos hi2) (e_b (ht_size1 hS hS6 hM hh) (e_p (e_le hi hi2) rfl))))
/-- one of a heat -/
def ht_is (S M : Nat) (E : Nat → Nat) (h : Nat) (v : Int32) : Prop := ∃ i, i < ht_n S M h ∧ v = nI (E (h * S + i))
theorem ht_isIn1_L {N R S M h : Nat} {E : Nat → Nat} {f2 : Nat → Int32} {v : Int32} (hR : R ≤ 24) (hS : 2 ≤ S) (hS6 : S ≤ 6) (hMR : M ≤ R) (h2 : ht_r M E f2) (hb : ht_b R M E) (hh : h < ht_H S M) : ∀ (m i : Nat), i ≤ S → S - i < m → ((∃ j, i ≤ j ∧ j < ht_n S M h ∧ v = nI (E (h * S + j))) ∧ q_X1_isIn_L2 N (nI h) v (nI S) (nI M) (nI (ht_H S M)) f2 m (nI i) = some (Sum.inl 1)) ∨ ((¬ ∃ j, i ≤ j ∧ j < ht_n S M h ∧ v = nI (E (h * S + j))) ∧ q_X1_isIn_L2 N (nI h) v (nI S) (nI M) (nI (ht_H S M)) f2 m (nI i) = some (Sum.inr ())) := by
  have n6 : ht_n S M h ≤ S := Nat.min_le_left _ _
  have hM : M ≤ 24 := by omega
  intro m
  induction m with
  | zero => intro i _ h; omega
  | succ m ih =>
    intro i hi hm
    rw [q_X1_isIn_L2, nI_1]
    by_cases e : i = S
    · subst e
      exact Or.inr ⟨fun ⟨j, j1, j2, _⟩ => by omega, e_p (e_le (Nat.le_refl _) (by omega)) rfl⟩
    · have nle : ¬ nI S ≤ nI i := e_nle (by omega) (by omega)
      have I := ih (i + 1) (by omega) (by omega)
      by_cases hv : v < 0
      · have no : ¬ ∃ j, i ≤ j ∧ j < ht_n S M h ∧ v = nI (E (h * S + j)) := fun ⟨j, j1, j2, j3⟩ => by
          have := hb _ (ht_idx hS hS6 hM hh j2).1
          exact e_neg_ne hv (by omega) j3
        have no2 : ¬ ∃ j, i + 1 ≤ j ∧ j < ht_n S M h ∧ v = nI (E (h * S + j)) := fun ⟨j, j1, j2⟩ => no ⟨j, by omega, j2⟩
        exact Or.inr ⟨no, e_n nle (e_p hv ((I.resolve_left (fun q => no2 q.1)).2))⟩
      · by_cases c : i < ht_n S M h
        · by_cases d : nI (E (h * S + i)) = v
          · exact Or.inl ⟨⟨i, Nat.le_refl _, c, d.symm⟩, e_n nle (e_n hv (e_b (ht_at1 hS hS6 hM h2 hh c) (e_p d rfl)))⟩
          · rcases I with ⟨⟨j, j1, j2⟩, I2⟩ | ⟨I1, I2⟩
            · exact Or.inl ⟨⟨j, by omega, j2⟩, e_n nle (e_n hv (e_b (ht_at1 hS hS6 hM h2 hh c) (e_n d I2)))⟩
            · exact Or.inr ⟨fun ⟨j, j1, j2, j3⟩ => by
                by_cases q : j = i
                · subst q; exact d j3.symm
                · exact I1 ⟨j, by omega, j2, j3⟩, e_n nle (e_n hv (e_b (ht_at1 hS hS6 hM h2 hh c) (e_n d I2)))⟩
        · have no2 : ¬ ∃ j, i + 1 ≤ j ∧ j < ht_n S M h ∧ v = nI (E (h * S + j)) := fun ⟨j, j1, j2, _⟩ => by omega
          refine Or.inr ⟨fun ⟨j, j1, j2, _⟩ => by omega, e_n nle (e_n hv (e_b (ht_at0 hS hS6 hM hh (by omega) (by omega)) (e_n (fun q => ?_) ((I.resolve_left (fun q => no2 q.1)).2))))⟩
          exact hv (by rw [← q]; decide)
theorem ht_isIn5_L {N R S M h : Nat} {E : Nat → Nat} {f8 : Nat → Int32} {v : Int32} (hR : R ≤ 24) (hS : 2 ≤ S) (hS6 : S ≤ 6) (hM1 : 1 ≤ M) (hMR : M ≤ R) (h8 : ht_r M E f8) (hb : ht_b R M E) (hh : h < ht_H S M) : ∀ (m i : Nat), i ≤ ht_n S M h → ht_n S M h - i < m → ((∃ j, i ≤ j ∧ j < ht_n S M h ∧ v = nI (E (h * S + j))) ∧ q_X5_isIn_L19 N (nI h) v (nI S) (nI M) (ht_B S M E) f8 m (nI i) = some (Sum.inl 1)) ∨ ((¬ ∃ j, i ≤ j ∧ j < ht_n S M h ∧ v = nI (E (h * S + j))) ∧ q_X5_isIn_L19 N (nI h) v (nI S) (nI M) (ht_B S M E) f8 m (nI i) = some (Sum.inr ())) := by
  have n6 : ht_n S M h ≤ S := Nat.min_le_left _ _
  have hM : M ≤ 24 := by omega
  intro m
  induction m with
  | zero => intro i _ h; omega
  | succ m ih =>
    intro i hi hm
    rw [q_X5_isIn_L19, nI_1]
    have hs := ht_size5 (N := N) hR hS hS6 hM1 hMR hb hh
    by_cases e : i = ht_n S M h
    · exact Or.inr ⟨fun ⟨j, j1, j2, _⟩ => by omega, e_b hs (e_p (e_le (by omega) (by omega)) rfl)⟩
    · have nle : ¬ nI (ht_n S M h) ≤ nI i := e_nle (by omega) (by omega)
      have I := ih (i + 1) (by omega) (by omega)
      obtain ⟨a, -, -, -⟩ := ht_idx hS hS6 hM hh (show i < ht_n S M h by omega)
      have hin : z_in (nI h * nI S + nI i) 24 := by
        rw [pk_mul, nI_add]
        exact e_in (by omega) (by omega)
      have hcl : f8 (Int32.toNatClampNeg (nI h * nI S + nI i)) = nI (E (h * S + i)) := by
        rw [pk_mul, nI_add, e_cl (n := h * S + i) (by omega), h8 _ a]
      by_cases d : nI (E (h * S + i)) = v
      · exact Or.inl ⟨⟨i, Nat.le_refl _, by omega, d.symm⟩, e_b hs (e_n nle (e_p hin (e_p (by rw [hcl]; exact d) rfl)))⟩
      · rcases I with ⟨⟨j, j1, j2⟩, I2⟩ | ⟨I1, I2⟩
        · exact Or.inl ⟨⟨j, by omega, j2⟩, e_b hs (e_n nle (e_p hin (e_n (by rw [hcl]; exact d) I2)))⟩
        · exact Or.inr ⟨fun ⟨j, j1, j2, j3⟩ => by
            by_cases q : j = i
            · subst q; exact d j3.symm
            · exact I1 ⟨j, by omega, j2, j3⟩, e_b hs (e_n nle (e_p hin (e_n (by rw [hcl]; exact d) I2)))⟩
theorem ht_isIn1 {N R S M h : Nat} {E : Nat → Nat} {f2 : Nat → Int32} {v : Int32} (hN : 60000 ≤ N) (hR : R ≤ 24) (hS : 2 ≤ S) (hS6 : S ≤ 6) (hMR : M ≤ R) (h2 : ht_r M E f2) (hb : ht_b R M E) (hh : h < ht_H S M) : (ht_is S M E h v ∧ q_X1_isIn N (nI h) v (nI S) (nI M) (nI (ht_H S M)) f2 = some 1) ∨ (¬ ht_is S M E h v ∧ q_X1_isIn N (nI h) v (nI S) (nI M) (nI (ht_H S M)) f2 = some 0) := by
  unfold q_X1_isIn
  rcases ht_isIn1_L (N := N) (v := v) hR hS hS6 hMR h2 hb hh N 0 (Nat.zero_le _) (by omega) with ⟨⟨j, -, a⟩, b⟩ | ⟨a, b⟩
  · exact Or.inl ⟨⟨j, a⟩, e_b b rfl⟩
  · exact Or.inr ⟨fun ⟨j, q⟩ => a ⟨j, Nat.zero_le _, q⟩, e_b b rfl⟩
theorem ht_isIn5 {N R S M h : Nat} {E : Nat → Nat} {f8 : Nat → Int32} {v : Int32} (hN : 60000 ≤ N) (hR : R ≤ 24) (hS : 2 ≤ S) (hS6 : S ≤ 6) (hM1 : 1 ≤ M) (hMR : M ≤ R) (h8 : ht_r M E f8) (hb : ht_b R M E) (hh : h < ht_H S M) : (ht_is S M E h v ∧ Option.bind (q_X5_isIn_L19 N (nI h) v (nI S) (nI M) (ht_B S M E) f8 N 0) (Sum.elim (fun r6 => (some r6)) (fun _ => (some 0))) = some 1) ∨ (¬ ht_is S M E h v ∧ Option.bind (q_X5_isIn_L19 N (nI h) v (nI S) (nI M) (ht_B S M E) f8 N 0) (Sum.elim (fun r6 => (some r6)) (fun _ => (some 0))) = some 0) := by
  have n6 : ht_n S M h ≤ S := Nat.min_le_left _ _
  rcases ht_isIn5_L (N := N) (v := v) hR hS hS6 hM1 hMR h8 hb hh N 0 (Nat.zero_le _) (by omega) with ⟨⟨j, -, a⟩, b⟩ | ⟨a, b⟩
  · exact Or.inl ⟨⟨j, a⟩, e_b b rfl⟩
  · exact Or.inr ⟨fun ⟨j, q⟩ => a ⟨j, Nat.zero_le _, q⟩, e_b b rfl⟩
theorem ht_is_u {S M h : Nat} {E : Nat → Nat} {v : Int32} {R : Nat} (hR : R ≤ 24) (hS : 2 ≤ S) (hS6 : S ≤ 6) (hMR : M ≤ R) (hb : ht_b R M E) (hj : ht_inj M E) (hh : h < ht_H S M) {k : Nat} (hk : k < M) (e : v = nI (E k)) (h1 : ht_is S M E h v) : k / S = h ∧ (M % S = 1 → k < M - 1) := by
  obtain ⟨i, i1, i2⟩ := h1
  obtain ⟨a, b, c, -⟩ := ht_idx hS hS6 (show M ≤ 24 by omega) hh i1
  have x1 := hb _ a
  have x2 := hb _ hk
  have : E k = E (h * S + i) := (nI_eq (by omega) (by omega)).mp (e.symm.trans i2)
  have hki := hj _ _ hk a this
  rw [hki]
  refine ⟨?_, b⟩
  rcases ht_S hS hS6 with e | e | e | e | e <;> subst e <;> omega
/-! heat -/
theorem ht_hof1 {N R S M : Nat} {E : Nat → Nat} {f2 : Nat → Int32} {v g : Int32} (hN : 60000 ≤ N) (hR : R ≤ 24) (hS : 2 ≤ S) (hS6 : S ≤ 6) (hMR : M ≤ R) (h2 : ht_r M E f2) (hb : ht_b R M E) (hg : ¬ g = 0) : ∀ (m i : Nat), i ≤ ht_H S M → ht_H S M - i < m → (∃ h, h < ht_H S M ∧ ht_is S M E h v ∧ q_X1_heatOf_L2 N v g (nI S) (nI M) (nI (ht_H S M)) f2 m (nI i) = some (Sum.inl (nI h))) ∨ ((∀ h, i ≤ h → h < ht_H S M → ¬ ht_is S M E h v) ∧ q_X1_heatOf_L2 N v g (nI S) (nI M) (nI (ht_H S M)) f2 m (nI i) = some (Sum.inr ())) := by
  have h12 := ht_H12 hS hS6 (show M ≤ 24 by omega)
  intro m
  induction m with
  | zero => intro i _ h; omega
  | succ m ih =>
    intro i hi hm
    rw [q_X1_heatOf_L2, nI_1]
    by_cases e : i = ht_H S M
    · exact Or.inr ⟨fun h a b => by omega, e_n hg (e_p (e_le (by omega) (by omega)) rfl)⟩
    · have nle : ¬ nI (ht_H S M) ≤ nI i := e_nle (by omega) (by omega)
      rcases ht_isIn1 (N := N) (v := v) hN hR hS hS6 hMR h2 hb (show i < ht_H S M by omega) with ⟨a, b⟩ | ⟨a, b⟩
      · exact Or.inl ⟨i, by omega, a, e_n hg (e_n nle (e_b b (e_n e_10 rfl)))⟩
      · rcases ih (i + 1) (by omega) (by omega) with ⟨h, p1, p2, p3⟩ | ⟨p1, p2⟩
        · exact Or.inl ⟨h, p1, p2, e_n hg (e_n nle (e_b b (e_p rfl p3)))⟩
        · exact Or.inr ⟨fun h q1 q2 => by
            by_cases q : h = i
            · subst q; exact a
            · exact p1 h (by omega) q2, e_n hg (e_n nle (e_b b (e_p rfl p2)))⟩
theorem ht_hof5 {N S M : Nat} {E : Nat → Nat} {f8 : Nat → Int32} {v y10 : Int32} (hS : 2 ≤ S) (hS6 : S ≤ 6) (hM : M ≤ 24) (h8 : ht_r M E f8) : ∀ (m i : Nat), i ≤ M → M - i < m → (∃ k, k < M ∧ v = nI (E k) ∧ ((v = y10 ∧ q_X5_heat_L11 N v (nI S) (nI M) y10 f8 m (nI i) = some (Sum.inl (-1))) ∨ (¬ v = y10 ∧ q_X5_heat_L11 N v (nI S) (nI M) y10 f8 m (nI i) = some (Sum.inl (nI (k / S)))))) ∨ ((∀ k, i ≤ k → k < M → ¬ v = nI (E k)) ∧ q_X5_heat_L11 N v (nI S) (nI M) y10 f8 m (nI i) = some (Sum.inr ())) := by
  have s0 : ¬ nI S = 0 := nI_ne0 (by omega) (by omega)
  intro m
  induction m with
  | zero => intro i _ h; omega
  | succ m ih =>
    intro i hi hm
    rw [q_X5_heat_L11, nI_1]
    by_cases e : i = M
    · exact Or.inr ⟨fun h a b => by omega, e_p (e_le (by omega) (by omega)) rfl⟩
    · have nle : ¬ nI M ≤ nI i := e_nle (by omega) (by omega)
      have hin : z_in (nI i) 24 := e_in (by omega) (by omega)
      have hcl : f8 (Int32.toNatClampNeg (nI i)) = nI (E i) := by
        rw [e_cl (n := i) (by omega), h8 i (by omega)]
      by_cases d : nI (E i) = v
      · by_cases b : v = y10
        · exact Or.inl ⟨i, by omega, d.symm, Or.inl ⟨b, e_n nle (e_p hin (e_p (by rw [hcl]; exact d) (e_p b rfl)))⟩⟩
        · refine Or.inl ⟨i, by omega, d.symm, Or.inr ⟨b, e_n nle (e_p hin (e_p (by rw [hcl]; exact d) (e_n b (e_n s0 ?_))))⟩⟩
          rw [e_div (by omega) (by omega) (by omega)]
      · rcases ih (i + 1) (by omega) (by omega) with ⟨k, k1, k2, k3⟩ | ⟨p1, p2⟩
        · refine Or.inl ⟨k, k1, k2, ?_⟩
          rcases k3 with ⟨a, b⟩ | ⟨a, b⟩
          · exact Or.inl ⟨a, e_n nle (e_p hin (e_n (by rw [hcl]; exact d) b))⟩
          · exact Or.inr ⟨a, e_n nle (e_p hin (e_n (by rw [hcl]; exact d) b))⟩
        · exact Or.inr ⟨fun k q1 q2 => by
            by_cases q : k = i
            · subst q; exact fun z => d z.symm
            · exact p1 k (by omega) q2, e_n nle (e_p hin (e_n (by rw [hcl]; exact d) p2))⟩
theorem P_heat {N : Nat} (hN : 60000 ≤ N) {x1_5 : Int32} {x1_6 : Int32} {x1_7 : Int32} {x1_8 : Int32} {x1_9 : Int32} {x1_10 : Int32} {x1_11 : Int32} {x1_12 : Int32} {x1_13 : Int32} {x1_14 : Int32} {x1_15 : Int32} {f1_0 : (Nat → Int32)} {f1_1 : (Nat → Int32)} {f1_2 : (Nat → Int32)} {f1_3 : (Nat → Int32)} {V1_4 : (Nat → Nat → Int32)} {x5_1 : Int32} {x5_3 : Int32} {x5_4 : Int32} {x5_5 : Int32} {x5_6 : Int32} {x5_7 : Int32} {x5_9 : Int32} {x5_10 : Int32} {x5_14 : Int32} {f5_0 : (Nat → Int32)} {f5_2 : (Nat → Int32)} {f5_8 : (Nat → Int32)} {f5_11 : (Nat → Int32)} {f5_12 : (Nat → Int32)} {f5_13 : (Nat → Int32)} {f5_43 : (Nat → Int32)} (h : i_H x1_5 x1_6 x1_7 x1_8 x1_9 x1_10 x1_11 x1_12 x1_13 x1_14 x1_15 f1_0 f1_1 f1_2 f1_3 V1_4 x5_1 x5_3 x5_4 x5_5 x5_6 x5_7 x5_9 x5_10 x5_14 f5_0 f5_2 f5_8 f5_11 f5_12 f5_13 f5_43) (v1 : Int32) : ∃ (o1 : Int32) (o2 : Int32), q_X1_heatOf N v1 x1_7 x1_9 x1_10 x1_11 f1_2 = some o1 ∧ q_X5_heat N v1 x5_4 x5_5 x5_9 x5_10 f5_8 = some o2 ∧ o1 = o2 ∧ i_H x1_5 x1_6 x1_7 x1_8 x1_9 x1_10 x1_11 x1_12 x1_13 x1_14 x1_15 f1_0 f1_1 f1_2 f1_3 V1_4 x5_1 x5_3 x5_4 x5_5 x5_6 x5_7 x5_9 x5_10 x5_14 f5_0 f5_2 f5_8 f5_11 f5_12 f5_13 f5_43 := by
  have hh := h
  obtain ⟨R, J, hR, hJ, e1, e2, e3, e4, e5, e6, e7, e8, e9, hc⟩ := h
  subst e9
  suffices H : ∃ o : Int32, q_X1_heatOf N v1 x1_7 x1_9 x1_10 x1_11 f1_2 = some o ∧ q_X5_heat N v1 x1_7 x5_5 x5_9 x5_10 f5_8 = some o by
    obtain ⟨o, a, b⟩ := H
    exact ⟨o, o, a, b, rfl, hh⟩
  unfold q_X1_heatOf q_X5_heat
  by_cases g : x1_7 = 0
  · refine ⟨-1, ?_, e_p g rfl⟩
    obtain ⟨N', rfl⟩ : ∃ N', N = N' + 1 := ⟨N - 1, by omega⟩
    rw [q_X1_heatOf_L2]
    exact e_b (e_p g rfl) rfl
  · rcases hc with ⟨q, -⟩ | hc
    · exact absurd q g
    obtain ⟨S, M, rd, Bt, E, hS, hS6, hM, hMR, hrd, hrd2, hB, ⟨c1, c2, c3, c4, c5, c6, c7, c8, c9, c10⟩, h2, h8, hb, hj, h11, hw, hw2, hV, hV2⟩ := hc
    subst c3 c4 c5 c6 c7 c8 c9
    have A := ht_hof1 (N := N) (v := v1) hN hR hS hS6 hMR h2 hb g N 0 (Nat.zero_le _) (by have := ht_H12 hS hS6 (show M ≤ 24 by omega); omega)
    have B := ht_hof5 (N := N) (v := v1) (y10 := ht_B S M E) hS hS6 (show M ≤ 24 by omega) h8 N 0 (Nat.zero_le _) (by omega)
    rcases B with ⟨k, k1, k2, k3⟩ | ⟨k1, k2⟩
    · have Ek := hb k k1
      rcases k3 with ⟨b1, b2⟩ | ⟨b1, b2⟩
      · rcases A with ⟨h', p1, p2, p3⟩ | ⟨p1, p2⟩
        · have u := ht_is_u hR hS hS6 hMR hb hj p1 k1 k2 p2
          unfold ht_B at b1
          by_cases c : M % S = 1
          · rw [if_pos c] at b1
            have u2 := ht_is_u hR hS hS6 hMR hb hj p1 (show M - 1 < M by omega) b1 p2
            have := u2.2 c
            omega
          · rw [if_neg c, k2] at b1
            exact absurd b1 (e_m1 (by omega))
        · exact ⟨-1, e_b p2 rfl, e_n g (e_b b2 rfl)⟩
      · have kb : M % S = 1 → k < M - 1 := fun c => by
          by_cases q : k = M - 1
          · refine absurd ?_ b1
            unfold ht_B
            rw [if_pos c, k2, q]
          · omega
        obtain ⟨x1, x2, x3⟩ := ht_idx2 hS hS6 (show M ≤ 24 by omega) k1 kb
        rcases A with ⟨h', p1, p2, p3⟩ | ⟨p1, p2⟩
        · have u := ht_is_u hR hS hS6 hMR hb hj p1 k1 k2 p2
          rw [← u.1] at p3
          exact ⟨nI (k / S), e_b p3 rfl, e_n g (e_b b2 rfl)⟩
        · exact absurd ⟨k % S, x2, by rw [x3]; exact k2⟩ (p1 (k / S) (Nat.zero_le _) x1)
    · rcases A with ⟨h', p1, ⟨i, i1, i2⟩, p3⟩ | ⟨p1, p2⟩
      · exact absurd i2 (k1 _ (Nat.zero_le _) (ht_idx hS hS6 (show M ≤ 24 by omega) p1 i1).1)
      · exact ⟨-1, e_b p2 rfl, e_n g (e_b k2 rfl)⟩
theorem P_lane {N : Nat} (hN : 60000 ≤ N) {x1_5 : Int32} {x1_6 : Int32} {x1_7 : Int32} {x1_8 : Int32} {x1_9 : Int32} {x1_10 : Int32} {x1_11 : Int32} {x1_12 : Int32} {x1_13 : Int32} {x1_14 : Int32} {x1_15 : Int32} {f1_0 : (Nat → Int32)} {f1_1 : (Nat → Int32)} {f1_2 : (Nat → Int32)} {f1_3 : (Nat → Int32)} {V1_4 : (Nat → Nat → Int32)} {x5_1 : Int32} {x5_3 : Int32} {x5_4 : Int32} {x5_5 : Int32} {x5_6 : Int32} {x5_7 : Int32} {x5_9 : Int32} {x5_10 : Int32} {x5_14 : Int32} {f5_0 : (Nat → Int32)} {f5_2 : (Nat → Int32)} {f5_8 : (Nat → Int32)} {f5_11 : (Nat → Int32)} {f5_12 : (Nat → Int32)} {f5_13 : (Nat → Int32)} {f5_43 : (Nat → Int32)} (h : i_H x1_5 x1_6 x1_7 x1_8 x1_9 x1_10 x1_11 x1_12 x1_13 x1_14 x1_15 f1_0 f1_1 f1_2 f1_3 V1_4 x5_1 x5_3 x5_4 x5_5 x5_6 x5_7 x5_9 x5_10 x5_14 f5_0 f5_2 f5_8 f5_11 f5_12 f5_13 f5_43) (v1 : Int32) (v2 : Int32) : ∃ (o1 : Int32) (o2 : Int32), q_X1_runnerAt N v1 v2 x1_9 x1_10 x1_11 f1_2 = some o1 ∧ q_X5_lane N v1 v2 x5_5 x5_7 x5_9 x5_10 f5_8 = some o2 ∧ o1 = o2 ∧ i_H x1_5 x1_6 x1_7 x1_8 x1_9 x1_10 x1_11 x1_12 x1_13 x1_14 x1_15 f1_0 f1_1 f1_2 f1_3 V1_4 x5_1 x5_3 x5_4 x5_5 x5_6 x5_7 x5_9 x5_10 x5_14 f5_0 f5_2 f5_8 f5_11 f5_12 f5_13 f5_43 := by
  have hh := h
  obtain ⟨R, J, hR, hJ, e1, e2, e3, e4, e5, e6, e7, e8, e9, hc⟩ := h
  suffices H : ∃ o : Int32, q_X1_runnerAt N v1 v2 x1_9 x1_10 x1_11 f1_2 = some o ∧ q_X5_lane N v1 v2 x5_5 x5_7 x5_9 x5_10 f5_8 = some o by
    obtain ⟨o, a, b⟩ := H
    exact ⟨o, o, a, b, rfl, hh⟩
  unfold q_X5_lane
  rcases hc with ⟨g1, g2, g3, g4, g5⟩ | hc
  · subst g3 g4
    refine ⟨-1, ?_, ?_⟩
    · unfold q_X1_runnerAt
      have : q_X1_isHeat N v1 0 = some 0 := by
        unfold q_X1_isHeat
        rcases e_or v1 with h | ⟨k, k1, k2⟩
        · exact e_p h rfl
        · subst k2
          exact e_n (nI_pos k1) (e_p (e_le (a := 0) (by omega) k1) rfl)
      exact e_b this (e_p rfl rfl)
    · have : q_X5_isHeat N v1 x5_5 0 x5_9 x5_10 = some 0 := by
        unfold q_X5_isHeat
        exact e_p (by decide) rfl
      exact e_b this (e_p rfl rfl)
  · obtain ⟨S, M, rd, Bt, E, hS, hS6, hM, hMR, hrd, hrd2, hB, ⟨c1, c2, c3, c4, c5, c6, c7, c8, c9, c10⟩, h2, h8, hb, hj, h11, hw, hw2, hV, hV2⟩ := hc
    subst c2 c3 c4 c5 c6 c7 c8 c9
    rcases ht_isH (N := N) (v := v1) hR hS hS6 hM hMR hrd hrd2 hb with ⟨h, p1, p2, p3, p4⟩ | ⟨p3, p4⟩
    · subst p2
      have n6 : ht_n S M h ≤ S := Nat.min_le_left _ _
      have hs := ht_size5 (N := N) hR hS hS6 hM hMR hb p1
      rcases e_or v2 with q | ⟨i, k1, k2⟩
      · refine ⟨-1, ?_, e_b p4 (e_n e_10 (e_b hs (e_b (ht_in_neg q) (e_p rfl rfl))))⟩
        unfold q_X1_runnerAt
        exact e_b p3 (e_n e_10 (e_p q rfl))
      · subst k2
        have hi := ht_in_v (N := N) k1 (show ht_n S M h < 2 ^ 31 by omega)
        by_cases c : i < ht_n S M h
        · rw [if_pos c] at hi
          have a := (ht_idx hS hS6 (show M ≤ 24 by omega) p1 c).1
          refine ⟨_, ht_at1 hS hS6 (by omega) h2 p1 c, e_b p4 (e_n e_10 (e_b hs (e_b hi (e_n e_10 ?_))))⟩
          rw [pk_mul, nI_add]
          refine e_p (e_in (by omega) (by omega)) ?_
          rw [e_cl (n := h * S + i) (by omega), h8 _ a]
        · rw [if_neg c] at hi
          exact ⟨-1, ht_at0 hS hS6 (by omega) p1 (by omega) k1, e_b p4 (e_n e_10 (e_b hs (e_b hi (e_p rfl rfl))))⟩
    · refine ⟨-1, ?_, e_b p4 (e_p rfl rfl)⟩
      unfold q_X1_runnerAt
      exact e_b p3 (e_p rfl rfl)

/-! ===== pure rows: heats, decided by votes ===== -/
def sm (g : Nat → Nat) : Nat → Nat
  | 0 => 0
  | n + 1 => sm g n + g n
theorem sm_add {g h : Nat → Nat} : ∀ {n : Nat}, sm (fun i => g i + h i) n = sm g n + sm h n
  | 0 => rfl
  | n + 1 => by
    show sm (fun i => g i + h i) n + (g n + h n) = sm g n + g n + (sm h n + h n)
    rw [sm_add (n := n)]
    omega
theorem sm_0 {g : Nat → Nat} : ∀ {n : Nat}, (∀ i, i < n → g i = 0) → sm g n = 0
  | 0, _ => rfl
  | n + 1, h => by
    show sm g n + g n = 0
    rw [sm_0 (fun i hi => h i (by omega)), h n (by omega)]
theorem sm_1 {g : Nat → Nat} {k : Nat} (hk : g k = 1) : ∀ {n : Nat}, k < n → (∀ i, i < n → i ≠ k → g i = 0) → sm g n = 1
  | 0, h, _ => absurd h (Nat.not_lt_zero _)
  | n + 1, h, h0 => by
    show sm g n + g n = 1
    by_cases e : n = k
    · rw [e, hk, sm_0 (fun i hi => h0 i (by omega) (by omega))]
    · rw [sm_1 hk (by omega) (fun i hi => h0 i (by omega)), h0 n (by omega) e]
theorem sm_congr {g h : Nat → Nat} : ∀ {n : Nat}, (∀ i, i < n → g i = h i) → sm g n = sm h n
  | 0, _ => rfl
  | n + 1, q => by
    show sm g n + g n = sm h n + h n
    rw [sm_congr (fun i hi => q i (by omega)), q n (by omega)]
theorem ct_step {p : Nat → Bool} {n : Nat} : ct p (n + 1) = ct p n + if p n = true then 1 else 0 := rfl
theorem ct_sm {n : Nat} {c : Nat → Bool} {q : Nat → Nat → Bool} : ∀ {J : Nat}, (∀ j, j < J → c j = true → ∃ i, i < n ∧ q i j = true ∧ ∀ k, k < n → q k j = true → k = i) → (∀ j, j < J → ¬ c j = true → ∀ i, i < n → ¬ q i j = true) → sm (fun i => ct (q i) J) n = ct c J
  | 0, _, _ => sm_0 (fun _ _ => rfl)
  | J + 1, h1, h0 => by
    have e : sm (fun i => ct (q i) (J + 1)) n = sm (fun i => ct (q i) J) n + sm (fun i => if q i J = true then 1 else 0) n := by
      rw [← sm_add]
      exact sm_congr (fun i _ => ct_step)
    rw [e, ct_sm (J := J) (fun j hj => h1 j (by omega)) (fun j hj => h0 j (by omega)), ct_step]
    by_cases d : c J = true
    · obtain ⟨i, i1, i2, i3⟩ := h1 J (by omega) d
      rw [if_pos d, sm_1 (k := i) (by rw [if_pos i2]) i1 (fun k hk hne => by
        rw [if_neg (fun z => hne (i3 k hk z))])]
    · rw [if_neg d, sm_0 (fun i hi => by rw [if_neg (h0 J (by omega) d i hi)])]
theorem ct_ext {p q : Nat → Bool} : ∀ {n : Nat}, (∀ k, k < n → p k = q k) → ct p n = ct q n
  | 0, _ => rfl
  | n + 1, h => by rw [ct_step, ct_step, ct_ext (fun k hk => h k (by omega)), h n (by omega)]
/-- one of the heat is of the town -/
def ht_tw (S M : Nat) (E : Nat → Nat) (h : Nat) (f : Nat → Int32) (t : Int32) : Prop := ∃ i, i < ht_n S M h ∧ f (E (h * S + i)) = t
theorem ht_tw1 {N R S M h : Nat} {E : Nat → Nat} {f0 f0' f2 : Nat → Int32} {t : Int32} (hN : 60000 ≤ N) (hR : R ≤ 24) (hS : 2 ≤ S) (hS6 : S ≤ 6) (hMR : M ≤ R) (h2 : ht_r M E f2) (hb : ht_b R M E) (hh : h < ht_H S M) (h0 : ∀ k, k < R → f0 k = f0' k) : (ht_tw S M E h f0' t ∧ q_X1_hasTown N (nI h) t (nI S) (nI M) (nI (ht_H S M)) f0 f2 = some 1) ∨ (¬ ht_tw S M E h f0' t ∧ q_X1_hasTown N (nI h) t (nI S) (nI M) (nI (ht_H S M)) f0 f2 = some 0) := by
  have n6 : ht_n S M h ≤ S := Nat.min_le_left _ _
  have hM : M ≤ 24 := by omega
  have L : ∀ (m i : Nat), i ≤ ht_n S M h → ht_n S M h - i < m → ((∃ j, i ≤ j ∧ j < ht_n S M h ∧ f0' (E (h * S + j)) = t) ∧ q_X1_hasTown_L2 N (nI h) t (nI S) (nI M) (nI (ht_H S M)) f0 f2 m (nI i) = some (Sum.inl 1)) ∨ ((¬ ∃ j, i ≤ j ∧ j < ht_n S M h ∧ f0' (E (h * S + j)) = t) ∧ q_X1_hasTown_L2 N (nI h) t (nI S) (nI M) (nI (ht_H S M)) f0 f2 m (nI i) = some (Sum.inr ())) := by
    intro m
    induction m with
    | zero => intro i _ h; omega
    | succ m ih =>
      intro i hi hm
      rw [q_X1_hasTown_L2, nI_1]
      have hs := ht_size1 (N := N) hS hS6 hM hh
      by_cases e : i = ht_n S M h
      · exact Or.inr ⟨fun ⟨j, j1, j2, _⟩ => by omega, e_b hs (e_p (e_le (by omega) (by omega)) rfl)⟩
      · have nle : ¬ nI (ht_n S M h) ≤ nI i := e_nle (by omega) (by omega)
        have ci : i < ht_n S M h := by omega
        have a := (ht_idx hS hS6 hM hh ci).1
        have hE := hb _ a
        have at1 := ht_at1 (N := N) hS hS6 hM h2 hh ci
        have p0 : ¬ nI (E (h * S + i)) < 0 := nI_pos (by omega)
        have hin : z_in (nI (E (h * S + i))) 24 := e_in (by omega) (by omega)
        have cl : f0 (Int32.toNatClampNeg (nI (E (h * S + i)))) = f0' (E (h * S + i)) := by
          rw [e_cl (by omega), h0 _ hE]
        by_cases d : f0' (E (h * S + i)) = t
        · exact Or.inl ⟨⟨i, Nat.le_refl _, ci, d⟩, e_b hs (e_n nle (e_b at1 (e_n p0 (e_p hin (e_p (by rw [cl]; exact d) rfl)))))⟩
        · rcases ih (i + 1) (by omega) (by omega) with ⟨⟨j, j1, j2⟩, I2⟩ | ⟨I1, I2⟩
          · exact Or.inl ⟨⟨j, by omega, j2⟩, e_b hs (e_n nle (e_b at1 (e_n p0 (e_p hin (e_n (by rw [cl]; exact d) I2)))))⟩
          · exact Or.inr ⟨fun ⟨j, j1, j2, j3⟩ => by
              by_cases q : j = i
              · subst q; exact d j3
              · exact I1 ⟨j, by omega, j2, j3⟩, e_b hs (e_n nle (e_b at1 (e_n p0 (e_p hin (e_n (by rw [cl]; exact d) I2)))))⟩
  unfold q_X1_hasTown
  rcases L N 0 (Nat.zero_le _) (by omega) with ⟨⟨j, -, a⟩, b⟩ | ⟨a, b⟩
  · exact Or.inl ⟨⟨j, a⟩, e_b b rfl⟩
  · exact Or.inr ⟨fun ⟨j, q⟩ => a ⟨j, Nat.zero_le _, q⟩, e_b b rfl⟩
theorem ht_co5 {N R S M h j : Nat} {E : Nat → Nat} {f0 f2 f8 f13 : Nat → Int32} (hN : 60000 ≤ N) (hR : R ≤ 24) (hS : 2 ≤ S) (hS6 : S ≤ 6) (hM1 : 1 ≤ M) (hMR : M ≤ R) (h8 : ht_r M E f8) (hb : ht_b R M E) (hh : h < ht_H S M) (hj : j < 9) : (ht_tw S M E h f0 (f2 j) ∧ q_X5_counts N (nI j) (nI h) (nI S) (nI M) (ht_B S M E) f0 f2 f8 f13 = some 0) ∨ (¬ ht_tw S M E h f0 (f2 j) ∧ f13 (24 * j + h) = -1 ∧ q_X5_counts N (nI j) (nI h) (nI S) (nI M) (ht_B S M E) f0 f2 f8 f13 = some 0) ∨ (¬ ht_tw S M E h f0 (f2 j) ∧ ¬ f13 (24 * j + h) = -1 ∧ q_X5_counts N (nI j) (nI h) (nI S) (nI M) (ht_B S M E) f0 f2 f8 f13 = some 1) := by
  have n6 : ht_n S M h ≤ S := Nat.min_le_left _ _
  have hM : M ≤ 24 := by omega
  have h12 := ht_H12 hS hS6 hM
  have hs := ht_size5 (N := N) hR hS hS6 hM1 hMR hb hh
  have hjin : z_in (nI j) 9 := e_in hj (by omega)
  have L : ∀ (m i : Nat), i ≤ ht_n S M h → ht_n S M h - i < m → ((∃ k, i ≤ k ∧ k < ht_n S M h ∧ f0 (E (h * S + k)) = f2 j) ∧ q_X5_counts_L2 N (nI j) (nI h) (nI S) (nI M) (ht_B S M E) f0 f2 f8 m (nI i) = some (Sum.inl 0)) ∨ ((¬ ∃ k, i ≤ k ∧ k < ht_n S M h ∧ f0 (E (h * S + k)) = f2 j) ∧ q_X5_counts_L2 N (nI j) (nI h) (nI S) (nI M) (ht_B S M E) f0 f2 f8 m (nI i) = some (Sum.inr ())) := by
    intro m
    induction m with
    | zero => intro i _ h; omega
    | succ m ih =>
      intro i hi hm
      rw [q_X5_counts_L2, nI_1]
      by_cases e : i = ht_n S M h
      · exact Or.inr ⟨fun ⟨j, j1, j2, _⟩ => by omega, e_b hs (e_p (e_le (by omega) (by omega)) rfl)⟩
      · have nle : ¬ nI (ht_n S M h) ≤ nI i := e_nle (by omega) (by omega)
        have ci : i < ht_n S M h := by omega
        have a := (ht_idx hS hS6 hM hh ci).1
        have hE := hb _ a
        have hin : z_in (nI h * nI S + nI i) 24 := by
          rw [pk_mul, nI_add]
          exact e_in (by omega) (by omega)
        have hcl : f8 (Int32.toNatClampNeg (nI h * nI S + nI i)) = nI (E (h * S + i)) := by
          rw [pk_mul, nI_add, e_cl (n := h * S + i) (by omega), h8 _ a]
        have hin2 : z_in (f8 (Int32.toNatClampNeg (nI h * nI S + nI i))) 24 := by
          rw [hcl]
          exact e_in (by omega) (by omega)
        have cl : f0 (Int32.toNatClampNeg (f8 (Int32.toNatClampNeg (nI h * nI S + nI i)))) = f0 (E (h * S + i)) := by
          rw [hcl, e_cl (n := E (h * S + i)) (by omega)]
        have clj : f2 (Int32.toNatClampNeg (nI j)) = f2 j := by rw [e_cl (by omega)]
        by_cases d : f0 (E (h * S + i)) = f2 j
        · exact Or.inl ⟨⟨i, Nat.le_refl _, ci, d⟩, e_b hs (e_n nle (e_p hin (e_p hin2 (e_p hjin (e_p (by rw [cl, clj]; exact d) rfl)))))⟩
        · rcases ih (i + 1) (by omega) (by omega) with ⟨⟨k, j1, j2⟩, I2⟩ | ⟨I1, I2⟩
          · exact Or.inl ⟨⟨k, by omega, j2⟩, e_b hs (e_n nle (e_p hin (e_p hin2 (e_p hjin (e_n (by rw [cl, clj]; exact d) I2)))))⟩
          · exact Or.inr ⟨fun ⟨k, j1, j2, j3⟩ => by
              by_cases q : k = i
              · subst q; exact d j3
              · exact I1 ⟨k, by omega, j2, j3⟩, e_b hs (e_n nle (e_p hin (e_p hin2 (e_p hjin (e_n (by rw [cl, clj]; exact d) I2)))))⟩
  have ix : (24 : Int32) * nI j + nI h = nI (24 * j + h) := by
    rw [← nI_add, ← pk_mul]
    rfl
  have hx : z_in ((24 : Int32) * nI j + nI h) 216 := by
    rw [ix]
    exact e_in (by omega) (by omega)
  have clx : f13 (Int32.toNatClampNeg ((24 : Int32) * nI j + nI h)) = f13 (24 * j + h) := by rw [ix, e_cl (by omega)]
  unfold q_X5_counts
  rcases L N 0 (Nat.zero_le _) (by omega) with ⟨⟨k, -, a⟩, b⟩ | ⟨a, b⟩
  · exact Or.inl ⟨⟨k, a⟩, e_b b rfl⟩
  · have no : ¬ ht_tw S M E h f0 (f2 j) := fun ⟨k, q⟩ => a ⟨k, Nat.zero_le _, q⟩
    by_cases d : f13 (24 * j + h) = -1
    · exact Or.inr (Or.inl ⟨no, d, e_b b (e_p hx (e_p (by rw [clx]; exact d) rfl))⟩)
    · exact Or.inr (Or.inr ⟨no, d, e_b b (e_p hx (e_n (by rw [clx]; exact d) rfl))⟩)
section
variable {N R J S M h : Nat} {E : Nat → Nat} {f0 f0' f1 f2 f2' f8 f13 : Nat → Int32} {V : Nat → Nat → Int32}
noncomputable def ht_cb (S M : Nat) (E : Nat → Nat) (h : Nat) (f0 f2 f13 : Nat → Int32) (j : Nat) : Bool := @decide (¬ ht_tw S M E h f0 (f2 j) ∧ ¬ f13 (24 * j + h) = -1) (Classical.propDecidable _)
noncomputable def ht_qb (S M : Nat) (E : Nat → Nat) (h : Nat) (f0 f2 f13 : Nat → Int32) (i j : Nat) : Bool := @decide (¬ ht_tw S M E h f0 (f2 j) ∧ f13 (24 * j + h) = nI (E (h * S + i))) (Classical.propDecidable _)
theorem ht_cb_t {j : Nat} : ht_cb S M E h f0 f2 f13 j = true ↔ ¬ ht_tw S M E h f0 (f2 j) ∧ ¬ f13 (24 * j + h) = -1 := @decide_eq_true_iff _ (Classical.propDecidable _)
theorem ht_qb_t {i j : Nat} : ht_qb S M E h f0 f2 f13 i j = true ↔ ¬ ht_tw S M E h f0 (f2 j) ∧ f13 (24 * j + h) = nI (E (h * S + i)) := @decide_eq_true_iff _ (Classical.propDecidable _)
theorem ht_vf1 {i : Nat} (hN : 60000 ≤ N) (hR : R ≤ 24) (hJ : J ≤ 9) (hS : 2 ≤ S) (hS6 : S ≤ 6) (hMR : M ≤ R) (h2 : ht_r M E f2) (hb : ht_b R M E) (hh : h < ht_H S M) (h0 : ∀ k, k < R → f0 k = f0' k) (h1 : ∀ k, k < J → f1 k = f2' k) (hV : ∀ j, j < 9 → ∀ h, h < 12 → V j h = f13 (24 * j + h)) : q_X1_votesFor N (nI h) (nI (E (h * S + i))) (nI J) (nI S) (nI M) (nI (ht_H S M)) f0 f1 f2 V = some (nI (ct (ht_qb S M E h f0' f2' f13 i) J)) := by
  have h12 := ht_H12 hS hS6 (show M ≤ 24 by omega)
  have L : ∀ (m j : Nat), j ≤ J → J - j < m → q_X1_votesFor_L5 N (nI h) (nI (E (h * S + i))) (nI J) (nI S) (nI M) (nI (ht_H S M)) f0 f1 f2 V m (nI (ct (ht_qb S M E h f0' f2' f13 i) j)) (nI j) = some (nI (ct (ht_qb S M E h f0' f2' f13 i) J)) := by
    intro m
    induction m with
    | zero => intro i _ h; omega
    | succ m ih =>
      intro j hj hm
      rw [q_X1_votesFor_L5, nI_1, nI_1]
      by_cases e : j = J
      · subst e
        exact e_p (e_le (Nat.le_refl _) (by omega)) rfl
      · have nle : ¬ nI J ≤ nI j := e_nle (by omega) (by omega)
        have I := ih (j + 1) (by omega) (by omega)
        have hin : z_in (nI j) 9 := e_in (by omega) (by omega)
        have hin2 : z_in (nI h) 12 := e_in (by omega) (by omega)
        have cj : Int32.toNatClampNeg (nI j) = j := e_cl (by omega)
        have ch : Int32.toNatClampNeg (nI h) = h := e_cl (by omega)
        refine e_n nle (e_p hin (e_p hin2 ?_))
        rw [cj, ch, hV j (by omega) h (by omega), h1 j (by omega)]
        by_cases d : f13 (24 * j + h) = nI (E (h * S + i))
        · refine e_p d ?_
          rcases ht_tw1 (N := N) (t := f2' j) hN hR hS hS6 hMR h2 hb hh h0 with ⟨a, b⟩ | ⟨a, b⟩
          · rw [ct_0 (fun q => (ht_qb_t.mp q).1 a)] at I
            exact e_b b (e_n e_10 I)
          · rw [ct_1 (ht_qb_t.mpr ⟨a, d⟩)] at I
            exact e_b b (e_p rfl I)
        · rw [ct_0 (fun q => d (ht_qb_t.mp q).2)] at I
          exact e_n d I
  unfold q_X1_votesFor
  exact e_b (L N 0 (Nat.zero_le _) (by omega)) rfl
theorem ht_d21 (hN : 60000 ≤ N) (hR : R ≤ 24) (hJ : J ≤ 9) (hS : 2 ≤ S) (hS6 : S ≤ 6) (hM1 : 1 ≤ M) (hMR : M ≤ R) (h8 : ht_r M E f8) (hb : ht_b R M E) (hh : h < ht_H S M) : q_X5_decide_L21 N (nI h) (nI J) (nI S) (nI M) (ht_B S M E) f0' f2' f8 f13 N 0 0 = some (nI (ct (ht_cb S M E h f0' f2' f13) J)) := by
  have L : ∀ (m j : Nat), j ≤ J → J - j < m → q_X5_decide_L21 N (nI h) (nI J) (nI S) (nI M) (ht_B S M E) f0' f2' f8 f13 m (nI (ct (ht_cb S M E h f0' f2' f13) j)) (nI j) = some (nI (ct (ht_cb S M E h f0' f2' f13) J)) := by
    intro m
    induction m with
    | zero => intro i _ h; omega
    | succ m ih =>
      intro j hj hm
      rw [q_X5_decide_L21, nI_1, nI_1]
      by_cases e : j = J
      · subst e
        exact e_p (e_le (Nat.le_refl _) (by omega)) rfl
      · have nle : ¬ nI J ≤ nI j := e_nle (by omega) (by omega)
        have I := ih (j + 1) (by omega) (by omega)
        rcases ht_co5 (N := N) (f0 := f0') (f2 := f2') (f13 := f13) hN hR hS hS6 hM1 hMR h8 hb hh (show j < 9 by omega) with ⟨a, b⟩ | ⟨a, b, c⟩ | ⟨a, b, c⟩
        · rw [ct_0 (fun q => (ht_cb_t.mp q).1 a)] at I
          exact e_n nle (e_b b (e_p rfl I))
        · rw [ct_0 (fun q => (ht_cb_t.mp q).2 b)] at I
          exact e_n nle (e_b c (e_p rfl I))
        · rw [ct_1 (ht_cb_t.mpr ⟨a, b⟩)] at I
          exact e_n nle (e_b c (e_n e_10 I))
  exact L N 0 (Nat.zero_le _) (by omega)
theorem ht_d79 {i : Nat} (hN : 60000 ≤ N) (hR : R ≤ 24) (hJ : J ≤ 9) (hS : 2 ≤ S) (hS6 : S ≤ 6) (hM1 : 1 ≤ M) (hMR : M ≤ R) (h8 : ht_r M E f8) (hb : ht_b R M E) (hh : h < ht_H S M) (hi : i < ht_n S M h) : q_X5_decide_L79 N (nI h) (nI (E (h * S + i))) (nI J) (nI S) (nI M) (ht_B S M E) f0' f2' f8 f13 N 0 0 = some (nI (ct (ht_qb S M E h f0' f2' f13 i) J)) := by
  have h12 := ht_H12 hS hS6 (show M ≤ 24 by omega)
  have hE := hb _ (ht_idx hS hS6 (show M ≤ 24 by omega) hh hi).1
  have L : ∀ (m j : Nat), j ≤ J → J - j < m → q_X5_decide_L79 N (nI h) (nI (E (h * S + i))) (nI J) (nI S) (nI M) (ht_B S M E) f0' f2' f8 f13 m (nI (ct (ht_qb S M E h f0' f2' f13 i) j)) (nI j) = some (nI (ct (ht_qb S M E h f0' f2' f13 i) J)) := by
    intro m
    induction m with
    | zero => intro i _ h; omega
    | succ m ih =>
      intro j hj hm
      rw [q_X5_decide_L79, nI_1, nI_1]
      by_cases e : j = J
      · subst e
        exact e_p (e_le (Nat.le_refl _) (by omega)) rfl
      · have nle : ¬ nI J ≤ nI j := e_nle (by omega) (by omega)
        have I := ih (j + 1) (by omega) (by omega)
        have ix : (24 : Int32) * nI j + nI h = nI (24 * j + h) := by
          rw [← nI_add, ← pk_mul]
          rfl
        have hx : z_in ((24 : Int32) * nI j + nI h) 216 := by
          rw [ix]
          exact e_in (by omega) (by omega)
        have clx : f13 (Int32.toNatClampNeg ((24 : Int32) * nI j + nI h)) = f13 (24 * j + h) := by rw [ix, e_cl (by omega)]
        rcases ht_co5 (N := N) (f0 := f0') (f2 := f2') (f13 := f13) hN hR hS hS6 hM1 hMR h8 hb hh (show j < 9 by omega) with ⟨a, b⟩ | ⟨a, b, c⟩ | ⟨a, b, c⟩
        · rw [ct_0 (fun q => (ht_qb_t.mp q).1 a)] at I
          exact e_n nle (e_b b (e_p rfl I))
        · rw [ct_0 (fun q => e_m1 (a := E (h * S + i)) (by omega) ((ht_qb_t.mp q).2.symm.trans b))] at I
          exact e_n nle (e_b c (e_p rfl I))
        · refine e_n nle (e_b c (e_n e_10 (e_p hx ?_)))
          by_cases d : f13 (24 * j + h) = nI (E (h * S + i))
          · rw [ct_1 (ht_qb_t.mpr ⟨a, d⟩)] at I
            exact e_p (by rw [clx]; exact d) I
          · rw [ct_0 (fun q => d (ht_qb_t.mp q).2)] at I
            exact e_n (by rw [clx]; exact d) I
  exact L N 0 (Nat.zero_le _) (by omega)
theorem ht_c21 (hN : 60000 ≤ N) (hR : R ≤ 24) (hJ : J ≤ 9) (hS : 2 ≤ S) (hS6 : S ≤ 6) (hMR : M ≤ R) (h2 : ht_r M E f2) (hb : ht_b R M E) (hj : ht_inj M E) (hh : h < ht_H S M) (h0 : ∀ k, k < R → f0 k = f0' k) (h1 : ∀ k, k < J → f1 k = f2' k) (hV : ∀ j, j < 9 → ∀ h, h < 12 → V j h = f13 (24 * j + h)) (hV2 : ∀ j, j < 9 → ht_w S M E (fun h => f13 (24 * j + h))) : q_X1_decideByVotes_L21 N (nI h) (nI J) (nI S) (nI M) (nI (ht_H S M)) f0 f1 f2 V N 0 0 = some (nI (ct (ht_cb S M E h f0' f2' f13) J)) := by
  have n6 : ht_n S M h ≤ S := Nat.min_le_left _ _
  have hM : M ≤ 24 := by omega
  have hs := ht_size1 (N := N) hS hS6 hM hh
  have L : ∀ (m i : Nat), i ≤ ht_n S M h → ht_n S M h - i < m → q_X1_decideByVotes_L21 N (nI h) (nI J) (nI S) (nI M) (nI (ht_H S M)) f0 f1 f2 V m (nI (sm (fun i => ct (ht_qb S M E h f0' f2' f13 i) J) i)) (nI i) = some (nI (sm (fun i => ct (ht_qb S M E h f0' f2' f13 i) J) (ht_n S M h))) := by
    intro m
    induction m with
    | zero => intro i _ h; omega
    | succ m ih =>
      intro i hi hm
      rw [q_X1_decideByVotes_L21, nI_1]
      by_cases e : i = ht_n S M h
      · subst e
        exact e_b hs (e_p (e_le (Nat.le_refl _) (by omega)) rfl)
      · have nle : ¬ nI (ht_n S M h) ≤ nI i := e_nle (by omega) (by omega)
        have ci : i < ht_n S M h := by omega
        refine e_b hs (e_n nle (e_b (ht_at1 hS hS6 hM h2 hh ci) (e_b (ht_vf1 hN hR hJ hS hS6 hMR h2 hb hh h0 h1 hV) ?_)))
        rw [nI_add]
        exact ih (i + 1) (by omega) (by omega)
  have e : sm (fun i => ct (ht_qb S M E h f0' f2' f13 i) J) (ht_n S M h) = ct (ht_cb S M E h f0' f2' f13) J := by
    refine ct_sm (fun j hj' hc => ?_) (fun j hj' hc i hi hq => ?_)
    · obtain ⟨a, b⟩ := ht_cb_t.mp hc
      rcases hV2 j (by omega) h hh with c | ⟨i, i1, i2⟩
      · exact absurd c b
      · have i2 : f13 (24 * j + h) = nI (E (h * S + i)) := i2
        refine ⟨i, i1, ht_qb_t.mpr ⟨a, i2⟩, fun k hk hq => ?_⟩
        have q := (ht_qb_t.mp hq).2
        have a1 := (ht_idx hS hS6 hM hh i1).1
        have a2 := (ht_idx hS hS6 hM hh hk).1
        have b1 := hb _ a1
        have b2 := hb _ a2
        have := hj _ _ a2 a1 ((nI_eq (by omega) (by omega)).mp (q.symm.trans i2))
        omega
    · obtain ⟨a, q⟩ := ht_qb_t.mp hq
      have b2 := hb _ (ht_idx hS hS6 hM hh hi).1
      refine hc (ht_cb_t.mpr ⟨a, fun z => e_m1 (a := E (h * S + i)) (by omega) (q.symm.trans z)⟩)
  rw [← e]
  exact L N 0 (Nat.zero_le _) (by omega)
theorem ht_52 {T : Nat} {f3 f12 : Nat → Int32} (hN : 60000 ≤ N) (hR : R ≤ 24) (hJ : J ≤ 9) (hS : 2 ≤ S) (hS6 : S ≤ 6) (hM1 : 1 ≤ M) (hMR : M ≤ R) (h2 : ht_r M E f2) (h8 : ht_r M E f8) (hb : ht_b R M E) (hh : h < ht_H S M) (h0 : ∀ k, k < R → f0 k = f0' k) (h1 : ∀ k, k < J → f1 k = f2' k) (hV : ∀ j, j < 9 → ∀ h, h < 12 → V j h = f13 (24 * j + h)) (hT : T ≤ 9) : ∀ (m i : Nat), i ≤ ht_n S M h → ht_n S M h - i < m → (∃ k, k < ht_n S M h ∧ q_X1_decideByVotes_L52 N (nI h) (nI T) (nI J) (nI S) (nI M) (nI (ht_H S M)) f0 f1 f2 f3 V m (nI i) = some (Sum.inl (nI (E (h * S + k)), upd f3 h (nI (E (h * S + k))))) ∧ q_X5_decide_L49 N (nI h) (nI T) (nI J) (nI S) (nI M) (ht_B S M E) f0' f2' f8 f12 f13 m (nI i) = some (Sum.inl (nI (E (h * S + k)), upd f12 h (nI (E (h * S + k)))))) ∨ (q_X1_decideByVotes_L52 N (nI h) (nI T) (nI J) (nI S) (nI M) (nI (ht_H S M)) f0 f1 f2 f3 V m (nI i) = some (Sum.inr ()) ∧ q_X5_decide_L49 N (nI h) (nI T) (nI J) (nI S) (nI M) (ht_B S M E) f0' f2' f8 f12 f13 m (nI i) = some (Sum.inr ())) := by
  have n6 : ht_n S M h ≤ S := Nat.min_le_left _ _
  have hM : M ≤ 24 := by omega
  have h12 := ht_H12 hS hS6 hM
  have hs := ht_size1 (N := N) hS hS6 hM hh
  have hs5 := ht_size5 (N := N) hR hS hS6 hM1 hMR hb hh
  intro m
  induction m with
  | zero => intro i _ h; omega
  | succ m ih =>
    intro i hi hm
    rw [q_X1_decideByVotes_L52, q_X5_decide_L49, nI_1]
    by_cases e : i = ht_n S M h
    · subst e
      exact Or.inr ⟨e_b hs (e_p (e_le (Nat.le_refl _) (by omega)) rfl), e_b hs5 (e_p (e_le (Nat.le_refl _) (by omega)) rfl)⟩
    · have nle : ¬ nI (ht_n S M h) ≤ nI i := e_nle (by omega) (by omega)
      have ci : i < ht_n S M h := by omega
      have a := (ht_idx hS hS6 hM hh ci).1
      have at1 := ht_at1 (N := N) hS hS6 hM h2 hh ci
      have vf := ht_vf1 (i := i) (N := N) hN hR hJ hS hS6 hMR h2 hb hh h0 h1 hV
      have d79 := ht_d79 (N := N) (f0' := f0') (f2' := f2') (f13 := f13) hN hR hJ hS hS6 hM1 hMR h8 hb hh ci
      have hin : z_in (nI h * nI S + nI i) 24 := by
        rw [pk_mul, nI_add]
        exact e_in (by omega) (by omega)
      have hcl : f8 (Int32.toNatClampNeg (nI h * nI S + nI i)) = nI (E (h * S + i)) := by
        rw [pk_mul, nI_add, e_cl (n := h * S + i) (by omega), h8 _ a]
      have cc : ct (ht_qb S M E h f0' f2' f13 i) J ≤ 9 := Nat.le_trans ct_le hJ
      have m2 : (2 : Int32) * nI (ct (ht_qb S M E h f0' f2' f13 i) J) = nI (2 * ct (ht_qb S M E h f0' f2' f13 i) J) := by
        rw [← pk_mul]
        rfl
      have ch : Int32.toNatClampNeg (nI h) = h := e_cl (by omega)
      rw [hcl]
      by_cases d : 2 * ct (ht_qb S M E h f0' f2' f13 i) J ≤ T
      · have l1 : (2 : Int32) * nI (ct (ht_qb S M E h f0' f2' f13 i) J) ≤ nI T := by
          rw [m2]
          exact e_le d (by omega)
        have l2 : ¬ nI T < (2 : Int32) * nI (ct (ht_qb S M E h f0' f2' f13 i) J) := by
          rw [m2]
          exact e_nlt d (by omega)
        rcases ih (i + 1) (by omega) (by omega) with ⟨k, k1, k2, k3⟩ | ⟨k2, k3⟩
        · exact Or.inl ⟨k, k1, e_b hs (e_n nle (e_b at1 (e_b vf (e_p l1 k2)))), e_b hs5 (e_n nle (e_p hin (e_s (e_b d79 (e_n l2 k3)))))⟩
        · exact Or.inr ⟨e_b hs (e_n nle (e_b at1 (e_b vf (e_p l1 k2)))), e_b hs5 (e_n nle (e_p hin (e_s (e_b d79 (e_n l2 k3)))))⟩
      · have l1 : ¬ (2 : Int32) * nI (ct (ht_qb S M E h f0' f2' f13 i) J) ≤ nI T := by
          rw [m2]
          exact e_nle (by omega) (by omega)
        have l2 : nI T < (2 : Int32) * nI (ct (ht_qb S M E h f0' f2' f13 i) J) := by
          rw [m2]
          exact e_lt (by omega) (by omega)
        exact Or.inl ⟨i, ci, e_b hs (e_n nle (e_b at1 (e_b vf (e_n l1 (e_p (e_in (by omega) (by omega)) (by rw [ch])))))), e_b hs5 (e_n nle (e_p hin (e_s (e_b d79 (e_p l2 (e_p (e_in (by omega) (by omega)) (by rw [ch])))))))⟩
end
theorem P_decide {N : Nat} (hN : 60000 ≤ N) {x1_5 : Int32} {x1_6 : Int32} {x1_7 : Int32} {x1_8 : Int32} {x1_9 : Int32} {x1_10 : Int32} {x1_11 : Int32} {x1_12 : Int32} {x1_13 : Int32} {x1_14 : Int32} {x1_15 : Int32} {f1_0 : (Nat → Int32)} {f1_1 : (Nat → Int32)} {f1_2 : (Nat → Int32)} {f1_3 : (Nat → Int32)} {V1_4 : (Nat → Nat → Int32)} {x5_1 : Int32} {x5_3 : Int32} {x5_4 : Int32} {x5_5 : Int32} {x5_6 : Int32} {x5_7 : Int32} {x5_9 : Int32} {x5_10 : Int32} {x5_14 : Int32} {f5_0 : (Nat → Int32)} {f5_2 : (Nat → Int32)} {f5_8 : (Nat → Int32)} {f5_11 : (Nat → Int32)} {f5_12 : (Nat → Int32)} {f5_13 : (Nat → Int32)} {f5_43 : (Nat → Int32)} (h : i_H x1_5 x1_6 x1_7 x1_8 x1_9 x1_10 x1_11 x1_12 x1_13 x1_14 x1_15 f1_0 f1_1 f1_2 f1_3 V1_4 x5_1 x5_3 x5_4 x5_5 x5_6 x5_7 x5_9 x5_10 x5_14 f5_0 f5_2 f5_8 f5_11 f5_12 f5_13 f5_43) (v1 : Int32) : ∃ (o1 : (Int32 × (Nat → Int32))) (o2 : (Int32 × (Nat → Int32))), q_X1_decideByVotes N v1 x1_6 x1_7 x1_9 x1_10 x1_11 f1_0 f1_1 f1_2 f1_3 V1_4 = some o1 ∧ q_X5_decide N v1 x5_3 x5_4 x5_5 x5_7 x5_9 x5_10 f5_0 f5_2 f5_8 f5_12 f5_13 = some o2 ∧ o1.1 = o2.1 ∧ i_H x1_5 x1_6 x1_7 x1_8 x1_9 x1_10 x1_11 x1_12 x1_13 x1_14 x1_15 f1_0 f1_1 f1_2 o1.2 V1_4 x5_1 x5_3 x5_4 x5_5 x5_6 x5_7 x5_9 x5_10 x5_14 f5_0 f5_2 f5_8 f5_11 o2.2 f5_13 f5_43 := by
  have hh := h
  obtain ⟨R, J, hR, hJ, e1, e2, e3, e4, e5, e6, e7, e8, e9, hc⟩ := h
  subst e9 e3 e4
  unfold q_X1_decideByVotes q_X5_decide
  by_cases g : x1_7 = 0
  · exact ⟨(-1, f1_3), (-1, f5_12), e_p g rfl, e_p g rfl, rfl, hh⟩
  · rcases hc with ⟨q, -⟩ | hc
    · exact absurd q g
    obtain ⟨S, M, rd, Bt, E, hS, hS6, hM, hMR, hrd, hrd2, hB, ⟨c1, c2, c3, c4, c5, c6, c7, c8, c9, c10⟩, h2, h8, hb, hj, h11, hw, hw2, hV, hV2⟩ := hc
    subst c2 c3 c4 c5 c6 c7 c8 c9
    rcases ht_isH (N := N) (v := v1) hR hS hS6 hM hMR hrd hrd2 hb with ⟨h, p1, p2, p3, p4⟩ | ⟨p3, p4⟩
    · subst p2
      have n6 : ht_n S M h ≤ S := Nat.min_le_left _ _
      have a21 := ht_c21 (N := N) hN hR hJ hS hS6 hMR h2 hb hj p1 e5 e6 hV hV2
      have b21 := ht_d21 (N := N) (f0' := f5_0) (f2' := f5_2) (f13 := f5_13) hN hR hJ hS hS6 hM hMR h8 hb p1
      have cc : ct (ht_cb S M E h f5_0 f5_2 f5_13) J ≤ 9 := Nat.le_trans ct_le hJ
      rcases ht_52 (N := N) (f3 := f1_3) (f12 := f5_12) hN hR hJ hS hS6 hM hMR h2 h8 hb p1 e5 e6 hV cc N 0 (Nat.zero_le _) (by omega) with ⟨k, k1, k2, k3⟩ | ⟨k2, k3⟩
      · refine ⟨_, _, e_n g (e_b p3 (e_n e_10 (e_b a21 (e_b k2 rfl)))), e_n g (e_b p4 (e_n e_10 (e_b b21 (e_b k3 rfl)))), rfl, R, J, hR, hJ, e1, e2, rfl, rfl, e5, e6, e7, e8, rfl, Or.inr ⟨S, M, rd, Bt, E, hS, hS6, hM, hMR, hrd, hrd2, hB, ⟨c1, rfl, rfl, rfl, rfl, rfl, rfl, rfl, rfl, c10⟩, h2, h8, hb, hj, h11, fun l hl => ?_, ht_w_up hw2 ⟨k, k1, rfl⟩, hV, hV2⟩⟩
        show upd f1_3 h (nI (E (h * S + k))) l = upd f5_12 h (nI (E (h * S + k))) l
        by_cases e : l = h
        · subst e
          rw [pk_us, pk_us]
        · rw [pk_un e, pk_un e]
          exact hw l hl
      · exact ⟨(-2, f1_3), (-2, f5_12), e_n g (e_b p3 (e_n e_10 (e_b a21 (e_b k2 rfl)))), e_n g (e_b p4 (e_n e_10 (e_b b21 (e_b k3 rfl)))), rfl, hh⟩
    · exact ⟨(-1, f1_3), (-1, f5_12), e_n g (e_b p3 (e_p rfl rfl)), e_n g (e_b p4 (e_p rfl rfl)), rfl, hh⟩

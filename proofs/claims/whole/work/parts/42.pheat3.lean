/-! ===== pure rows: heats, who is in the row; the invariant ===== -/
def ct (p : Nat → Bool) : Nat → Nat
  | 0 => 0
  | n + 1 => ct p n + if p n = true then 1 else 0
theorem ct_1 {p : Nat → Bool} {n : Nat} (h : p n = true) : ct p (n + 1) = ct p n + 1 := by
  show ct p n + (if p n = true then 1 else 0) = _
  rw [if_pos h]
theorem ct_0 {p : Nat → Bool} {n : Nat} (h : ¬ p n = true) : ct p (n + 1) = ct p n := by
  show ct p n + (if p n = true then 1 else 0) = _
  rw [if_neg h, Nat.add_zero]
theorem ct_le {p : Nat → Bool} : ∀ {n : Nat}, ct p n ≤ n
  | 0 => Nat.le_refl _
  | n + 1 => by
    have := ct_le (p := p) (n := n)
    by_cases c : p n = true
    · rw [ct_1 c]; omega
    · rw [ct_0 c]; omega
theorem ct_mono {p : Nat → Bool} {m : Nat} : ∀ {n : Nat}, m ≤ n → ct p m ≤ ct p n
  | 0, h => by rw [show m = 0 by omega]; exact Nat.le_refl _
  | n + 1, h => by
    by_cases e : m = n + 1
    · rw [e]; exact Nat.le_refl _
    · have := ct_mono (p := p) (m := m) (n := n) (by omega)
      by_cases c : p n = true
      · rw [ct_1 c]; omega
      · rw [ct_0 c]; exact this
theorem ct_lt {p : Nat → Bool} {s t : Nat} (h : s < t) (hp : p s = true) : ct p s < ct p t := by
  have := ct_mono (p := p) (m := s + 1) (n := t) h
  rw [ct_1 hp] at this
  omega
theorem ct_ex {p : Nat → Bool} {k : Nat} : ∀ {n : Nat}, k < ct p n → ∃ s, s < n ∧ p s = true ∧ ct p s = k
  | 0, h => absurd h (Nat.not_lt_zero _)
  | n + 1, h => by
    by_cases e : k < ct p n
    · obtain ⟨s, a, b⟩ := ct_ex (p := p) (k := k) (n := n) e
      exact ⟨s, by omega, b⟩
    · by_cases c : p n = true
      · rw [ct_1 c] at h
        exact ⟨n, by omega, c, by omega⟩
      · rw [ct_0 c] at h
        omega
theorem ct_end {p : Nat → Bool} {r : Nat} (h : ∀ k, r ≤ k → p k = false) : ∀ {n : Nat}, r ≤ n → ct p n = ct p r
  | 0, q => by rw [show r = 0 by omega]
  | n + 1, q => by
    by_cases e : r = n + 1
    · rw [e]
    · rw [ct_0 (by rw [h n (by omega)]; decide)]
      exact ct_end h (by omega)
theorem ct_all {p : Nat → Bool} : ∀ {n : Nat}, (∀ k, k < n → p k = true) → ct p n = n
  | 0, _ => rfl
  | n + 1, h => by rw [ct_1 (h n (by omega)), ct_all (fun k hk => h k (by omega))]
theorem ct_or {p q : Nat → Bool} {w : Nat} (h : ∀ k, k ≠ w → q k = p k) : ∀ {n : Nat}, ct q n ≤ ct p n + 1 ∧ (n ≤ w → ct q n = ct p n)
  | 0 => ⟨by show (0 : Nat) ≤ 0 + 1; omega, fun _ => rfl⟩
  | n + 1 => by
    have i := ct_or h (n := n)
    by_cases e : n = w
    · have := i.2 (by omega)
      refine ⟨?_, fun q => by omega⟩
      have h1 : ct q (n + 1) ≤ ct q n + 1 := by
        by_cases c : q n = true
        · rw [ct_1 c]; exact Nat.le_refl _
        · rw [ct_0 c]; omega
      have h2 : ct p n ≤ ct p (n + 1) := ct_mono (by omega)
      omega
    · have hq := h n e
      by_cases c : p n = true
      · rw [ct_1 c, ct_1 (hq.trans c)]
        exact ⟨by omega, fun q => by have := i.2 (by omega); omega⟩
      · rw [ct_0 c, ct_0 (by rw [hq]; exact c)]
        exact ⟨i.1, fun q => i.2 (by omega)⟩
def ht_en (p : Nat → Bool) (r : Nat) (f : Nat → Int32) : Prop := ∀ s, s < r → p s = true → f (ct p s) = nI s
theorem ht_en_up {p : Nat → Bool} {r : Nat} {f : Nat → Int32} (h : ht_en p r f) (hr : p r = true) : ht_en p (r + 1) (upd f (ct p r) (nI r)) := by
  intro s hs ps
  by_cases e : s = r
  · subst e
    exact pk_us
  · have := ct_lt (p := p) (show s < r by omega) ps
    rw [pk_un (by omega)]
    exact h s (by omega) ps
theorem ht_en_no {p : Nat → Bool} {r : Nat} {f : Nat → Int32} (h : ht_en p r f) (hr : ¬ p r = true) : ht_en p (r + 1) f := by
  intro s hs ps
  by_cases e : s = r
  · subst e
    exact absurd ps hr
  · exact h s (by omega) ps
theorem ht_ent {N R : Nat} {p : Nat → Bool} {v : Int32} (hR : R ≤ 24) (hp : ∀ r, r < 24 → q_X4_hasBit N v (nI r) = some (if p r = true then 1 else 0)) : ∀ (m r : Nat) (f : Nat → Int32), r ≤ R → R - r < m → ht_en p r f → ∃ F : Nat → Int32, q_X1_enter_L7 N v (nI R) m (nI r) (nI (ct p r)) f = some (nI (ct p R), F) ∧ ht_en p R F := by
  intro m
  induction m with
  | zero => intro r f _ h; omega
  | succ m ih =>
    intro r f hr hm hf
    rw [q_X1_enter_L7]
    by_cases e : r = R
    · subst e
      exact ⟨f, e_p (e_le (Nat.le_refl _) (by omega)) rfl, hf⟩
    · have b := hp r (by omega)
      have cl := ct_le (p := p) (n := r)
      by_cases c : p r = true
      · rw [if_pos c] at b
        obtain ⟨F, F1, F2⟩ := ih (r + 1) _ (by omega) (by omega) (ht_en_up hf c)
        refine ⟨F, e_n (e_nle (by omega) (by omega)) (e_b b (e_n e_10 (e_p (e_in (by omega) (by omega)) ?_))), F2⟩
        rw [nI_1, nI_1, e_cl (by omega), ← ct_1 c]
        exact F1
      · rw [if_neg c] at b
        obtain ⟨F, F1, F2⟩ := ih (r + 1) f (by omega) (by omega) (ht_en_no hf c)
        refine ⟨F, e_n (e_nle (by omega) (by omega)) (e_b b (e_p rfl ?_)), F2⟩
        rw [nI_1, ← ct_0 c]
        exact F1
theorem ht_enter {N R : Nat} {p : Nat → Bool} {v x : Int32} (hN : 60000 ≤ N) (hR : R ≤ 24) (hp : ∀ r, r < 24 → q_X4_hasBit N v (nI r) = some (if p r = true then 1 else 0)) (f : Nat → Int32) : ∃ F : Nat → Int32, q_X1_enter N v (nI R) x f = some (nI (ct p R), F) ∧ ht_en p R F := by
  obtain ⟨F, F1, F2⟩ := ht_ent (N := N) hR hp N 0 f (Nat.zero_le _) (by omega) (fun s hs => by omega)
  exact ⟨F, e_b F1 rfl, F2⟩
theorem ht_en_fin {R : Nat} {p : Nat → Bool} {f2 f8 : Nat → Int32} (hR : R ≤ 24) (h2 : ht_en p R f2) (h8 : ht_en p R f8) : ∃ E : Nat → Nat, ht_r (ct p R) E f2 ∧ ht_r (ct p R) E f8 ∧ ht_b R (ct p R) E ∧ ht_inj (ct p R) E := by
  have key : ∀ k, k < ct p R → ∃ s, s < R ∧ ct p s = k ∧ f2 k = nI s ∧ f8 k = nI s := by
    intro k hk
    obtain ⟨s, s1, s2, s3⟩ := ct_ex hk
    have a := h2 s s1 s2
    have b := h8 s s1 s2
    rw [s3] at a b
    exact ⟨s, s1, s3, a, b⟩
  have key2 : ∀ k, k < ct p R → ∃ s, s < R ∧ ct p s = k ∧ f2 k = nI s ∧ f8 k = nI s ∧ (f2 k).toNatClampNeg = s := by
    intro k hk
    obtain ⟨s, s1, s2, s3, s4⟩ := key k hk
    exact ⟨s, s1, s2, s3, s4, by rw [s3]; exact e_cl (by omega)⟩
  refine ⟨fun k => (f2 k).toNatClampNeg, fun k hk => ?_, fun k hk => ?_, fun k hk => ?_, fun k l hk hl e => ?_⟩
  · obtain ⟨s, s1, s2, s3, s4, s5⟩ := key2 k hk
    show f2 k = nI (f2 k).toNatClampNeg
    rw [s5, s3]
  · obtain ⟨s, s1, s2, s3, s4, s5⟩ := key2 k hk
    show f8 k = nI (f2 k).toNatClampNeg
    rw [s5, s4]
  · obtain ⟨s, s1, s2, s3, s4, s5⟩ := key2 k hk
    show (f2 k).toNatClampNeg < R
    rw [s5]
    exact s1
  · obtain ⟨s, s1, s2, s3, s4, s5⟩ := key2 k hk
    obtain ⟨t, t1, t2, t3, t4, t5⟩ := key2 l hl
    have e2 : (f2 k).toNatClampNeg = (f2 l).toNatClampNeg := e
    rw [s5, t5] at e2
    rw [← s2, ← t2, e2]
/-! the invariant -/
def ht_n (S M h : Nat) : Nat := min S (M - h * S)
def ht_w (S M : Nat) (E : Nat → Nat) (f : Nat → Int32) : Prop := ∀ h, h < ht_H S M → f h = -1 ∨ ∃ i, i < ht_n S M h ∧ f h = nI (E (h * S + i))
def ht_C (R : Nat) (x8 x9 x10 x11 x12 x13 y5 y7 y9 y10 : Int32) (f2 f3 : Nat → Int32) (V : Nat → Nat → Int32) (f8 f11 f12 f13 : Nat → Int32) : Prop := ∃ (S M rd Bt : Nat) (E : Nat → Nat), 2 ≤ S ∧ S ≤ 6 ∧ 1 ≤ M ∧ M ≤ R ∧ 1 ≤ rd ∧ rd + M ≤ 26 ∧ Bt < 2 ^ 24 ∧ (x8 = nI rd ∧ y7 = nI rd ∧ x9 = nI S ∧ y5 = nI S ∧ x10 = nI M ∧ y9 = nI M ∧ x11 = nI (ht_H S M) ∧ x12 = ht_B S M E ∧ y10 = ht_B S M E ∧ x13 = nI Bt) ∧ ht_r M E f2 ∧ ht_r M E f8 ∧ ht_b R M E ∧ ht_inj M E ∧ ht_hb Bt f11 ∧ (∀ h, h < 12 → f3 h = f12 h) ∧ ht_w S M E f12 ∧ (∀ j, j < 9 → ∀ h, h < 12 → V j h = f13 (24 * j + h)) ∧ ∀ j, j < 9 → ht_w S M E (fun h => f13 (24 * j + h))
def i_H (x1_5 x1_6 x1_7 x1_8 x1_9 x1_10 x1_11 x1_12 x1_13 x1_14 x1_15 : Int32) (f1_0 f1_1 f1_2 f1_3 : Nat → Int32) (V1_4 : Nat → Nat → Int32) (x5_1 x5_3 x5_4 x5_5 x5_6 x5_7 x5_9 x5_10 x5_14 : Int32) (f5_0 f5_2 f5_8 f5_11 f5_12 f5_13 f5_43 : Nat → Int32) : Prop := ∃ R J : Nat, R ≤ 24 ∧ J ≤ 9 ∧ x1_5 = nI R ∧ x5_1 = nI R ∧ x1_6 = nI J ∧ x5_3 = nI J ∧ (∀ k, k < R → f1_0 k = f5_0 k) ∧ (∀ k, k < J → f1_1 k = f5_2 k) ∧ x1_15 = x5_6 ∧ x1_14 = x5_14 ∧ x1_7 = x5_4 ∧ ((x1_7 = 0 ∧ x1_8 = 0 ∧ x5_7 = 0 ∧ x1_11 = 0 ∧ x1_12 = -1) ∨ ht_C R x1_8 x1_9 x1_10 x1_11 x1_12 x1_13 x5_5 x5_7 x5_9 x5_10 f1_2 f1_3 V1_4 f5_8 f5_11 f5_12 f5_13)
theorem ht_C_R {R R' : Nat} {x8 x9 x10 x11 x12 x13 y5 y7 y9 y10 : Int32} {f2 f3 : Nat → Int32} {V : Nat → Nat → Int32} {f8 f11 f12 f13 : Nat → Int32} (hR : R ≤ R') (h : ht_C R x8 x9 x10 x11 x12 x13 y5 y7 y9 y10 f2 f3 V f8 f11 f12 f13) : ht_C R' x8 x9 x10 x11 x12 x13 y5 y7 y9 y10 f2 f3 V f8 f11 f12 f13 := by
  obtain ⟨S, M, rd, Bt, E, a1, a2, a3, a4, a5, a6, a7, a8, a9, a10, a11, a12⟩ := h
  exact ⟨S, M, rd, Bt, E, a1, a2, a3, by omega, a5, a6, a7, a8, a9, a10, fun k hk => by have := a11 k hk; omega, a12⟩
theorem q_town_1 {N v : Nat} (h : v ≤ 9) : q_X4_isTown N (nI v) = some 1 := by
  unfold q_X4_isTown
  first
    | exact e_n (nI_pos (by omega)) (e_p (e_lt (b := 10) (by omega) (by omega)) rfl)
    | exact e_n (nI_pos (by omega)) (e_n (e_nle (a := 10) (by omega) (by omega)) rfl)
theorem q_town_0 {N : Nat} {v : Int32} (h : v < 0 ∨ ∃ k : Nat, k < 2 ^ 31 ∧ 9 < k ∧ v = nI k) : q_X4_isTown N v = some 0 := by
  unfold q_X4_isTown
  rcases h with h | ⟨k, k1, k2, k3⟩
  · exact e_p h rfl
  · subst k3
    first
      | exact e_n (nI_pos (by omega)) (e_n (e_nlt (b := 10) (by omega) (by omega)) rfl)
      | exact e_n (nI_pos (by omega)) (e_p (e_le (a := 10) (by omega) (by omega)) rfl)
theorem P_runner {N : Nat} (hN : 60000 ≤ N) {x1_5 : Int32} {x1_6 : Int32} {x1_7 : Int32} {x1_8 : Int32} {x1_9 : Int32} {x1_10 : Int32} {x1_11 : Int32} {x1_12 : Int32} {x1_13 : Int32} {x1_14 : Int32} {x1_15 : Int32} {f1_0 : (Nat → Int32)} {f1_1 : (Nat → Int32)} {f1_2 : (Nat → Int32)} {f1_3 : (Nat → Int32)} {V1_4 : (Nat → Nat → Int32)} {x5_1 : Int32} {x5_3 : Int32} {x5_4 : Int32} {x5_5 : Int32} {x5_6 : Int32} {x5_7 : Int32} {x5_9 : Int32} {x5_10 : Int32} {x5_14 : Int32} {f5_0 : (Nat → Int32)} {f5_2 : (Nat → Int32)} {f5_8 : (Nat → Int32)} {f5_11 : (Nat → Int32)} {f5_12 : (Nat → Int32)} {f5_13 : (Nat → Int32)} {f5_43 : (Nat → Int32)} (h : i_H x1_5 x1_6 x1_7 x1_8 x1_9 x1_10 x1_11 x1_12 x1_13 x1_14 x1_15 f1_0 f1_1 f1_2 f1_3 V1_4 x5_1 x5_3 x5_4 x5_5 x5_6 x5_7 x5_9 x5_10 x5_14 f5_0 f5_2 f5_8 f5_11 f5_12 f5_13 f5_43) (v1 : Int32) : ∃ (o1 : (Int32 × Int32 × (Nat → Int32))) (o2 : (Int32 × Int32 × (Nat → Int32))), q_X1_addRunner N v1 x1_5 f1_0 = some o1 ∧ q_X5_runner N v1 x5_1 f5_0 = some o2 ∧ o1.1 = o2.1 ∧ i_H o1.2.1 x1_6 x1_7 x1_8 x1_9 x1_10 x1_11 x1_12 x1_13 x1_14 x1_15 o1.2.2 f1_1 f1_2 f1_3 V1_4 o2.2.1 x5_3 x5_4 x5_5 x5_6 x5_7 x5_9 x5_10 x5_14 o2.2.2 f5_2 f5_8 f5_11 f5_12 f5_13 f5_43 := by
  obtain ⟨R, J, hR, hJ, e1, e2, e3, e4, e5, e6, e7, e8, e9, hc⟩ := h
  subst e1 e2
  unfold q_X1_addRunner q_X5_runner
  have no : (q_X4_isTown N v1 = some 0 ∧ q_X5_in N v1 0 9 = some 0) ∨ ∃ k : Nat, k ≤ 9 ∧ v1 = nI k := by
    rcases e_or v1 with h | ⟨k, k1, k2⟩
    · exact Or.inl ⟨q_town_0 (Or.inl h), q_in_n (lo := 0) h (by omega)⟩
    · subst k2
      by_cases c : k ≤ 9
      · exact Or.inr ⟨k, c, rfl⟩
      · exact Or.inl ⟨q_town_0 (Or.inr ⟨k, k1, by omega, rfl⟩), q_in_0 (lo := 0) (hi := 9) (by omega) k1 (by omega)⟩
  rcases no with ⟨a, b⟩ | ⟨k, k1, k2⟩
  · exact ⟨_, _, e_b a (e_p rfl rfl), e_b b (e_p rfl rfl), rfl, R, J, hR, hJ, rfl, rfl, e3, e4, e5, e6, e7, e8, e9, hc⟩
  · subst k2
    have a := q_town_1 (N := N) k1
    have b := q_in_1 (N := N) (v := k) (lo := 0) (hi := 9) (by omega) k1 (by omega) (by omega)
    by_cases c : R = 24
    · subst c
      exact ⟨_, _, e_b a (e_n e_10 (e_n (e_nlt (b := 24) (by omega) (by omega)) rfl)), e_b b (e_n e_10 (e_p rfl rfl)), rfl, 24, J, hR, hJ, rfl, rfl, e3, e4, e5, e6, e7, e8, e9, hc⟩
    · have hin : z_in (nI R) 24 := e_in (by omega) (by omega)
      refine ⟨_, _, e_b a (e_n e_10 (e_p (e_lt (b := 24) (by omega) (by omega)) (e_p hin rfl))), e_b b (e_n e_10 (e_n (e_ne (b := 24) c (by omega) (by omega)) (e_p hin rfl))), ?_, R + 1, J, by omega, hJ, nI_1 R, nI_1 R, e3, e4, ?_, e6, e7, e8, e9, hc.imp id (ht_C_R (by omega))⟩
      · show nI R = nI R + 1 - 1
        rw [nI_1, nI_pred]
      · show ∀ j, j < R + 1 → upd f1_0 (Int32.toNatClampNeg (nI R)) (nI k) j = upd f5_0 (Int32.toNatClampNeg (nI R)) (nI k) j
        rw [e_cl (n := R) (by omega)]
        intro j hj
        by_cases e : j = R
        · subst e
          rw [pk_us, pk_us]
        · rw [pk_un e, pk_un e]
          exact e5 j (by omega)
theorem P_judge {N : Nat} (hN : 60000 ≤ N) {x1_5 : Int32} {x1_6 : Int32} {x1_7 : Int32} {x1_8 : Int32} {x1_9 : Int32} {x1_10 : Int32} {x1_11 : Int32} {x1_12 : Int32} {x1_13 : Int32} {x1_14 : Int32} {x1_15 : Int32} {f1_0 : (Nat → Int32)} {f1_1 : (Nat → Int32)} {f1_2 : (Nat → Int32)} {f1_3 : (Nat → Int32)} {V1_4 : (Nat → Nat → Int32)} {x5_1 : Int32} {x5_3 : Int32} {x5_4 : Int32} {x5_5 : Int32} {x5_6 : Int32} {x5_7 : Int32} {x5_9 : Int32} {x5_10 : Int32} {x5_14 : Int32} {f5_0 : (Nat → Int32)} {f5_2 : (Nat → Int32)} {f5_8 : (Nat → Int32)} {f5_11 : (Nat → Int32)} {f5_12 : (Nat → Int32)} {f5_13 : (Nat → Int32)} {f5_43 : (Nat → Int32)} (h : i_H x1_5 x1_6 x1_7 x1_8 x1_9 x1_10 x1_11 x1_12 x1_13 x1_14 x1_15 f1_0 f1_1 f1_2 f1_3 V1_4 x5_1 x5_3 x5_4 x5_5 x5_6 x5_7 x5_9 x5_10 x5_14 f5_0 f5_2 f5_8 f5_11 f5_12 f5_13 f5_43) (v1 : Int32) : ∃ (o1 : (Int32 × Int32 × (Nat → Int32))) (o2 : (Int32 × Int32 × (Nat → Int32))), q_X1_addJudge N v1 x1_6 f1_1 = some o1 ∧ q_X5_judge N v1 x5_3 f5_2 = some o2 ∧ o1.1 = o2.1 ∧ i_H x1_5 o1.2.1 x1_7 x1_8 x1_9 x1_10 x1_11 x1_12 x1_13 x1_14 x1_15 f1_0 o1.2.2 f1_2 f1_3 V1_4 x5_1 o2.2.1 x5_4 x5_5 x5_6 x5_7 x5_9 x5_10 x5_14 f5_0 o2.2.2 f5_8 f5_11 f5_12 f5_13 f5_43 := by
  obtain ⟨R, J, hR, hJ, e1, e2, e3, e4, e5, e6, e7, e8, e9, hc⟩ := h
  subst e3 e4
  unfold q_X1_addJudge q_X5_judge
  have no : (q_X4_isTown N v1 = some 0 ∧ q_X5_in N v1 0 9 = some 0) ∨ ∃ k : Nat, k ≤ 9 ∧ v1 = nI k := by
    rcases e_or v1 with h | ⟨k, k1, k2⟩
    · exact Or.inl ⟨q_town_0 (Or.inl h), q_in_n (lo := 0) h (by omega)⟩
    · subst k2
      by_cases c : k ≤ 9
      · exact Or.inr ⟨k, c, rfl⟩
      · exact Or.inl ⟨q_town_0 (Or.inr ⟨k, k1, by omega, rfl⟩), q_in_0 (lo := 0) (hi := 9) (by omega) k1 (by omega)⟩
  rcases no with ⟨a, b⟩ | ⟨k, k1, k2⟩
  · exact ⟨_, _, e_b a (e_p rfl rfl), e_b b (e_p rfl rfl), rfl, R, J, hR, hJ, e1, e2, rfl, rfl, e5, e6, e7, e8, e9, hc⟩
  · subst k2
    have a := q_town_1 (N := N) k1
    have b := q_in_1 (N := N) (v := k) (lo := 0) (hi := 9) (by omega) k1 (by omega) (by omega)
    by_cases c : J = 9
    · subst c
      exact ⟨_, _, e_b a (e_n e_10 (e_n (e_nlt (b := 9) (by omega) (by omega)) rfl)), e_b b (e_n e_10 (e_p rfl rfl)), rfl, R, 9, hR, hJ, e1, e2, rfl, rfl, e5, e6, e7, e8, e9, hc⟩
    · have hin : z_in (nI J) 9 := e_in (by omega) (by omega)
      refine ⟨_, _, e_b a (e_n e_10 (e_p (e_lt (b := 9) (by omega) (by omega)) (e_p hin rfl))), e_b b (e_n e_10 (e_n (e_ne (b := 9) c (by omega) (by omega)) (e_p hin rfl))), ?_, R, J + 1, by omega, by omega, e1, e2, nI_1 J, nI_1 J, e5, ?_, e7, e8, e9, hc⟩
      · show nI J = nI J + 1 - 1
        rw [nI_1, nI_pred]
      · show ∀ j, j < J + 1 → upd f1_1 (Int32.toNatClampNeg (nI J)) (nI k) j = upd f5_2 (Int32.toNatClampNeg (nI J)) (nI k) j
        rw [e_cl (n := J) (by omega)]
        intro j hj
        by_cases e : j = J
        · subst e
          rw [pk_us, pk_us]
        · rw [pk_un e, pk_un e]
          exact e6 j (by omega)

/-! ===== pure rows: heats, a contest begins ===== -/
theorem ht_H12 {S M : Nat} (h2 : 2 ≤ S) (h6 : S ≤ 6) (hM : M ≤ 24) : ht_H S M ≤ 12 := by
  unfold ht_H
  by_cases c : M % S ≤ 1
  · rw [if_pos c]
    rcases ht_S h2 h6 with e | e | e | e | e <;> subst e <;> omega
  · rw [if_neg c]
    rcases ht_S h2 h6 with e | e | e | e | e <;> subst e <;> omega
theorem ht_C_mk {R S M rd Bt : Nat} {F2 F3 F8 F11 F12 F13 : Nat → Int32} {V : Nat → Nat → Int32} {E : Nat → Nat} (hR : R ≤ 24) (hS : 2 ≤ S) (hS6 : S ≤ 6) (hM : 1 ≤ M) (hMR : M ≤ R) (hrd : rd + 1 + M ≤ 26) (hB : Bt < 2 ^ 24) (h2 : ht_r M E F2) (h8 : ht_r M E F8) (hb : ht_b R M E) (hj : ht_inj M E) (h11 : ht_hb Bt F11) (h3 : ∀ k, k < 12 → F3 k = -1) (hV : ∀ k, k < 9 → ∀ j, j < 12 → V k j = -1) (h12 : ∀ k, k < 24 → F12 k = -1) (h13 : ∀ k, k < 216 → F13 k = -1) : ht_C R (nI (rd + 1)) (nI S) (nI M) (nI (ht_H S M)) (ht_B S M E) (nI Bt) (nI S) (nI (rd + 1)) (nI M) (ht_B S M E) F2 F3 V F8 F11 F12 F13 := by
  have hh := ht_H12 hS hS6 (show M ≤ 24 by omega)
  exact ⟨S, M, rd + 1, Bt, E, hS, hS6, hM, hMR, by omega, hrd, hB, ⟨rfl, rfl, rfl, rfl, rfl, rfl, rfl, rfl, rfl, rfl⟩, h2, h8, hb, hj, h11, fun h hl => by rw [h3 h hl, h12 h (by omega)], fun h hl => Or.inl (h12 h (by omega)), fun j hj h hl => by rw [hV j hj h hl, h13 _ (by omega)], fun j hj h hl => Or.inl (h13 _ (by omega))⟩
theorem ht_76 {N R : Nat} (hR : R ≤ 24) : ∀ (n i : Nat) (f : Nat → Int32), i ≤ R → R - i < n → (∀ k, k < i → f k = nI k) → ∃ g : Nat → Int32, q_X5_contest_L76 N (nI R) n (nI i) f = some g ∧ ∀ k, k < R → g k = nI k := by
  intro n
  induction n with
  | zero => intro i f _ h; omega
  | succ n ih =>
    intro i f hi hn hf
    rw [q_X5_contest_L76]
    by_cases h : i = R
    · subst h
      exact ⟨f, e_p (e_le (Nat.le_refl _) (by omega)) rfl, hf⟩
    · obtain ⟨g, g1, g2⟩ := ih (i + 1) (upd f i (nI i)) (by omega) (by omega) (fun k hk => by
        by_cases e : k = i
        · subst e
          exact pk_us
        · rw [pk_un e]
          exact hf k (by omega))
      refine ⟨g, e_n (e_nle (by omega) (by omega)) (e_p (e_in (by omega) (by omega)) ?_), g2⟩
      rw [nI_1, e_cl (by omega)]
      exact g1
theorem ht_103 {N : Nat} : ∀ (n i : Nat) (f : Nat → Int32), i ≤ 24 → 24 - i < n → (∀ k, k < i → f k = 0) → ∃ g : Nat → Int32, q_X5_contest_L103 N n (nI i) f = some g ∧ ∀ k, k < 24 → g k = 0 := by
  intro n
  induction n with
  | zero => intro i f _ h; omega
  | succ n ih =>
    intro i f hi hn hf
    rw [q_X5_contest_L103]
    by_cases h : i = 24
    · subst h
      exact ⟨f, e_p (e_le (a := 24) (Nat.le_refl _) (by omega)) rfl, hf⟩
    · obtain ⟨g, g1, g2⟩ := ih (i + 1) (upd f i (vp_nar .boolean 0)) (by omega) (by omega) (fun k hk => by
        by_cases e : k = i
        · subst e
          exact pk_us
        · rw [pk_un e]
          exact hf k (by omega))
      refine ⟨g, e_n (e_nle (a := 24) (by omega) (by omega)) (e_p (e_in (by omega) (by omega)) ?_), g2⟩
      rw [nI_1, e_cl (by omega)]
      exact g1
theorem ht_m1 : ∀ k : Fin 24, ¬ (z_ushr (-1) (nI k.val) &&& 1) = 0 := by decide +kernel
theorem ht_cont {N R S : Nat} {lot x10 x11 x12 y10 : Int32} {f2 f3 f8 f11 f12 f13 : Nat → Int32} {V4 : Nat → Nat → Int32} (hN : 60000 ≤ N) (hR : R ≤ 24) (hR1 : 1 ≤ R) (hS : 2 ≤ S) (hS6 : S ≤ 6) :
    ∃ (lot' x8 x11' x12' x13' : Int32) (G2 F2 F3 G8 F8 G11 F11 F12 F13 : Nat → Int32) (V : Nat → Nat → Int32), q_X1_enter N (-1) (nI R) x10 f2 = some (nI R, G2) ∧ q_X1_beginRound N 0 (nI S) (nI R) x11 x12 0 lot G2 f3 V4 = some (x11', x8, x11', x12', x13', lot', F2, F3, V) ∧ q_X5_contest_L76 N (nI R) N 0 f8 = some G8 ∧ q_X5_contest_L103 N N 0 f11 = some G11 ∧ q_X5_mix N (nI S) lot (nI R) y10 G8 G11 f12 f13 = some (lot', x12', F8, F11, F12, F13) ∧ q_X5_heats N (nI S) (nI R) x12' = some x11' ∧ ht_C R x8 (nI S) (nI R) x11' x12' x13' (nI S) 1 (nI R) x12' F2 F3 V F8 F11 F12 F13 := by
  have hp : ∀ r, r < 24 → q_X4_hasBit N (-1) (nI r) = some (if (fun _ : Nat => true) r = true then 1 else 0) := fun r hr => by
    rw [if_pos rfl]
    exact q_hasBit_1 (ht_m1 ⟨r, hr⟩)
  have hct : ∀ n, ct (fun _ : Nat => true) n = n := fun n => ct_all (fun _ _ => rfl)
  obtain ⟨G2, c1, c2⟩ := ht_enter (x := x10) hN hR hp f2
  obtain ⟨G8, c3, c4⟩ := ht_76 (N := N) hR N 0 f8 (Nat.zero_le _) (by omega) (fun k hk => by omega)
  obtain ⟨G11, c5, c6⟩ := ht_103 (N := N) N 0 f11 (Nat.zero_le _) (by omega) (fun k hk => by omega)
  obtain ⟨E, r2, r8, rb, rj⟩ := ht_en_fin (f8 := G8) hR c2 (fun s hs _ => by rw [hct]; exact c4 s hs)
  rw [hct] at c1 r2 r8 rb rj
  obtain ⟨lot', E', Bt', F2, F3, F8, F11, F12, F13, V, o1, o2, o3, o4, o5, o6, o7, o8, o9, o10, o11, o12⟩ := ht_round (N := N) (rd := 0) (Bt := 0) (lot := lot) (x11 := x11) (x12 := x12) (y10 := y10) (f3 := f3) (f11 := G11) (f12 := f12) (f13 := f13) (V4 := V4) hN hR hS hS6 hR1 (Nat.le_refl _) (by omega) r2 r8 rb rj (fun k hk => by rw [c6 k hk, Nat.zero_testBit]; rfl)
  exact ⟨lot', _, _, _, _, G2, F2, F3, G8, F8, G11, F11, F12, F13, V, c1, o1, c3, c5, o2, ht_heats hS hS6 hR1 hR hR o6, ht_C_mk hR hS hS6 hR1 (Nat.le_refl _) (by omega) o3 o4 o5 o6 o7 o8 o9 o10 o11 o12⟩
theorem P_contest {N : Nat} (hN : 60000 ≤ N) {x1_5 : Int32} {x1_6 : Int32} {x1_7 : Int32} {x1_8 : Int32} {x1_9 : Int32} {x1_10 : Int32} {x1_11 : Int32} {x1_12 : Int32} {x1_13 : Int32} {x1_14 : Int32} {x1_15 : Int32} {f1_0 : (Nat → Int32)} {f1_1 : (Nat → Int32)} {f1_2 : (Nat → Int32)} {f1_3 : (Nat → Int32)} {V1_4 : (Nat → Nat → Int32)} {x5_1 : Int32} {x5_3 : Int32} {x5_4 : Int32} {x5_5 : Int32} {x5_6 : Int32} {x5_7 : Int32} {x5_9 : Int32} {x5_10 : Int32} {x5_14 : Int32} {f5_0 : (Nat → Int32)} {f5_2 : (Nat → Int32)} {f5_8 : (Nat → Int32)} {f5_11 : (Nat → Int32)} {f5_12 : (Nat → Int32)} {f5_13 : (Nat → Int32)} {f5_43 : (Nat → Int32)} (h : i_H x1_5 x1_6 x1_7 x1_8 x1_9 x1_10 x1_11 x1_12 x1_13 x1_14 x1_15 f1_0 f1_1 f1_2 f1_3 V1_4 x5_1 x5_3 x5_4 x5_5 x5_6 x5_7 x5_9 x5_10 x5_14 f5_0 f5_2 f5_8 f5_11 f5_12 f5_13 f5_43) (v1 : Int32) (v2 : Int32) (v3 : Int32) : ∃ (o1 : (Int32 × Int32 × Int32 × Int32 × Int32 × Int32 × Int32 × Int32 × Int32 × Int32 × (Nat → Int32) × (Nat → Int32) × (Nat → Nat → Int32))) (o2 : (Int32 × Int32 × Int32 × Int32 × Int32 × Int32 × Int32 × Int32 × (Nat → Int32) × (Nat → Int32) × (Nat → Int32) × (Nat → Int32))), q_X1_begin N v1 v2 v3 x1_5 x1_7 x1_8 x1_9 x1_10 x1_11 x1_12 x1_13 x1_14 x1_15 f1_2 f1_3 V1_4 = some o1 ∧ q_X5_contest N v1 v2 v3 x5_1 x5_4 x5_5 x5_6 x5_7 x5_9 x5_10 x5_14 f5_8 f5_11 f5_12 f5_13 = some o2 ∧ o1.1 = o2.1 ∧ i_H x1_5 x1_6 o1.2.1 o1.2.2.1 o1.2.2.2.1 o1.2.2.2.2.1 o1.2.2.2.2.2.1 o1.2.2.2.2.2.2.1 o1.2.2.2.2.2.2.2.1 o1.2.2.2.2.2.2.2.2.1 o1.2.2.2.2.2.2.2.2.2.1 f1_0 f1_1 o1.2.2.2.2.2.2.2.2.2.2.1 o1.2.2.2.2.2.2.2.2.2.2.2.1 o1.2.2.2.2.2.2.2.2.2.2.2.2 x5_1 x5_3 o2.2.1 o2.2.2.1 o2.2.2.2.1 o2.2.2.2.2.1 o2.2.2.2.2.2.1 o2.2.2.2.2.2.2.1 o2.2.2.2.2.2.2.2.1 f5_0 f5_2 o2.2.2.2.2.2.2.2.2.1 o2.2.2.2.2.2.2.2.2.2.1 o2.2.2.2.2.2.2.2.2.2.2.1 o2.2.2.2.2.2.2.2.2.2.2.2 f5_43 := by
  obtain ⟨R, J, hR, hJ, e1, e2, e3, e4, e5, e6, e7, e8, e9, hc⟩ := h
  subst e1 e2
  unfold q_X1_begin q_X5_contest
  by_cases R0 : R = 0
  · subst R0
    have fin : ∀ {a b : Int32}, a = b → a = b ∧ i_H (nI 0) x1_6 x1_7 x1_8 x1_9 x1_10 x1_11 x1_12 x1_13 x1_14 x1_15 f1_0 f1_1 f1_2 f1_3 V1_4 (nI 0) x5_3 x5_4 x5_5 x5_6 x5_7 x5_9 x5_10 x5_14 f5_0 f5_2 f5_8 f5_11 f5_12 f5_13 f5_43 := fun h => ⟨h, 0, J, hR, hJ, rfl, rfl, e3, e4, e5, e6, e7, e8, e9, hc⟩
    refine ⟨(-1, x1_7, x1_8, x1_9, x1_10, x1_11, x1_12, x1_13, x1_14, x1_15, f1_2, f1_3, V1_4), (-1, x5_4, x5_5, x5_6, x5_7, x5_9, x5_10, x5_14, f5_8, f5_11, f5_12, f5_13), ?_, ?_, fin rfl⟩
    · repeat' split
      all_goals first | rfl | exact absurd rfl ‹¬ nI 0 = 0›
    · rcases e_or v1 with h | ⟨k, k1, k2⟩
      · exact e_b (q_in_n (lo := 0) h (by omega)) (e_p rfl rfl)
      · subst k2
        by_cases c : k ≤ 1
        · refine e_b (q_in_1 (v := k) (lo := 0) (hi := 1) (by omega) c (by omega) (by omega)) (e_n e_10 ?_)
          by_cases c0 : k = 0
          · subst c0
            refine e_p rfl ?_
            rcases e_or v2 with h | ⟨j, j1, j2⟩
            · exact e_b (q_in_n (lo := 2) h (by omega)) (e_p rfl rfl)
            · subst j2
              by_cases d : 2 ≤ j ∧ j ≤ 6
              · exact e_b (q_in_1 (v := j) (lo := 2) (hi := 6) d.1 d.2 (by omega) (by omega)) (e_n e_10 (e_p rfl rfl))
              · exact e_b (q_in_0 (v := j) (lo := 2) (hi := 6) (by omega) (by omega) (by omega)) (e_p rfl rfl)
          · exact e_n (e_ne (b := 0) c0 (by omega) (by omega)) (e_p rfl rfl)
        · exact e_b (q_in_0 (v := k) (lo := 0) (hi := 1) (by omega) (by omega) (by omega)) (e_p rfl rfl)
  · have fin : i_H (nI R) x1_6 x1_7 x1_8 x1_9 x1_10 x1_11 x1_12 x1_13 x1_14 x1_15 f1_0 f1_1 f1_2 f1_3 V1_4 (nI R) x5_3 x5_4 x5_5 x5_6 x5_7 x5_9 x5_10 x5_14 f5_0 f5_2 f5_8 f5_11 f5_12 f5_13 f5_43 := ⟨R, J, hR, hJ, rfl, rfl, e3, e4, e5, e6, e7, e8, e9, hc⟩
    have nR : ¬ nI R = 0 := nI_ne0 (by omega) (by omega)
    rcases e_or v1 with h | ⟨k, k1, k2⟩
    · exact ⟨_, _, e_n (e_neg_ne (n := 1) h (by omega)) (e_p h rfl), e_b (q_in_n (lo := 0) h (by omega)) (e_p rfl rfl), rfl, fin⟩
    · subst k2
      have p0 : ¬ nI k < 0 := nI_pos k1
      by_cases c : k ≤ 1
      · have hin := q_in_1 (N := N) (v := k) (lo := 0) (hi := 1) (by omega) c (by omega) (by omega)
        by_cases c0 : k = 0
        · subst c0
          have n1 : ¬ nI 0 = 1 := e_ne (b := 1) (by omega) (by omega) (by omega)
          have n2 : ¬ 1 < nI 0 := e_nlt (a := 1) (by omega) (by omega)
          rcases e_or v2 with h | ⟨j, j1, j2⟩
          · exact ⟨_, _, e_n n1 (e_n p0 (e_n n2 (e_p (e_neg_lt (n := 2) h (by omega)) rfl))), e_b hin (e_n e_10 (e_p rfl (e_b (q_in_n (lo := 2) h (by omega)) (e_p rfl rfl)))), rfl, fin⟩
          · subst j2
            by_cases d2 : j < 2
            · exact ⟨_, _, e_n n1 (e_n p0 (e_n n2 (e_p (e_lt (b := 2) d2 (by omega)) rfl))), e_b hin (e_n e_10 (e_p rfl (e_b (q_in_0 (v := j) (lo := 2) (hi := 6) (by omega) (by omega) (by omega)) (e_p rfl rfl)))), rfl, fin⟩
            · have m2 : ¬ nI j < 2 := e_nlt (b := 2) (by omega) (by omega)
              by_cases d6 : 6 < j
              · exact ⟨_, _, e_n n1 (e_n p0 (e_n n2 (e_n m2 (e_p (e_lt (a := 6) d6 (by omega)) rfl)))), e_b hin (e_n e_10 (e_p rfl (e_b (q_in_0 (v := j) (lo := 2) (hi := 6) (by omega) (by omega) (by omega)) (e_p rfl rfl)))), rfl, fin⟩
              · have m6 : ¬ 6 < nI j := e_nlt (a := 6) (by omega) (by omega)
                obtain ⟨lot', x8, x11', x12', x13', G2, F2, F3, G8, F8, G11, F11, F12, F13, V, t1, t2, t3, t4, t5, t6, t7⟩ := ht_cont (N := N) (R := R) (S := j) (lot := v3) (x10 := x1_10) (x11 := x1_11) (x12 := x1_12) (y10 := x5_10) (f2 := f1_2) (f3 := f1_3) (f8 := f5_8) (f11 := f5_11) (f12 := f5_12) (f13 := f5_13) (V4 := V1_4) hN hR (by omega) (by omega) (by omega)
                exact ⟨_, _, e_n n1 (e_n p0 (e_n n2 (e_n m2 (e_n m6 (e_n nR (e_b t1 (e_b t2 rfl))))))), e_b hin (e_n e_10 (e_p rfl (e_b (q_in_1 (v := j) (lo := 2) (hi := 6) (by omega) (by omega) (by omega) (by omega)) (e_n e_10 (e_n nR (e_b t3 (e_b t4 (e_b t5 (e_b t6 rfl))))))))), rfl, R, J, hR, hJ, rfl, rfl, e3, e4, e5, e6, rfl, rfl, rfl, Or.inr t7⟩
        · have c1 : k = 1 := by omega
          subst c1
          have n0 : ¬ nI 1 = 0 := e_10
          obtain ⟨lot', x8, x11', x12', x13', G2, F2, F3, G8, F8, G11, F11, F12, F13, V, t1, t2, t3, t4, t5, t6, t7⟩ := ht_cont (N := N) (R := R) (S := 2) (lot := v3) (x10 := x1_10) (x11 := x1_11) (x12 := x1_12) (y10 := x5_10) (f2 := f1_2) (f3 := f1_3) (f8 := f5_8) (f11 := f5_11) (f12 := f5_12) (f13 := f5_13) (V4 := V1_4) hN hR (by omega) (by omega) (by omega)
          exact ⟨_, _, e_p rfl (e_n p0 (e_n (e_nlt (a := 1) (b := 1) (by omega) (by omega)) (e_n nR (e_b t1 (e_b t2 rfl))))), e_b hin (e_n e_10 (e_n n0 (e_n nR (e_b t3 (e_b t4 (e_b t5 (e_b t6 rfl))))))), rfl, R, J, hR, hJ, rfl, rfl, e3, e4, e5, e6, rfl, rfl, rfl, Or.inr t7⟩
      · exact ⟨_, _, e_n (e_ne (b := 1) (by omega) (by omega) (by omega)) (e_n p0 (e_p (e_lt (a := 1) (by omega) (by omega)) rfl)), e_b (q_in_0 (v := k) (lo := 0) (hi := 1) (by omega) (by omega) (by omega)) (e_p rfl rfl), rfl, fin⟩

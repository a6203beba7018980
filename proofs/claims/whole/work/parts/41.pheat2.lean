/-! ===== pure rows: heats, a round begins ===== -/
def ht_H (S M : Nat) : Nat := M / S + if M % S ≤ 1 then 0 else 1
def ht_B (S M : Nat) (E : Nat → Nat) : Int32 := if M % S = 1 then nI (E (M - 1)) else -1
theorem ht_S {S : Nat} (h2 : 2 ≤ S) (h6 : S ≤ 6) : S = 2 ∨ S = 3 ∨ S = 4 ∨ S = 5 ∨ S = 6 := by omega
theorem ht_H1 {S M : Nat} (h2 : 2 ≤ S) (h6 : S ≤ 6) (hM : 1 ≤ M) (h : M % S = 1) : (M - 1 + S - 1) / S = ht_H S M := by
  unfold ht_H
  rw [if_pos (by omega)]
  rcases ht_S h2 h6 with e | e | e | e | e <;> subst e <;> omega
theorem ht_H0 {S M : Nat} (h2 : 2 ≤ S) (h6 : S ≤ 6) (h : ¬ M % S = 1) : (M - 0 + S - 1) / S = ht_H S M := by
  unfold ht_H
  by_cases c : M % S ≤ 1
  · rw [if_pos c]
    rcases ht_S h2 h6 with e | e | e | e | e <;> subst e <;> omega
  · rw [if_neg c]
    rcases ht_S h2 h6 with e | e | e | e | e <;> subst e <;> omega
theorem ht_heats {N S M R : Nat} {E : Nat → Nat} (h2 : 2 ≤ S) (h6 : S ≤ 6) (hM : 1 ≤ M) (hM2 : M ≤ 24) (hR : R ≤ 24) (hb : ht_b R M E) : q_X5_heats N (nI S) (nI M) (ht_B S M E) = some (nI (ht_H S M)) := by
  have hE := hb (M - 1) (by omega)
  have s0 : ¬ nI S = 0 := nI_ne0 (by omega) (by omega)
  unfold q_X5_heats ht_B
  by_cases c : M % S = 1
  · rw [if_pos c, ← ht_H1 h2 h6 hM c]
    refine e_n (e_m1 (by omega)) (e_n s0 ?_)
    rw [show nI M - 1 = nI (M - 1) from pk_sub (a := M) (b := 1) hM, nI_add, show nI (M - 1 + S) - 1 = nI (M - 1 + S - 1) from pk_sub (a := M - 1 + S) (b := 1) (by omega), e_div (by omega) (by omega) (by omega)]
  · rw [if_neg c, ← ht_H0 h2 h6 c]
    refine e_p rfl (e_n s0 ?_)
    rw [show nI M - 0 = nI (M - 0) from pk_sub (a := M) (b := 0) (by omega), nI_add, show nI (M - 0 + S) - 1 = nI (M - 0 + S - 1) from pk_sub (a := M - 0 + S) (b := 1) (by omega), e_div (by omega) (by omega) (by omega)]
theorem ht_n1 : vp_nar .boolean 1 = 1 := rfl
theorem ht_n0 : vp_nar .boolean 0 = 0 := rfl
theorem ht_hb_up {Bt p : Nat} {f : Nat → Int32} (h : ht_hb Bt f) : ht_hb (Bt ||| 2 ^ p) (upd f p (vp_nar .boolean 1)) := by
  intro k hk
  rw [Nat.testBit_or, Nat.testBit_two_pow]
  by_cases e : k = p
  · subst e
    rw [pk_us]
    simp
    rfl
  · have e2 : ¬ p = k := fun q => e q.symm
    rw [pk_un e, h k hk]
    simp [e2]
theorem ht_sw_l {E : Nat → Nat} {i j : Nat} : ht_sw E i j i = E j := by
  unfold ht_sw
  by_cases a : i = j
  · rw [if_pos a, a]
  · rw [if_neg a, if_pos rfl]
theorem ht_sw_self {E : Nat → Nat} {i : Nat} : ht_sw E i i = E := by
  funext k
  unfold ht_sw
  by_cases a : k = i
  · rw [if_pos a, a]
  · rw [if_neg a, if_neg a]
theorem ht_bor {Bt p : Nat} (hB : Bt < 2 ^ 24) (hp : p < 24) : nI Bt ||| (1 : Int32) <<< (nI p &&& 31) = nI (Bt ||| 2 ^ p) ∧ Bt ||| 2 ^ p < 2 ^ 24 := by
  have h : 2 ^ p < 2 ^ 24 := Nat.pow_lt_pow_right (by omega) hp
  rw [bt_shl (by omega), bt_or (by omega) (by omega)]
  exact ⟨rfl, Nat.or_lt_two_pow hB h⟩
theorem ht_round {N R S M rd Bt : Nat} {lot x11 x12 y10 : Int32} {f2 f8 f11 f3 f12 f13 : Nat → Int32} {V4 : Nat → Nat → Int32} {E : Nat → Nat} (hN : 60000 ≤ N) (hR : R ≤ 24) (hS : 2 ≤ S) (hS6 : S ≤ 6) (hM1 : 1 ≤ M) (hMR : M ≤ R) (hB : Bt < 2 ^ 24) (h2 : ht_r M E f2) (h8 : ht_r M E f8) (hb : ht_b R M E) (hj : ht_inj M E) (h11 : ht_hb Bt f11) :
    ∃ (lot' : Int32) (E' : Nat → Nat) (Bt' : Nat) (F2 F3 F8 F11 F12 F13 : Nat → Int32) (V : Nat → Nat → Int32), q_X1_beginRound N (nI rd) (nI S) (nI M) x11 x12 (nI Bt) lot f2 f3 V4 = some (nI (ht_H S M), nI (rd + 1), nI (ht_H S M), ht_B S M E', nI Bt', lot', F2, F3, V) ∧ q_X5_mix N (nI S) lot (nI M) y10 f8 f11 f12 f13 = some (lot', ht_B S M E', F8, F11, F12, F13) ∧ Bt' < 2 ^ 24 ∧ ht_r M E' F2 ∧ ht_r M E' F8 ∧ ht_b R M E' ∧ ht_inj M E' ∧ ht_hb Bt' F11 ∧ (∀ k, k < 12 → F3 k = -1) ∧ (∀ k, k < 9 → ∀ j, j < 12 → V k j = -1) ∧ (∀ k, k < 24 → F12 k = -1) ∧ (∀ k, k < 216 → F13 k = -1) := by
  obtain ⟨lot', F2, F8, E1, m1, m2, a2, a8, ab, aj⟩ := ht_mix (N := N) (show M ≤ 24 by omega) N (M - 1) lot f2 f8 E (by omega) (by omega) h2 h8 hb hj
  obtain ⟨F3, c3, d3⟩ := q_fill_ok (N := N) (len := 12) (v := -1) f3 (by omega) (by omega)
  obtain ⟨V, cV, dV⟩ := ht_101 hN V4
  obtain ⟨F12, c12, d12⟩ := ht_189 hN f12
  obtain ⟨F13, c13, d13⟩ := ht_210 hN f13
  have e1 : nI M - 1 = nI (M - 1) := pk_sub (a := M) (b := 1) hM1
  have er : z_rem (nI M) (nI S) = nI (M % S) := e_rem (by omega) (by omega) (by omega)
  have er' : nI M - nI M / nI S * nI S = nI (M % S) := er
  have ed : nI M / nI S = nI (M / S) := e_div (by omega) (by omega) (by omega)
  have mr : q_X1_mixRow N (nI M) lot f2 = some (lot', F2) := by
    unfold q_X1_mixRow
    rw [e1]
    exact e_b m1 rfl
  have s0 : ¬ nI S = 0 := nI_ne0 (by omega) (by omega)
  have s1 : ¬ nI S ≤ 0 := e_nle (b := 0) (by omega) (by omega)
  have hml : M % S < S := Nat.mod_lt _ (by omega)
  by_cases c : M % S = 1
  · have H : ht_H S M = M / S := by
      unfold ht_H
      rw [if_pos (by omega), Nat.add_zero]
    have cc : z_rem (nI M) (nI S) = 1 := by
      rw [er, c]
      rfl
    have core1 : ∀ {E' : Nat → Nat} {Bt' : Nat} {F2' : Nat → Int32}, q_X1_giveBye N (nI (M - 1)) (-1) (nI Bt) F2 = some (nI (E' (M - 1)), nI Bt', F2') → q_X1_beginRound N (nI rd) (nI S) (nI M) x11 x12 (nI Bt) lot f2 f3 V4 = some (nI (ht_H S M), nI (rd + 1), nI (ht_H S M), ht_B S M E', nI Bt', lot', F2', F3, V) := by
      intro E' Bt' F2' g
      unfold q_X1_beginRound ht_B
      rw [if_pos c, H]
      refine e_b mr (e_n s1 (e_n s0 (e_p cc ?_)))
      rw [e1]
      refine e_b g (e_b c3 (e_b cV ?_))
      rw [ed, nI_1]
    have hin : z_in (nI (M - 1)) 24 := e_in (by omega) (by omega)
    have hcl : Int32.toNatClampNeg (nI (M - 1)) = M - 1 := e_cl (by omega)
    have hp := ab (M - 1) (by omega)
    have hpin : z_in (nI (E1 (M - 1))) 24 := e_in (by omega) (by omega)
    have hpcl : Int32.toNatClampNeg (nI (E1 (M - 1))) = E1 (M - 1) := e_cl (by omega)
    have bb := bt_hasBit (N := N) (B := Bt) (k := E1 (M - 1)) (by omega) (by omega)
    have b11 := h11 (E1 (M - 1)) (by omega)
    have hv : nI (M - 1) - 1 = ht_v (M - 1) := ht_v_s
    by_cases t : Bt.testBit (E1 (M - 1)) = true
    · rw [if_pos t] at bb b11
      have nb : ¬ f11 (E1 (M - 1)) = 0 := by
        rw [b11]
        exact e_10
      rcases ht_lw (N := N) (show M ≤ 24 by omega) hR hB a2 a8 ab h11 N (M - 1) (by omega) (by omega) with ⟨k, k1, k2, k3⟩ | ⟨k2, k3⟩
      · have hk := ab k (by omega)
        obtain ⟨o1, o2⟩ := ht_bor (p := E1 k) hB (by omega)
        have sl : ht_sw E1 (M - 1) k (M - 1) = E1 k := ht_sw_l
        refine ⟨lot', ht_sw E1 (M - 1) k, Bt ||| 2 ^ E1 k, upd (upd F2 (M - 1) (F2 k)) k (F2 (M - 1)), F3, upd (upd F8 k (F8 (M - 1))) (M - 1) (F8 k), _, F12, F13, V, core1 ?_, ?_, o2, ht_r_sw a2 (by omega) (by omega), ?_, ht_b_sw ab (by omega) (by omega), ht_inj_sw aj (by omega) (by omega), ht_hb_up h11, d3, dV, d12, d13⟩
        · unfold q_X1_giveBye
          refine e_p hin ?_
          rw [hcl, a2 (M - 1) (by omega)]
          refine e_b bb (e_n e_10 ?_)
          have hl : q_X1_lastWithoutBye N (nI (M - 1)) (nI Bt) F2 = some (nI k) := by
            unfold q_X1_lastWithoutBye
            rw [hv]
            exact e_b k2 rfl
          refine e_b hl (e_b (ht_exch (by omega) (by omega)) (e_s ?_))
          have hx := ht_r_sw a2 (show M - 1 < M by omega) (show k < M by omega) (M - 1) (by omega)
          rw [hx, sl, o1, a2 (M - 1) (by omega)]
        · unfold q_X5_mix ht_B
          rw [if_pos c, e1]
          have h8l := a8 (M - 1) (by omega)
          refine e_b m2 ?_
          dsimp only
          refine e_n s0 (e_p cc (e_p hin (e_p (by rw [hcl, h8l]; exact hpin) ?_)))
          refine e_n (by rw [hcl, h8l, hpcl]; exact nb) ?_
          rw [hcl, h8l, hpcl]
          rw [hv]
          refine e_b k3 ?_
          refine e_n (nI_pos (by omega)) (e_p (e_in (by omega) (by omega)) ?_)
          rw [e_cl (n := k) (by omega), pk_us]
          refine e_s ?_
          rw [a8 k (by omega)]
          refine e_p (e_in (by omega) (by omega)) (e_b c12 (e_b c13 ?_))
          rw [e_cl (n := E1 k) (by omega), sl]
        · rw [ht_sw_c]
          exact ht_r_sw a8 (by omega) (by omega)
      · obtain ⟨o1, o2⟩ := ht_bor (p := E1 (M - 1)) hB (by omega)
        refine ⟨lot', E1, Bt ||| 2 ^ E1 (M - 1), upd (upd F2 (M - 1) (F2 (M - 1))) (M - 1) (F2 (M - 1)), F3, F8, _, F12, F13, V, core1 ?_, ?_, o2, ?_, a8, ab, aj, ht_hb_up h11, d3, dV, d12, d13⟩
        · unfold q_X1_giveBye
          refine e_p hin ?_
          rw [hcl, a2 (M - 1) (by omega)]
          refine e_b bb (e_n e_10 ?_)
          have hl : q_X1_lastWithoutBye N (nI (M - 1)) (nI Bt) F2 = some (nI (M - 1)) := by
            unfold q_X1_lastWithoutBye
            rw [hv]
            exact e_b k2 rfl
          refine e_b hl (e_b (ht_exch (by omega) (by omega)) (e_s ?_))
          rw [pk_us, a2 (M - 1) (by omega), o1]
        · unfold q_X5_mix ht_B
          rw [if_pos c, e1]
          have h8l := a8 (M - 1) (by omega)
          refine e_b m2 ?_
          dsimp only
          refine e_n s0 (e_p cc (e_p hin (e_p (by rw [hcl, h8l]; exact hpin) ?_)))
          refine e_n (by rw [hcl, h8l, hpcl]; exact nb) ?_
          rw [hcl, h8l, hpcl]
          rw [hv]
          refine e_b k3 ?_
          refine e_p (show (-1 : Int32) < 0 by decide) (e_b c12 (e_b c13 ?_))
          rfl
        · have := ht_r_sw a2 (show M - 1 < M by omega) (show M - 1 < M by omega)
          rw [ht_sw_self] at this
          exact this
    · rw [if_neg t] at bb b11
      obtain ⟨o1, o2⟩ := ht_bor (p := E1 (M - 1)) hB (by omega)
      refine ⟨lot', E1, Bt ||| 2 ^ E1 (M - 1), F2, F3, F8, _, F12, F13, V, core1 ?_, ?_, o2, a2, a8, ab, aj, ht_hb_up h11, d3, dV, d12, d13⟩
      · unfold q_X1_giveBye
        refine e_p hin ?_
        rw [hcl, a2 (M - 1) (by omega)]
        refine e_b bb (e_p rfl (e_s ?_))
        rw [o1]
      · unfold q_X5_mix ht_B
        rw [if_pos c, e1]
        have h8l := a8 (M - 1) (by omega)
        refine e_b m2 ?_
        dsimp only
        refine e_n s0 (e_p cc (e_p hin (e_p (by rw [hcl, h8l]; exact hpin) ?_)))
        refine e_p (by rw [hcl, h8l, hpcl]; exact b11) (e_b c12 (e_b c13 ?_))
        rw [hcl, h8l, hpcl]
  · have cc : ¬ z_rem (nI M) (nI S) = 1 := by
      rw [er]
      exact e_ne (b := 1) c (by omega) (by omega)
    refine ⟨lot', E1, Bt, F2, F3, F8, f11, F12, F13, V, ?_, ?_, hB, a2, a8, ab, aj, h11, d3, dV, d12, d13⟩
    · unfold q_X1_beginRound ht_B ht_H
      rw [if_neg c]
      refine e_b mr (e_n s1 (e_n s0 (e_n cc ?_)))
      by_cases d : M % S ≤ 1
      · rw [if_pos d, Nat.add_zero]
        refine e_p (by rw [er']; exact e_le (b := 1) d (by omega)) (e_b c3 (e_b cV ?_))
        rw [ed, nI_1]
      · rw [if_neg d]
        refine e_n (by rw [er']; exact e_nle (b := 1) (by omega) (by omega)) (e_b c3 (e_b cV ?_))
        rw [ed, nI_1, nI_1]
    · unfold q_X5_mix ht_B
      rw [if_neg c, e1]
      refine e_b m2 ?_
      dsimp only
      exact e_n s0 (e_n cc (e_b c12 (e_b c13 rfl)))

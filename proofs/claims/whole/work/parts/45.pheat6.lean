/-! ===== pure rows: heats, counts, winners, votes ===== -/
theorem ht_open {N R S M : Nat} {E : Nat → Nat} {f3 f12 : Nat → Int32} (hN : 60000 ≤ N) (hR : R ≤ 24) (hS : 2 ≤ S) (hS6 : S ≤ 6) (hM : 1 ≤ M) (hMR : M ≤ R) (hb : ht_b R M E) (hw : ∀ h, h < 12 → f3 h = f12 h) : ∃ c : Nat, c ≤ 24 ∧ q_X1_openHeats N (nI (ht_H S M)) f3 = some (nI c) ∧ q_X5_open N (nI S) (nI M) (ht_B S M E) f12 = some (nI c) ∧ (c = 0 → ∀ h, h < ht_H S M → ¬ f12 h = -1) := by
  have h12 := ht_H12 hS hS6 (show M ≤ 24 by omega)
  have hh := ht_heats (N := N) hS hS6 hM (show M ≤ 24 by omega) hR hb
  have L : ∀ (m i c : Nat), i ≤ ht_H S M → ht_H S M - i < m → c ≤ i → (c = 0 → ∀ h, h < i → ¬ f12 h = -1) → ∃ C : Nat, C ≤ ht_H S M ∧ q_X1_openHeats_L4 N (nI (ht_H S M)) f3 m (nI c) (nI i) = some (nI C) ∧ q_X5_open_L4 N (nI S) (nI M) (ht_B S M E) f12 m (nI c) (nI i) = some (nI C) ∧ (C = 0 → ∀ h, h < ht_H S M → ¬ f12 h = -1) := by
    intro m
    induction m with
    | zero => intro i c _ h; omega
    | succ m ih =>
      intro i c hi hm hc hz
      rw [q_X1_openHeats_L4, q_X5_open_L4]
      by_cases e : i = ht_H S M
      · subst e
        exact ⟨c, hc, e_p (e_le (Nat.le_refl _) (by omega)) rfl, e_b hh (e_p (e_le (Nat.le_refl _) (by omega)) rfl), hz⟩
      · have nle : ¬ nI (ht_H S M) ≤ nI i := e_nle (by omega) (by omega)
        have hin : z_in (nI i) 12 := e_in (by omega) (by omega)
        have hin2 : z_in (nI i) 24 := e_in (by omega) (by omega)
        have cl : Int32.toNatClampNeg (nI i) = i := e_cl (by omega)
        have ew := hw i (by omega)
        rw [nI_1, nI_1]
        by_cases d : f12 i = -1
        · obtain ⟨C, p1, p2, p3, p4⟩ := ih (i + 1) (c + 1) (by omega) (by omega) (by omega) (fun q => by omega)
          exact ⟨C, p1, e_n nle (e_p hin (e_p (by rw [cl, ew]; exact d) p2)), e_b hh (e_n nle (e_p hin2 (e_p (by rw [cl]; exact d) p3))), p4⟩
        · obtain ⟨C, p1, p2, p3, p4⟩ := ih (i + 1) c (by omega) (by omega) (by omega) (fun q h hl => by
            by_cases z : h = i
            · subst z; exact d
            · exact hz q h (by omega))
          exact ⟨C, p1, e_n nle (e_p hin (e_n (by rw [cl, ew]; exact d) p2)), e_b hh (e_n nle (e_p hin2 (e_n (by rw [cl]; exact d) p3))), p4⟩
  obtain ⟨C, p1, p2, p3, p4⟩ := L N 0 0 (Nat.zero_le _) (by omega) (Nat.le_refl _) (fun _ h hl => by omega)
  exact ⟨C, by omega, e_b p2 rfl, e_b p3 rfl, p4⟩
theorem ht_open0 {N : Nat} {f3 : Nat → Int32} (hN : 60000 ≤ N) : q_X1_openHeats N 0 f3 = some 0 := by
  unfold q_X1_openHeats
  obtain ⟨N', rfl⟩ : ∃ N', N = N' + 1 := ⟨N - 1, by omega⟩
  rw [q_X1_openHeats_L4]
  exact e_b (e_p (by decide) rfl) rfl
theorem P_count {N : Nat} (hN : 60000 ≤ N) {x1_5 : Int32} {x1_6 : Int32} {x1_7 : Int32} {x1_8 : Int32} {x1_9 : Int32} {x1_10 : Int32} {x1_11 : Int32} {x1_12 : Int32} {x1_13 : Int32} {x1_14 : Int32} {x1_15 : Int32} {f1_0 : (Nat → Int32)} {f1_1 : (Nat → Int32)} {f1_2 : (Nat → Int32)} {f1_3 : (Nat → Int32)} {V1_4 : (Nat → Nat → Int32)} {x5_1 : Int32} {x5_3 : Int32} {x5_4 : Int32} {x5_5 : Int32} {x5_6 : Int32} {x5_7 : Int32} {x5_9 : Int32} {x5_10 : Int32} {x5_14 : Int32} {f5_0 : (Nat → Int32)} {f5_2 : (Nat → Int32)} {f5_8 : (Nat → Int32)} {f5_11 : (Nat → Int32)} {f5_12 : (Nat → Int32)} {f5_13 : (Nat → Int32)} {f5_43 : (Nat → Int32)} (h : i_H x1_5 x1_6 x1_7 x1_8 x1_9 x1_10 x1_11 x1_12 x1_13 x1_14 x1_15 f1_0 f1_1 f1_2 f1_3 V1_4 x5_1 x5_3 x5_4 x5_5 x5_6 x5_7 x5_9 x5_10 x5_14 f5_0 f5_2 f5_8 f5_11 f5_12 f5_13 f5_43) (v1 : Int32) : ∃ (o1 : Int32) (o2 : Int32), q_X1_tell N v1 x1_5 x1_6 x1_8 x1_11 x1_12 x1_14 x1_15 f1_3 = some o1 ∧ q_X5_count N v1 x5_1 x5_3 x5_5 x5_6 x5_7 x5_9 x5_10 x5_14 f5_12 = some o2 ∧ o1 = o2 ∧ i_H x1_5 x1_6 x1_7 x1_8 x1_9 x1_10 x1_11 x1_12 x1_13 x1_14 x1_15 f1_0 f1_1 f1_2 f1_3 V1_4 x5_1 x5_3 x5_4 x5_5 x5_6 x5_7 x5_9 x5_10 x5_14 f5_0 f5_2 f5_8 f5_11 f5_12 f5_13 f5_43 := by
  have hh := h
  obtain ⟨R, J, hR, hJ, e1, e2, e3, e4, e5, e6, e7, e8, e9, hc⟩ := h
  suffices H : ∃ o : Int32, q_X1_tell N v1 x1_5 x1_6 x1_8 x1_11 x1_12 x1_14 x1_15 f1_3 = some o ∧ q_X5_count N v1 x5_1 x5_3 x5_5 x5_6 x5_7 x5_9 x5_10 x5_14 f5_12 = some o by
    obtain ⟨o, a, b⟩ := H
    exact ⟨o, o, a, b, rfl, hh⟩
  have Z : (x1_8 = x5_7) ∧ ((x5_7 = 0 ∧ x1_11 = 0 ∧ x1_12 = -1) ∨ (¬ x5_7 = 0 ∧ q_X5_heats N x5_5 x5_9 x5_10 = some x1_11 ∧ x1_12 = x5_10 ∧ ∃ o, q_X1_openHeats N x1_11 f1_3 = some o ∧ q_X5_open N x5_5 x5_9 x5_10 f5_12 = some o)) := by
    rcases hc with ⟨g1, g2, g3, g4, g5⟩ | hc
    · exact ⟨g2.trans g3.symm, Or.inl ⟨g3, g4, g5⟩⟩
    · obtain ⟨S, M, rd, Bt, E, hS, hS6, hM, hMR, hrd, hrd2, hB, ⟨c1, c2, c3, c4, c5, c6, c7, c8, c9, c10⟩, h2, h8, hb, hj, h11, hw, hw2, hV, hV2⟩ := hc
      subst c1 c2 c3 c4 c5 c6 c7 c8 c9
      obtain ⟨c, q1, q2, q3, q4⟩ := ht_open (N := N) hN hR hS hS6 hM hMR hb hw
      exact ⟨rfl, Or.inr ⟨nI_ne0 (by omega) (by omega), ht_heats hS hS6 hM (by omega) hR hb, rfl, _, q2, q3⟩⟩
  obtain ⟨z1, z2⟩ := Z
  unfold q_X1_tell q_X5_count
  by_cases c0 : v1 = 0
  · exact ⟨x1_5, e_p c0 rfl, e_p c0 (by rw [e1, e2])⟩
  by_cases c1 : v1 = 1
  · exact ⟨x1_6, e_n c0 (e_p c1 rfl), e_n c0 (e_p c1 (by rw [e3, e4]))⟩
  by_cases c2 : v1 = 2
  · exact ⟨x1_8, e_n c0 (e_n c1 (e_p c2 rfl)), e_n c0 (e_n c1 (e_p c2 (by rw [z1])))⟩
  by_cases c3 : v1 = 3
  · refine ⟨x1_11, e_n c0 (e_n c1 (e_n c2 (e_p c3 rfl))), e_n c0 (e_n c1 (e_n c2 (e_p c3 ?_)))⟩
    rcases z2 with ⟨a, b, c⟩ | ⟨a, b, c⟩
    · exact e_p a (by rw [b])
    · exact e_n a (e_b b rfl)
  by_cases c4 : v1 = 4
  · refine ⟨x1_12, e_n c0 (e_n c1 (e_n c2 (e_n c3 (e_p c4 rfl)))), e_n c0 (e_n c1 (e_n c2 (e_n c3 (e_p c4 ?_))))⟩
    rcases z2 with ⟨a, b, c⟩ | ⟨a, b, c, -⟩
    · exact e_p a (by rw [c])
    · exact e_n a (by rw [c])
  by_cases c5 : v1 = 5
  · exact ⟨x1_14, e_n c0 (e_n c1 (e_n c2 (e_n c3 (e_n c4 (e_p c5 rfl))))), e_n c0 (e_n c1 (e_n c2 (e_n c3 (e_n c4 (e_p c5 (by rw [e8]))))))⟩
  by_cases c6 : v1 = 6
  · exact ⟨x1_15, e_n c0 (e_n c1 (e_n c2 (e_n c3 (e_n c4 (e_n c5 (e_p c6 rfl)))))), e_n c0 (e_n c1 (e_n c2 (e_n c3 (e_n c4 (e_n c5 (e_p c6 (by rw [e7])))))))⟩
  by_cases c7 : v1 = 7
  · rcases z2 with ⟨a, b, c⟩ | ⟨a, b, c, o, p, q⟩
    · refine ⟨0, e_n c0 (e_n c1 (e_n c2 (e_n c3 (e_n c4 (e_n c5 (e_n c6 (e_p c7 ?_))))))), e_n c0 (e_n c1 (e_n c2 (e_n c3 (e_n c4 (e_n c5 (e_n c6 (e_p c7 (e_p a rfl))))))))⟩
      rw [b]
      exact e_b (ht_open0 hN) rfl
    · exact ⟨o, e_n c0 (e_n c1 (e_n c2 (e_n c3 (e_n c4 (e_n c5 (e_n c6 (e_p c7 (e_b p rfl)))))))), e_n c0 (e_n c1 (e_n c2 (e_n c3 (e_n c4 (e_n c5 (e_n c6 (e_p c7 (e_n a (e_b q rfl)))))))))⟩
  · exact ⟨-1, e_n c0 (e_n c1 (e_n c2 (e_n c3 (e_n c4 (e_n c5 (e_n c6 (e_n c7 rfl))))))), e_n c0 (e_n c1 (e_n c2 (e_n c3 (e_n c4 (e_n c5 (e_n c6 (e_n c7 rfl)))))))⟩
theorem ht_J {N R S M rd : Nat} {E : Nat → Nat} {f2 f8 : Nat → Int32} {v1 v2 g : Int32} (hN : 60000 ≤ N) (hg : ¬ g = 0) (hR : R ≤ 24) (hS : 2 ≤ S) (hS6 : S ≤ 6) (hM : 1 ≤ M) (hMR : M ≤ R) (hrd : 1 ≤ rd) (hrd2 : rd + M ≤ 26) (hb : ht_b R M E) (h2 : ht_r M E f2) (h8 : ht_r M E f8) : (∃ h, h < ht_H S M ∧ v1 = nI h ∧ ht_is S M E h v2 ∧ q_X1_isHeat N v1 (nI (ht_H S M)) = some 1 ∧ q_X1_isIn N v1 v2 (nI S) (nI M) (nI (ht_H S M)) f2 = some 1 ∧ q_X5_isIn N v1 v2 g (nI S) (nI rd) (nI M) (ht_B S M E) f8 = some 1) ∨ ((q_X1_isHeat N v1 (nI (ht_H S M)) = some 0 ∨ (q_X1_isHeat N v1 (nI (ht_H S M)) = some 1 ∧ q_X1_isIn N v1 v2 (nI S) (nI M) (nI (ht_H S M)) f2 = some 0)) ∧ q_X5_isIn N v1 v2 g (nI S) (nI rd) (nI M) (ht_B S M E) f8 = some 0) := by
  unfold q_X5_isIn
  rcases ht_isH (N := N) (v := v1) hR hS hS6 hM hMR hrd hrd2 hb with ⟨h, p1, p2, p3, p4⟩ | ⟨p3, p4⟩
  · subst p2
    rcases ht_isIn1 (N := N) (v := v2) hN hR hS hS6 hMR h2 hb p1 with ⟨a, b⟩ | ⟨a, b⟩
    · rcases ht_isIn5 (N := N) (v := v2) hN hR hS hS6 hM hMR h8 hb p1 with ⟨c, d⟩ | ⟨c, d⟩
      · exact Or.inl ⟨h, p1, rfl, a, p3, b, e_n hg (e_b p4 (e_n e_10 d))⟩
      · exact absurd a c
    · rcases ht_isIn5 (N := N) (v := v2) hN hR hS hS6 hM hMR h8 hb p1 with ⟨c, d⟩ | ⟨c, d⟩
      · exact absurd c a
      · exact Or.inr ⟨Or.inr ⟨p3, b⟩, e_n hg (e_b p4 (e_n e_10 d))⟩
  · exact Or.inr ⟨Or.inl p3, e_n hg (e_b p4 (e_p rfl rfl))⟩
theorem ht_w_up {S M h : Nat} {E : Nat → Nat} {f : Nat → Int32} {v : Int32} (hw : ht_w S M E f) (hv : ht_is S M E h v) : ht_w S M E (upd f h v) := by
  intro k hk
  by_cases e : k = h
  · subst e
    rw [pk_us]
    exact Or.inr hv
  · rw [pk_un e]
    exact hw k hk
theorem P_winner {N : Nat} (hN : 60000 ≤ N) {x1_5 : Int32} {x1_6 : Int32} {x1_7 : Int32} {x1_8 : Int32} {x1_9 : Int32} {x1_10 : Int32} {x1_11 : Int32} {x1_12 : Int32} {x1_13 : Int32} {x1_14 : Int32} {x1_15 : Int32} {f1_0 : (Nat → Int32)} {f1_1 : (Nat → Int32)} {f1_2 : (Nat → Int32)} {f1_3 : (Nat → Int32)} {V1_4 : (Nat → Nat → Int32)} {x5_1 : Int32} {x5_3 : Int32} {x5_4 : Int32} {x5_5 : Int32} {x5_6 : Int32} {x5_7 : Int32} {x5_9 : Int32} {x5_10 : Int32} {x5_14 : Int32} {f5_0 : (Nat → Int32)} {f5_2 : (Nat → Int32)} {f5_8 : (Nat → Int32)} {f5_11 : (Nat → Int32)} {f5_12 : (Nat → Int32)} {f5_13 : (Nat → Int32)} {f5_43 : (Nat → Int32)} (h : i_H x1_5 x1_6 x1_7 x1_8 x1_9 x1_10 x1_11 x1_12 x1_13 x1_14 x1_15 f1_0 f1_1 f1_2 f1_3 V1_4 x5_1 x5_3 x5_4 x5_5 x5_6 x5_7 x5_9 x5_10 x5_14 f5_0 f5_2 f5_8 f5_11 f5_12 f5_13 f5_43) (v1 : Int32) (v2 : Int32) : ∃ (o1 : (Int32 × (Nat → Int32))) (o2 : (Int32 × (Nat → Int32))), q_X1_setWinner N v1 v2 x1_7 x1_9 x1_10 x1_11 f1_2 f1_3 = some o1 ∧ q_X5_winner N v1 v2 x5_4 x5_5 x5_7 x5_9 x5_10 f5_8 f5_12 = some o2 ∧ o1.1 = o2.1 ∧ i_H x1_5 x1_6 x1_7 x1_8 x1_9 x1_10 x1_11 x1_12 x1_13 x1_14 x1_15 f1_0 f1_1 f1_2 o1.2 V1_4 x5_1 x5_3 x5_4 x5_5 x5_6 x5_7 x5_9 x5_10 x5_14 f5_0 f5_2 f5_8 f5_11 o2.2 f5_13 f5_43 := by
  have hh := h
  obtain ⟨R, J, hR, hJ, e1, e2, e3, e4, e5, e6, e7, e8, e9, hc⟩ := h
  subst e9
  unfold q_X1_setWinner q_X5_winner
  by_cases g : x1_7 = 0
  · refine ⟨(0, f1_3), (0, f5_12), e_p g rfl, ?_, rfl, hh⟩
    unfold q_X5_isIn
    exact e_b (e_p g rfl) (e_p rfl rfl)
  · rcases hc with ⟨q, -⟩ | hc
    · exact absurd q g
    obtain ⟨S, M, rd, Bt, E, hS, hS6, hM, hMR, hrd, hrd2, hB, ⟨c1, c2, c3, c4, c5, c6, c7, c8, c9, c10⟩, h2, h8, hb, hj, h11, hw, hw2, hV, hV2⟩ := hc
    subst c2 c3 c4 c5 c6 c7 c8 c9
    rcases ht_J (N := N) (v1 := v1) (v2 := v2) hN g hR hS hS6 hM hMR hrd hrd2 hb h2 h8 with ⟨h, p1, p2, p3, p4, p5, p6⟩ | ⟨p, q⟩
    · subst p2
      have h12 := ht_H12 hS hS6 (show M ≤ 24 by omega)
      have cl : Int32.toNatClampNeg (nI h) = h := e_cl (by omega)
      refine ⟨(1, upd f1_3 h v2), (1, upd f5_12 h v2), e_n g (e_b p4 (e_n e_10 (e_b p5 (e_n e_10 (e_p (e_in (by omega) (by omega)) (by rw [cl])))))), e_b p6 (e_n e_10 (e_p (e_in (by omega) (by omega)) (by rw [cl]))), rfl, R, J, hR, hJ, e1, e2, e3, e4, e5, e6, e7, e8, rfl, Or.inr ⟨S, M, rd, Bt, E, hS, hS6, hM, hMR, hrd, hrd2, hB, ⟨c1, rfl, rfl, rfl, rfl, rfl, rfl, rfl, rfl, c10⟩, h2, h8, hb, hj, h11, fun k hk => ?_, ht_w_up hw2 p3, hV, hV2⟩⟩
      show upd f1_3 h v2 k = upd f5_12 h v2 k
      by_cases e : k = h
      · subst e
        rw [pk_us, pk_us]
      · rw [pk_un e, pk_un e]
        exact hw k hk
    · rcases p with p | ⟨p, r⟩
      · exact ⟨_, _, e_n g (e_b p (e_p rfl rfl)), e_b q (e_p rfl rfl), rfl, hh⟩
      · exact ⟨_, _, e_n g (e_b p (e_n e_10 (e_b r (e_p rfl rfl)))), e_b q (e_p rfl rfl), rfl, hh⟩
theorem P_vote {N : Nat} (hN : 60000 ≤ N) {x1_5 : Int32} {x1_6 : Int32} {x1_7 : Int32} {x1_8 : Int32} {x1_9 : Int32} {x1_10 : Int32} {x1_11 : Int32} {x1_12 : Int32} {x1_13 : Int32} {x1_14 : Int32} {x1_15 : Int32} {f1_0 : (Nat → Int32)} {f1_1 : (Nat → Int32)} {f1_2 : (Nat → Int32)} {f1_3 : (Nat → Int32)} {V1_4 : (Nat → Nat → Int32)} {x5_1 : Int32} {x5_3 : Int32} {x5_4 : Int32} {x5_5 : Int32} {x5_6 : Int32} {x5_7 : Int32} {x5_9 : Int32} {x5_10 : Int32} {x5_14 : Int32} {f5_0 : (Nat → Int32)} {f5_2 : (Nat → Int32)} {f5_8 : (Nat → Int32)} {f5_11 : (Nat → Int32)} {f5_12 : (Nat → Int32)} {f5_13 : (Nat → Int32)} {f5_43 : (Nat → Int32)} (h : i_H x1_5 x1_6 x1_7 x1_8 x1_9 x1_10 x1_11 x1_12 x1_13 x1_14 x1_15 f1_0 f1_1 f1_2 f1_3 V1_4 x5_1 x5_3 x5_4 x5_5 x5_6 x5_7 x5_9 x5_10 x5_14 f5_0 f5_2 f5_8 f5_11 f5_12 f5_13 f5_43) (v1 : Int32) (v2 : Int32) (v3 : Int32) : ∃ (o1 : (Int32 × (Nat → Nat → Int32))) (o2 : (Int32 × (Nat → Int32))), q_X1_castVote N v1 v2 v3 x1_6 x1_7 x1_9 x1_10 x1_11 f1_2 V1_4 = some o1 ∧ q_X5_vote N v1 v2 v3 x5_3 x5_4 x5_5 x5_7 x5_9 x5_10 f5_8 f5_13 = some o2 ∧ o1.1 = o2.1 ∧ i_H x1_5 x1_6 x1_7 x1_8 x1_9 x1_10 x1_11 x1_12 x1_13 x1_14 x1_15 f1_0 f1_1 f1_2 f1_3 o1.2 x5_1 x5_3 x5_4 x5_5 x5_6 x5_7 x5_9 x5_10 x5_14 f5_0 f5_2 f5_8 f5_11 f5_12 o2.2 f5_43 := by
  have hh := h
  obtain ⟨R, J, hR, hJ, e1, e2, e3, e4, e5, e6, e7, e8, e9, hc⟩ := h
  subst e9 e3 e4
  unfold q_X1_castVote q_X5_vote
  rcases e_or v1 with hn | ⟨j, j1, j2⟩
  · exact ⟨_, _, e_p hn rfl, e_b (ht_in_neg hn) (e_p rfl rfl), rfl, hh⟩
  · subst j2
    have p0 : ¬ nI j < 0 := nI_pos j1
    have hi := ht_in_v (N := N) j1 (show J < 2 ^ 31 by omega)
    by_cases c : j < J
    · rw [if_pos c] at hi
      have nle : ¬ nI J ≤ nI j := e_nle c (by omega)
      by_cases g : x1_7 = 0
      · refine ⟨(0, V1_4), (0, f5_13), e_n p0 (e_n nle (e_p g rfl)), e_b hi (e_n e_10 ?_), rfl, hh⟩
        unfold q_X5_isIn
        exact e_b (e_p g rfl) (e_p rfl rfl)
      · rcases hc with ⟨q, -⟩ | hc
        · exact absurd q g
        obtain ⟨S, M, rd, Bt, E, hS, hS6, hM, hMR, hrd, hrd2, hB, ⟨c1, c2, c3, c4, c5, c6, c7, c8, c9, c10⟩, h2, h8, hb, hj, h11, hw, hw2, hV, hV2⟩ := hc
        subst c2 c3 c4 c5 c6 c7 c8 c9
        rcases ht_J (N := N) (v1 := v2) (v2 := v3) hN g hR hS hS6 hM hMR hrd hrd2 hb h2 h8 with ⟨h, p1, p2, p3, p4, p5, p6⟩ | ⟨p, q⟩
        · subst p2
          have h12 := ht_H12 hS hS6 (show M ≤ 24 by omega)
          have cl : Int32.toNatClampNeg (nI h) = h := e_cl (by omega)
          have clj : Int32.toNatClampNeg (nI j) = j := e_cl (by omega)
          have ix : (24 : Int32) * nI j + nI h = nI (24 * j + h) := by
            rw [← nI_add, ← pk_mul]
            rfl
          have clx : Int32.toNatClampNeg (nI (24 * j + h)) = 24 * j + h := e_cl (by omega)
          refine ⟨(1, z_up2 V1_4 j h v3), (1, upd f5_13 (24 * j + h) v3), e_n p0 (e_n nle (e_n g (e_b p4 (e_n e_10 (e_b p5 (e_n e_10 (e_p (e_in (by omega) (by omega)) (e_p (e_in (by omega) (by omega)) (by rw [cl, clj]))))))))), e_b hi (e_n e_10 (e_b p6 (e_n e_10 (e_p (by rw [ix]; exact e_in (by omega) (by omega)) (by rw [ix, clx]))))), rfl, R, J, hR, hJ, e1, e2, rfl, rfl, e5, e6, e7, e8, rfl, Or.inr ⟨S, M, rd, Bt, E, hS, hS6, hM, hMR, hrd, hrd2, hB, ⟨c1, rfl, rfl, rfl, rfl, rfl, rfl, rfl, rfl, c10⟩, h2, h8, hb, hj, h11, hw, hw2, fun a ha b hb' => ?_, fun a ha => ?_⟩⟩
          · show (if a = j then upd (V1_4 j) h v3 else V1_4 a) b = upd f5_13 (24 * j + h) v3 (24 * a + b)
            by_cases e : a = j
            · subst e
              rw [if_pos rfl]
              by_cases e2 : b = h
              · subst e2
                rw [pk_us, pk_us]
              · rw [pk_un e2, pk_un (by omega)]
                exact hV a ha b hb'
            · rw [if_neg e, pk_un (by omega)]
              exact hV a ha b hb'
          · intro k hk
            show upd f5_13 (24 * j + h) v3 (24 * a + k) = -1 ∨ ∃ i, i < ht_n S M k ∧ upd f5_13 (24 * j + h) v3 (24 * a + k) = nI (E (k * S + i))
            by_cases e : 24 * a + k = 24 * j + h
            · have ea : k = h := by omega
              rw [e, pk_us, ea]
              exact Or.inr p3
            · rw [pk_un e]
              exact hV2 a ha k hk
        · rcases p with p | ⟨p, r⟩
          · exact ⟨_, _, e_n p0 (e_n nle (e_n g (e_b p (e_p rfl rfl)))), e_b hi (e_n e_10 (e_b q (e_p rfl rfl))), rfl, hh⟩
          · exact ⟨_, _, e_n p0 (e_n nle (e_n g (e_b p (e_n e_10 (e_b r (e_p rfl rfl)))))), e_b hi (e_n e_10 (e_b q (e_p rfl rfl))), rfl, hh⟩
    · rw [if_neg c] at hi
      exact ⟨_, _, e_n p0 (e_p (e_le (by omega) j1) rfl), e_b hi (e_p rfl rfl), rfl, hh⟩

/-! ===== pure rows: chariots, ticks and calls ===== -/
theorem ch_ok_T {K T T' : Nat} {dl : Nat → Nat} {f : Nat → Int32} (h : ch_ok K T dl f) (ht : T ≤ T') : ch_ok K T' dl f := ⟨h.1, fun k hk h1 => by have := h.2 k hk h1; omega⟩
theorem ch_steps {N K L T : Nat} {dl na : Nat → Nat} {d a d' a' ln ln' f33 : Nat → Int32} {V8 : Nat → Nat → Int32} {x11 x12 : Int32} (hN : 60 ≤ N) (hK : K ≤ 8) (hL : L ≤ 8) (hT : T < 2 ^ 31) (hd : ch_d dl na d a) (hd' : ch_d dl na d' a') (hln : ch_e ln ln') (hV : ch_V V8 f33) : ∀ (m j : Nat) (c : Int32) (f2 f3 f4 f5 f6 g2 g3 g4 g5 g6 : Nat → Int32), 1 ≤ j → j ≤ 5 → 5 - j < m → ch_e f2 g2 → ch_e f3 g3 → ch_e f4 g4 → ch_e f5 g5 → ch_e f6 g6 → ch_ok K T dl f4 → ∃ (C : Int32) (F2 F3 F4 F5 F6 G2 G3 G4 G5 G6 : Nat → Int32), q_X2_passTick_L20 N (nI L) x11 x12 (nI K) (nI T) d ln a V8 m (nI j) c f2 f3 f4 f5 f6 = some (C, F2, F3, F4, F5, F6) ∧ q_X5_run_L90 N (nI L) x11 x12 (nI T) (nI K) ln' d' a' f33 m (nI j) c g4 g2 g3 g5 g6 = some (C, G4, G2, G3, G5, G6) ∧ ch_e F2 G2 ∧ ch_e F3 G3 ∧ ch_e F4 G4 ∧ ch_e F5 G5 ∧ ch_e F6 G6 ∧ ch_ok K T dl F4 := by
  intro m
  induction m with
  | zero => intro j c f2 f3 f4 f5 f6 g2 g3 g4 g5 g6 _ _ h; omega
  | succ m ih =>
    intro j c f2 f3 f4 f5 f6 g2 g3 g4 g5 g6 hj1 hj hm h2 h3 h4 h5 h6 hok
    rw [q_X2_passTick_L20, q_X5_run_L90, nI_1]
    by_cases h : j = 5
    · subst h
      exact ⟨c, f2, f3, f4, f5, f6, g2, g3, g4, g5, g6, e_p (e_lt (a := 4) (b := 5) (by omega) (by omega)) rfl, e_p (e_le (a := 5) (b := 5) (by omega) (by omega)) rfl, h2, h3, h4, h5, h6, hok⟩
    · obtain ⟨A2, A3, B2, B3, j1, j2, j3, j4⟩ := ch_go (N := N) (v1 := nI j) (x11 := x11) hK hT hd hd' h4 hok hV N 0 f2 f3 g2 g3 (Nat.zero_le _) (by omega) h2 h3
      obtain ⟨C1, A4, A5, A6, B4, B5, B6, k1, k2, k3, k4, k5, k6⟩ := ch_bh2 (N := N) (T := T) (x12 := x12) hN hK hL hln j4 N 0 c f4 f5 f6 g4 g5 g6 (Nat.zero_le _) (by omega) h4 h5 h6 hok
      obtain ⟨D4, D5, E4, E5, l1, l2, l3, l4, l5⟩ := ch_crash (N := N) (T := T) hN hK k6 k3 hln j3 k4
      obtain ⟨C, F2, F3, F4, F5, F6, G2, G3, G4, G5, G6, i1, i2, i3⟩ := ih (j + 1) C1 A2 A3 D4 D5 A6 B2 B3 E4 E5 B6 (by omega) (by omega) (by omega) j3 j4 l3 l4 k5 l5
      have cg : q_X2_goForward N (nI j) x11 (nI K) (nI T) d f2 f3 f4 a V8 = some (A2, A3) := by
        unfold q_X2_goForward
        exact e_b j1 rfl
      have cb : q_X2_bringHome N (nI L) x12 (nI K) (nI T) c ln A3 f4 f5 f6 = some (C1, A4, A5, A6) := by
        unfold q_X2_bringHome
        exact e_b k1 rfl
      have ms : q_X5_step N (nI j) (nI L) x11 x12 (nI T) (nI K) c g4 ln' g2 g3 g5 g6 d' a' f33 = some (C1, E4, B2, B3, E5, B6) := by
        unfold q_X5_step
        exact e_b j2 (e_b k2 (e_b l2 rfl))
      refine ⟨C, F2, F3, F4, F5, F6, G2, G3, G4, G5, G6, e_n (e_nlt (a := 4) (b := j) (by omega) (by omega)) (e_b cg (e_b cb (e_b l1 i1))), e_n (e_nle (a := 5) (b := j) (by omega) (by omega)) (e_b ms i2), i3⟩
theorem ch_run {N K L n : Nat} {dl na : Nat → Nat} {d a d' a' f33 f34 : Nat → Int32} {V8 V9 : Nat → Nat → Int32} {x11 x12 : Int32} (hN : 60 ≤ N) (hK : K ≤ 8) (hL : L ≤ 8) (hL0 : 0 < L) (hn : n ≤ 200) (hd : ch_d dl na d a) (hd' : ch_d dl na d' a') (hdd : ch_e d d') (hV : ch_V V8 f33) (hV9 : ch_V V9 f34) : ∀ (m j T : Nat) (c : Int32) (f1 f2 f3 f4 f5 f6 g1 g2 g3 g4 g5 g6 : Nat → Int32), j ≤ n → n - j < m → T + (n - j) < 2 ^ 30 → ch_e f1 g1 → ch_e f2 g2 → ch_e f3 g3 → ch_e f4 g4 → ch_e f5 g5 → ch_e f6 g6 → ch_ok K T dl f4 → ∃ (C : Int32) (F1 F2 F3 F4 F5 F6 G1 G2 G3 G4 G5 G6 : Nat → Int32), q_X2_pass_L22 N (nI n) (nI L) x11 x12 (nI K) d a V8 V9 m (nI j) (nI T) c f1 f2 f3 f4 f5 f6 = some (nI (T + (n - j)), C, F1, F2, F3, F4, F5, F6) ∧ q_X5_run_L22 N (nI n) (nI L) x11 x12 (nI K) d' a' f33 f34 m (nI j) (nI T) c g4 g1 g2 g3 g5 g6 = some (nI (T + (n - j)), C, G4, G1, G2, G3, G5, G6) ∧ ch_e F1 G1 ∧ ch_e F2 G2 ∧ ch_e F3 G3 ∧ ch_e F4 G4 ∧ ch_e F5 G5 ∧ ch_e F6 G6 ∧ ch_ok K (T + (n - j)) dl F4 := by
  intro m
  induction m with
  | zero => intro j T c f1 f2 f3 f4 f5 f6 g1 g2 g3 g4 g5 g6 _ h; omega
  | succ m ih =>
    intro j T c f1 f2 f3 f4 f5 f6 g1 g2 g3 g4 g5 g6 hj hm hT h1 h2 h3 h4 h5 h6 hok
    rw [q_X2_pass_L22, q_X5_run_L22, nI_1, nI_1]
    by_cases h : j = n
    · subst h
      rw [Nat.sub_self, Nat.add_zero]
      exact ⟨c, f1, f2, f3, f4, f5, f6, g1, g2, g3, g4, g5, g6, e_p (e_le (Nat.le_refl _) (by omega)) rfl, e_p (e_le (Nat.le_refl _) (by omega)) rfl, h1, h2, h3, h4, h5, h6, hok⟩
    · have hT1 : T + 1 < 2 ^ 31 := by omega
      obtain ⟨A4, B4, a1, a2, a3, a4⟩ := ch_let (N := N) (T := T + 1) (dl := dl) hK hT1 (by omega) (fun k hk => ⟨(hd k hk).1, (hd k hk).2.1⟩) hdd N 0 f4 g4 (Nat.zero_le _) (by omega) h4 (ch_ok_T hok (by omega))
      obtain ⟨C4, C5, D4, D5, b1, b2, b3, b4, b5⟩ := ch_crash (N := N) (T := T + 1) hN hK a4 a3 h1 h2 h5
      obtain ⟨C, F2, F3, F4, F5, F6, G2, G3, G4, G5, G6, c1, c2, c3, c4, c5, c6, c7, c8⟩ := ch_steps (N := N) (L := L) (x11 := x11) (x12 := x12) hN hK hL hT1 hd hd' h1 hV N 1 c f2 f3 C4 C5 f6 g2 g3 D4 D5 g6 (by omega) (by omega) (by omega) h2 h3 b3 b4 h6 b5
      obtain ⟨F1, G1, d1, d2, d3⟩ := ch_cl (N := N) (L := L) hK hL hL0 hT1 hd hd' c5 c8 hV9 N 0 f1 g1 (Nat.zero_le _) (by omega) h1
      obtain ⟨I4, I5, J4, J5, e1, e2, e3, e4, e5⟩ := ch_crash (N := N) (T := T + 1) hN hK c8 c5 d3 c3 c6
      obtain ⟨Z, P1, P2, P3, P4, P5, P6, Q1, Q2, Q3, Q4, Q5, Q6, i1, i2, i3, i4, i5, i6, i7, i8, i9⟩ := ih (j + 1) (T + 1) C F1 F2 F3 I4 I5 F6 G1 G2 G3 J4 J5 G6 (by omega) (by omega) (by omega) d3 c3 c4 e3 e4 c7 e5
      rw [show T + 1 + (n - (j + 1)) = T + (n - j) by omega] at i1 i2 i9
      have cl : q_X2_letIn N (nI K) (nI (T + 1)) d f4 = some A4 := by
        unfold q_X2_letIn
        exact e_b a1 rfl
      have cc : q_X2_changeLanes N (nI L) (nI K) (nI (T + 1)) d f1 F4 a V9 = some F1 := by
        unfold q_X2_changeLanes
        exact e_b d1 rfl
      have ct : q_X2_passTick N (nI L) x11 x12 (nI K) (nI T) c d f1 f2 f3 f4 f5 f6 a V8 V9 = some (nI (T + 1), C, F1, F2, F3, I4, I5, F6) := by
        unfold q_X2_passTick
        rw [nI_1]
        exact e_b cl (e_b b1 (e_b c1 (e_b cc (e_b e1 rfl))))
      exact ⟨Z, P1, P2, P3, P4, P5, P6, Q1, Q2, Q3, Q4, Q5, Q6, e_n (e_nle (by omega) (by omega)) (e_b ct i1), e_n (e_nle (by omega) (by omega)) (e_b a2 (e_b b2 (e_b c2 (e_b d2 (e_b e2 i2))))), i3, i4, i5, i6, i7, i8, i9⟩
theorem ch_cnt {N K : Nat} {st st' : Nat → Int32} (hK : K ≤ 8) (h : ch_e st st') : ∀ (m i : Nat) (c : Int32), i ≤ K → K - i < m → ∃ C : Int32, q_X2_pass_L41 N (nI K) st m c (nI i) = some C ∧ q_X5_run_L200 N (nI K) st' m c (nI i) = some C := by
  intro m
  induction m with
  | zero => intro i c _ h; omega
  | succ m ih =>
    intro i c hi hm
    rw [q_X2_pass_L41, q_X5_run_L200, nI_1]
    by_cases hh : i = K
    · subst hh
      exact ⟨c, e_p (e_le (Nat.le_refl _) (by omega)) rfl, e_p (e_le (Nat.le_refl _) (by omega)) rfl⟩
    · have hin : z_in (nI i) 8 := e_in (by omega) (by omega)
      have nle : ¬ nI K ≤ nI i := e_nle (by omega) (by omega)
      have es := h i (by omega)
      rw [if_neg nle, if_neg nle, if_pos hin, if_pos hin, e_cl (n := i) (by omega)]
      by_cases c1 : st i = 1
      · obtain ⟨C, i1, i2⟩ := ih (i + 1) (c + 1) (by omega) (by omega)
        exact ⟨C, e_p c1 i1, e_p (es ▸ c1) i2⟩
      · obtain ⟨C, i1, i2⟩ := ih (i + 1) c (by omega) (by omega)
        exact ⟨C, e_n c1 i1, e_n (es ▸ c1) i2⟩
def i_C (i : Nat) (x2_10 x2_11 x2_12 x2_13 x2_14 x2_15 : Int32) (f2_0 f2_1 f2_2 f2_3 f2_4 f2_5 f2_6 f2_7 : Nat → Int32) (V2_8 V2_9 : Nat → Nat → Int32) (x5_19 x5_20 x5_21 x5_22 x5_23 x5_24 : Int32) (f5_25 f5_26 f5_27 f5_28 f5_29 f5_30 f5_31 f5_32 f5_33 f5_34 : Nat → Int32) : Prop :=
  ∃ (L K T : Nat) (dl na : Nat → Nat), L ≤ 8 ∧ K ≤ 8 ∧ T ≤ 200 * i ∧ (L = 0 → K = 0) ∧ x2_10 = nI L ∧ x5_19 = nI L ∧ x2_11 = x5_20 ∧ x2_12 = x5_21 ∧ x2_13 = nI K ∧ x5_23 = nI K ∧ x2_14 = nI T ∧ x5_22 = nI T ∧ x2_15 = x5_24 ∧ ch_d dl na f2_0 f2_7 ∧ ch_e f2_0 f5_31 ∧ ch_e f2_7 f5_32 ∧ ch_e f2_1 f5_26 ∧ ch_e f2_2 f5_27 ∧ ch_e f2_3 f5_28 ∧ ch_e f2_4 f5_25 ∧ ch_e f2_5 f5_29 ∧ ch_e f2_6 f5_30 ∧ ch_V V2_8 f5_33 ∧ ch_V V2_9 f5_34 ∧ ch_ok K T dl f2_4
section ZPC
variable {N : Nat} {x2_10 x2_11 x2_12 x2_13 x2_14 x2_15 : Int32} {f2_0 f2_1 f2_2 f2_3 f2_4 f2_5 f2_6 f2_7 : Nat → Int32} {V2_8 V2_9 : Nat → Nat → Int32} {x5_19 x5_20 x5_21 x5_22 x5_23 x5_24 : Int32} {f5_25 f5_26 f5_27 f5_28 f5_29 f5_30 f5_31 f5_32 f5_33 f5_34 : Nat → Int32} {i : Nat}
theorem i_C_mono {i' : Nat} (hi : i ≤ i') (h : i_C i x2_10 x2_11 x2_12 x2_13 x2_14 x2_15 f2_0 f2_1 f2_2 f2_3 f2_4 f2_5 f2_6 f2_7 V2_8 V2_9 x5_19 x5_20 x5_21 x5_22 x5_23 x5_24 f5_25 f5_26 f5_27 f5_28 f5_29 f5_30 f5_31 f5_32 f5_33 f5_34) : i_C i' x2_10 x2_11 x2_12 x2_13 x2_14 x2_15 f2_0 f2_1 f2_2 f2_3 f2_4 f2_5 f2_6 f2_7 V2_8 V2_9 x5_19 x5_20 x5_21 x5_22 x5_23 x5_24 f5_25 f5_26 f5_27 f5_28 f5_29 f5_30 f5_31 f5_32 f5_33 f5_34 := by
  obtain ⟨L, K, T, dl, na, h1, h2, h3, h4⟩ := h
  exact ⟨L, K, T, dl, na, h1, h2, by omega, h4⟩
end ZPC
theorem ch_e_up0 {f : Nat → Int32} {k : Nat} {x : Int32} {P : Nat → Int32 → Prop} (h : ∀ j, j < 8 → P j (f j)) (hx : P k x) : ∀ j, j < 8 → P j (upd f k x j) := fun j hj => by
  by_cases e : j = k
  · subst e; rw [pk_us]; exact hx
  · rw [pk_un e]; exact h j hj
section ZPD
variable {N : Nat} {x2_10 x2_11 x2_12 x2_13 x2_14 x2_15 : Int32} {f2_0 f2_1 f2_2 f2_3 f2_4 f2_5 f2_6 f2_7 : Nat → Int32} {V2_8 V2_9 : Nat → Nat → Int32} {x5_19 x5_20 x5_21 x5_22 x5_23 x5_24 : Int32} {f5_25 f5_26 f5_27 f5_28 f5_29 f5_30 f5_31 f5_32 f5_33 f5_34 : Nat → Int32} {i : Nat}
theorem P_run (hN : 60000 ≤ N) (hi : i ≤ 4000) (h : i_C i x2_10 x2_11 x2_12 x2_13 x2_14 x2_15 f2_0 f2_1 f2_2 f2_3 f2_4 f2_5 f2_6 f2_7 V2_8 V2_9 x5_19 x5_20 x5_21 x5_22 x5_23 x5_24 f5_25 f5_26 f5_27 f5_28 f5_29 f5_30 f5_31 f5_32 f5_33 f5_34) (v1 : Int32) : ∃ (o1 : (Int32 × Int32 × Int32 × (Nat → Int32) × (Nat → Int32) × (Nat → Int32) × (Nat → Int32) × (Nat → Int32) × (Nat → Int32))) (o2 : (Int32 × Int32 × Int32 × (Nat → Int32) × (Nat → Int32) × (Nat → Int32) × (Nat → Int32) × (Nat → Int32) × (Nat → Int32))), q_X2_pass N v1 x2_10 x2_11 x2_12 x2_13 x2_14 x2_15 f2_0 f2_1 f2_2 f2_3 f2_4 f2_5 f2_6 f2_7 V2_8 V2_9 = some o1 ∧ q_X5_run N v1 x5_19 x5_20 x5_21 x5_22 x5_23 x5_24 f5_25 f5_26 f5_27 f5_28 f5_29 f5_30 f5_31 f5_32 f5_33 f5_34 = some o2 ∧ o1.1 = o2.1 ∧ i_C (i + 7) x2_10 x2_11 x2_12 x2_13 o1.2.1 o1.2.2.1 f2_0 o1.2.2.2.1 o1.2.2.2.2.1 o1.2.2.2.2.2.1 o1.2.2.2.2.2.2.1 o1.2.2.2.2.2.2.2.1 o1.2.2.2.2.2.2.2.2 f2_7 V2_8 V2_9 x5_19 x5_20 x5_21 o2.2.1 x5_23 o2.2.2.1 o2.2.2.2.1 o2.2.2.2.2.1 o2.2.2.2.2.2.1 o2.2.2.2.2.2.2.1 o2.2.2.2.2.2.2.2.1 o2.2.2.2.2.2.2.2.2 f5_31 f5_32 f5_33 f5_34 := by
  have h' := i_C_mono (i' := i + 7) (by omega) h
  obtain ⟨L, K, T, dl, na, hL, hK, hT, hLK, rfl, rfl, rfl, rfl, rfl, rfl, rfl, rfl, rfl, hd, e0, e7, e1, e2, e3, e4, e5, e6, V8, V9, hok⟩ := h
  by_cases c0 : L = 0
  · subst c0
    refine ⟨((-1), nI T, x2_15, f2_1, f2_2, f2_3, f2_4, f2_5, f2_6), ((-1), nI T, x2_15, f5_25, f5_26, f5_27, f5_28, f5_29, f5_30), ?_, ?_, rfl, h'⟩
    · unfold q_X2_pass
      exact e_p rfl rfl
    · unfold q_X5_run
      exact e_p rfl rfl
  · have hLn : ¬ nI L = 0 := e_ne (b := 0) c0 (by omega) (by omega)
    rcases e_or v1 with hv | ⟨v, hv, rfl⟩
    · refine ⟨((-1), nI T, x2_15, f2_1, f2_2, f2_3, f2_4, f2_5, f2_6), ((-1), nI T, x2_15, f5_25, f5_26, f5_27, f5_28, f5_29, f5_30), ?_, ?_, rfl, h'⟩
      · unfold q_X2_pass
        exact e_n hLn (e_p hv rfl)
      · unfold q_X5_run
        exact e_n hLn (e_b (q_in_n (lo := 0) hv (by omega)) (e_p rfl rfl))
    · by_cases c1 : v ≤ 200
      · obtain ⟨C, F1, F2, F3, F4, F5, F6, G1, G2, G3, G4, G5, G6, i1, i2, i3, i4, i5, i6, i7, i8, i9⟩ := ch_run (N := N) (x11 := x2_11) (x12 := x2_12) (by omega) hK hL (by omega) c1 hd (ch_d_e hd e0 e7) e0 V8 V9 N 0 T x2_15 f2_1 f2_2 f2_3 f2_4 f2_5 f2_6 f5_26 f5_27 f5_28 f5_25 f5_29 f5_30 (Nat.zero_le _) (by omega) (by omega) e1 e2 e3 e4 e5 e6 hok
        obtain ⟨Z, z1, z2⟩ := ch_cnt (N := N) hK i6 N 0 0 (Nat.zero_le _) (by omega)
        refine ⟨(Z, nI (T + (v - 0)), C, F1, F2, F3, F4, F5, F6), (Z, nI (T + (v - 0)), C, G4, G1, G2, G3, G5, G6), ?_, ?_, rfl, ?_⟩
        · unfold q_X2_pass
          exact e_n hLn (e_n (nI_pos hv) (e_p (e_le (b := 200) c1 (by omega)) (e_b i1 (e_b z1 rfl))))
        · unfold q_X5_run
          exact e_n hLn (e_b (q_in_1 (lo := 0) (hi := 200) (by omega) c1 hv (by omega)) (e_n e_10 (e_b i2 (e_b z2 rfl))))
        · exact ⟨L, K, T + (v - 0), dl, na, hL, hK, by omega, hLK, rfl, rfl, rfl, rfl, rfl, rfl, rfl, rfl, rfl, hd, e0, e7, i3, i4, i5, i6, i7, i8, V8, V9, i9⟩
      · refine ⟨((-1), nI T, x2_15, f2_1, f2_2, f2_3, f2_4, f2_5, f2_6), ((-1), nI T, x2_15, f5_25, f5_26, f5_27, f5_28, f5_29, f5_30), ?_, ?_, rfl, h'⟩
        · unfold q_X2_pass
          exact e_n hLn (e_n (nI_pos hv) (e_n (e_nle (b := 200) (by omega) hv) rfl))
        · unfold q_X5_run
          exact e_n hLn (e_b (q_in_0 (lo := 0) (hi := 200) (by omega) hv (by omega)) (e_p rfl rfl))
theorem P_track (hN : 60000 ≤ N) (hi : i ≤ 4000) (h : i_C i x2_10 x2_11 x2_12 x2_13 x2_14 x2_15 f2_0 f2_1 f2_2 f2_3 f2_4 f2_5 f2_6 f2_7 V2_8 V2_9 x5_19 x5_20 x5_21 x5_22 x5_23 x5_24 f5_25 f5_26 f5_27 f5_28 f5_29 f5_30 f5_31 f5_32 f5_33 f5_34) (v1 v2 v3 : Int32) : ∃ (o1 : (Int32 × Int32 × Int32 × Int32 × Int32 × Int32 × Int32)) (o2 : (Int32 × Int32 × Int32 × Int32 × Int32 × Int32 × Int32)), q_X2_layOut N v1 v2 v3 x2_10 x2_11 x2_12 x2_13 x2_14 x2_15 = some o1 ∧ q_X5_track N v1 v2 v3 x5_19 x5_20 x5_21 x5_22 x5_23 x5_24 = some o2 ∧ o1.1 = o2.1 ∧ i_C (i + 7) o1.2.1 o1.2.2.1 o1.2.2.2.1 o1.2.2.2.2.1 o1.2.2.2.2.2.1 o1.2.2.2.2.2.2 f2_0 f2_1 f2_2 f2_3 f2_4 f2_5 f2_6 f2_7 V2_8 V2_9 o2.2.1 o2.2.2.1 o2.2.2.2.1 o2.2.2.2.2.1 o2.2.2.2.2.2.1 o2.2.2.2.2.2.2 f5_25 f5_26 f5_27 f5_28 f5_29 f5_30 f5_31 f5_32 f5_33 f5_34 := by
  have h' := i_C_mono (i' := i + 7) (by omega) h
  have no : (q_X2_layOut N v1 v2 v3 x2_10 x2_11 x2_12 x2_13 x2_14 x2_15 = some (0, x2_10, x2_11, x2_12, x2_13, x2_14, x2_15) ∧ q_X5_track N v1 v2 v3 x5_19 x5_20 x5_21 x5_22 x5_23 x5_24 = some (0, x5_19, x5_20, x5_21, x5_22, x5_23, x5_24)) → ∃ (o1 : (Int32 × Int32 × Int32 × Int32 × Int32 × Int32 × Int32)) (o2 : (Int32 × Int32 × Int32 × Int32 × Int32 × Int32 × Int32)), q_X2_layOut N v1 v2 v3 x2_10 x2_11 x2_12 x2_13 x2_14 x2_15 = some o1 ∧ q_X5_track N v1 v2 v3 x5_19 x5_20 x5_21 x5_22 x5_23 x5_24 = some o2 ∧ o1.1 = o2.1 ∧ i_C (i + 7) o1.2.1 o1.2.2.1 o1.2.2.2.1 o1.2.2.2.2.1 o1.2.2.2.2.2.1 o1.2.2.2.2.2.2 f2_0 f2_1 f2_2 f2_3 f2_4 f2_5 f2_6 f2_7 V2_8 V2_9 o2.2.1 o2.2.2.1 o2.2.2.2.1 o2.2.2.2.2.1 o2.2.2.2.2.2.1 o2.2.2.2.2.2.2 f5_25 f5_26 f5_27 f5_28 f5_29 f5_30 f5_31 f5_32 f5_33 f5_34 := fun q => ⟨_, _, q.1, q.2, rfl, h'⟩
  rcases e_or v1 with hv | ⟨v, hv, rfl⟩
  · exact no ⟨by unfold q_X2_layOut; exact e_p (e_neg_lt (n := 1) hv (by omega)) rfl, by unfold q_X5_track; exact e_b (q_in_n (lo := 1) hv (by omega)) (e_p rfl rfl)⟩
  by_cases a1 : v < 1
  · exact no ⟨by unfold q_X2_layOut; exact e_p (e_lt (b := 1) a1 (by omega)) rfl, by unfold q_X5_track; exact e_b (q_in_0 (lo := 1) (hi := 8) (by omega) hv (by omega)) (e_p rfl rfl)⟩
  have a1' : ¬ nI v < 1 := e_nlt (b := 1) (by omega) hv
  by_cases a2 : 8 < v
  · exact no ⟨by unfold q_X2_layOut; exact e_n a1' (e_p (e_lt (a := 8) a2 hv) rfl), by unfold q_X5_track; exact e_b (q_in_0 (lo := 1) (hi := 8) (by omega) hv (by omega)) (e_p rfl rfl)⟩
  have a2' : ¬ 8 < nI v := e_nlt (a := 8) (by omega) (by omega)
  have a3 : q_X5_in N (nI v) 1 8 = some 1 := q_in_1 (lo := 1) (hi := 8) (by omega) (by omega) hv (by omega)
  rcases e_or v2 with hw | ⟨w, hw, rfl⟩
  · exact no ⟨by unfold q_X2_layOut; exact e_n a1' (e_n a2' (e_p (e_neg_lt (n := 4) hw (by omega)) rfl)), by unfold q_X5_track; exact e_b a3 (e_n e_10 (e_b (q_in_n (lo := 4) hw (by omega)) (e_p rfl rfl)))⟩
  by_cases b1 : w < 4
  · exact no ⟨by unfold q_X2_layOut; exact e_n a1' (e_n a2' (e_p (e_lt (b := 4) b1 (by omega)) rfl)), by unfold q_X5_track; exact e_b a3 (e_n e_10 (e_b (q_in_0 (lo := 4) (hi := 60) (by omega) hw (by omega)) (e_p rfl rfl)))⟩
  have b1' : ¬ nI w < 4 := e_nlt (b := 4) (by omega) hw
  by_cases b2 : 60 < w
  · exact no ⟨by unfold q_X2_layOut; exact e_n a1' (e_n a2' (e_n b1' (e_p (e_lt (a := 60) b2 hw) rfl))), by unfold q_X5_track; exact e_b a3 (e_n e_10 (e_b (q_in_0 (lo := 4) (hi := 60) (by omega) hw (by omega)) (e_p rfl rfl)))⟩
  have b2' : ¬ 60 < nI w := e_nlt (a := 60) (by omega) (by omega)
  have b3 : q_X5_in N (nI w) 4 60 = some 1 := q_in_1 (lo := 4) (hi := 60) (by omega) (by omega) hw (by omega)
  rcases e_or v3 with hz | ⟨z, hz, rfl⟩
  · exact no ⟨by unfold q_X2_layOut; exact e_n a1' (e_n a2' (e_n b1' (e_n b2' (e_p (e_neg_lt (n := 1) hz (by omega)) rfl)))), by unfold q_X5_track; exact e_b a3 (e_n e_10 (e_b b3 (e_n e_10 (e_b (q_in_n (lo := 1) hz (by omega)) (e_p rfl rfl)))))⟩
  by_cases c1 : z < 1
  · exact no ⟨by unfold q_X2_layOut; exact e_n a1' (e_n a2' (e_n b1' (e_n b2' (e_p (e_lt (b := 1) c1 (by omega)) rfl)))), by unfold q_X5_track; exact e_b a3 (e_n e_10 (e_b b3 (e_n e_10 (e_b (q_in_0 (lo := 1) (hi := 9) (by omega) hz (by omega)) (e_p rfl rfl)))))⟩
  have c1' : ¬ nI z < 1 := e_nlt (b := 1) (by omega) hz
  by_cases c2 : z ≤ 9
  · obtain ⟨L, K, T, dl, na, hL, hK, hT, hLK, rfl, rfl, rfl, rfl, rfl, rfl, rfl, rfl, rfl, hd, e0, e7, e1, e2, e3, e4, e5, e6, V8, V9, hok⟩ := h
    refine ⟨(1, nI v, nI w, nI z, 0, 0, 0), (1, nI v, nI w, nI z, 0, 0, 0), ?_, ?_, rfl, ?_⟩
    · unfold q_X2_layOut
      exact e_n a1' (e_n a2' (e_n b1' (e_n b2' (e_n c1' (e_p (e_le (b := 9) c2 (by omega)) rfl)))))
    · unfold q_X5_track
      exact e_b a3 (e_n e_10 (e_b b3 (e_n e_10 (e_b (q_in_1 (lo := 1) (hi := 9) (by omega) c2 hz (by omega)) (e_n e_10 rfl)))))
    · exact ⟨v, 0, 0, dl, na, by omega, by omega, by omega, fun _ => rfl, rfl, rfl, rfl, rfl, rfl, rfl, rfl, rfl, rfl, hd, e0, e7, e1, e2, e3, e4, e5, e6, V8, V9, hok.1, fun k hk => by omega⟩
  · exact no ⟨by unfold q_X2_layOut; exact e_n a1' (e_n a2' (e_n b1' (e_n b2' (e_n c1' (e_n (e_nle (b := 9) (by omega) hz) rfl))))), by unfold q_X5_track; exact e_b a3 (e_n e_10 (e_b b3 (e_n e_10 (e_b (q_in_0 (lo := 1) (hi := 9) (by omega) hz (by omega)) (e_p rfl rfl)))))⟩
end ZPD

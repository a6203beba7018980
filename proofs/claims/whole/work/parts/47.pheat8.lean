/-! ===== pure rows: heats, the next round ===== -/
def ht_lo (R B : Nat) : Prop := B < 2 ^ 24 ∧ ∀ k, R ≤ k → B.testBit k = false
theorem ht_lo_up {R B w : Nat} (h : ht_lo R B) (hR : R ≤ 24) (hw : w < R) : ht_lo R (B ||| 2 ^ w) := by
  refine ⟨Nat.or_lt_two_pow h.1 (Nat.pow_lt_pow_right (by omega) (by omega)), fun k hk => ?_⟩
  rw [Nat.testBit_or, Nat.testBit_two_pow, h.2 k hk]
  simp
  omega
theorem ht_cor {B w n : Nat} : ct ((B ||| 2 ^ w).testBit) n ≤ ct (B.testBit) n + 1 := (ct_or (p := B.testBit) (q := (B ||| 2 ^ w).testBit) (w := w) (fun k hk => by
  have e2 : ¬ w = k := fun q => hk q.symm
  rw [Nat.testBit_or, Nat.testBit_two_pow]
  simp [e2])).1
theorem ht_bits {N R H : Nat} {f3 f12 : Nat → Int32} (hR : R ≤ 24) (hH : H ≤ 12) (hw : ∀ h, h < 12 → f3 h = f12 h) (hf : ∀ h, h < H → ∃ w, w < R ∧ f12 h = nI w) : ∀ (m i B : Nat) (f : Nat → Int32), i ≤ H → H - i < m → ht_lo R B → ht_hb B f → ∃ (B' : Nat) (F : Nat → Int32), q_X1_goOn_L80 N (nI H) f3 m (nI B) (nI i) = some (nI B') ∧ q_X5_next_L117 N (nI H) f12 m (nI i) f = some F ∧ ht_lo R B' ∧ ht_hb B' F ∧ ct (B'.testBit) 24 ≤ ct (B.testBit) 24 + (H - i) ∧ ((i < H ∨ ∃ k, k < R ∧ B.testBit k = true) → ∃ k, k < R ∧ B'.testBit k = true) := by
  intro m
  induction m with
  | zero => intro i _ _ _ h; omega
  | succ m ih =>
    intro i B f hi hm hB hf2
    rw [q_X1_goOn_L80, q_X5_next_L117, nI_1]
    by_cases e : i = H
    · subst e
      exact ⟨B, f, e_p (e_le (Nat.le_refl _) (by omega)) rfl, e_p (e_le (Nat.le_refl _) (by omega)) rfl, hB, hf2, by omega, fun q => q.elim (fun z => by omega) id⟩
    · have nle : ¬ nI H ≤ nI i := e_nle (by omega) (by omega)
      have hin : z_in (nI i) 12 := e_in (by omega) (by omega)
      have hin2 : z_in (nI i) 24 := e_in (by omega) (by omega)
      have cl : Int32.toNatClampNeg (nI i) = i := e_cl (by omega)
      obtain ⟨w, w1, w2⟩ := hf i (by omega)
      obtain ⟨o1, o2⟩ := ht_bor (p := w) hB.1 (by omega)
      have e12 : f12 (Int32.toNatClampNeg (nI i)) = nI w := by rw [cl, w2]
      have e3 : f3 (Int32.toNatClampNeg (nI i)) = nI w := by rw [cl, hw i (by omega), w2]
      obtain ⟨B', F, p1, p2, p3, p4, p5, p6⟩ := ih (i + 1) (B ||| 2 ^ w) _ (by omega) (by omega) (ht_lo_up hB hR w1) (ht_hb_up (p := w) hf2)
      have hc := ht_cor (B := B) (w := w) (n := 24)
      refine ⟨B', F, e_n nle (e_p hin (e_s ?_)), e_n nle (e_p hin2 (e_p (by rw [e12]; exact e_in (by omega) (by omega)) ?_)), p3, p4, by omega, fun _ => p6 (Or.inr ⟨w, w1, by rw [Nat.testBit_or, Nat.testBit_two_pow]; simp⟩)⟩
      · rw [e3, o1]
        exact p1
      · rw [e12, e_cl (n := w) (by omega)]
        exact p2
theorem ht_85 {N B : Nat} {v : Int32} (hv : ∀ k, k < 24 → (nI k = v ↔ B.testBit k = true)) : ∀ (m i : Nat) (f : Nat → Int32), i ≤ 24 → 24 - i < m → (∀ k, k < i → f k = if B.testBit k then 1 else 0) → ∃ F : Nat → Int32, q_X5_next_L85 N v m (nI i) f = some F ∧ ht_hb B F := by
  intro m
  induction m with
  | zero => intro i _ _ h; omega
  | succ m ih =>
    intro i f hi hm hf
    rw [q_X5_next_L85, nI_1]
    by_cases e : i = 24
    · subst e
      exact ⟨f, e_p (e_le (a := 24) (Nat.le_refl _) (by omega)) rfl, hf⟩
    · have nle : ¬ (24 : Int32) ≤ nI i := e_nle (a := 24) (by omega) (by omega)
      have hin : z_in (nI i) 24 := e_in (by omega) (by omega)
      have cl : Int32.toNatClampNeg (nI i) = i := e_cl (by omega)
      by_cases c : nI i = v
      · obtain ⟨F, p1, p2⟩ := ih (i + 1) (upd f i (vp_nar .boolean 1)) (by omega) (by omega) (fun k hk => by
          by_cases q : k = i
          · subst q
            rw [pk_us, if_pos ((hv k (by omega)).mp c)]
            rfl
          · rw [pk_un q]
            exact hf k (by omega))
        exact ⟨F, e_n nle (e_p c (e_p hin (by rw [cl]; exact p1))), p2⟩
      · obtain ⟨F, p1, p2⟩ := ih (i + 1) (upd f i (vp_nar .boolean 0)) (by omega) (by omega) (fun k hk => by
          by_cases q : k = i
          · subst q
            rw [pk_us, if_neg (fun z => c ((hv k (by omega)).mpr z))]
            rfl
          · rw [pk_un q]
            exact hf k (by omega))
        exact ⟨F, e_n nle (e_n c (e_p hin (by rw [cl]; exact p1))), p2⟩
theorem ht_143 {N B : Nat} {g : Nat → Int32} (hg : ht_hb B g) : ∀ (m i : Nat) (f : Nat → Int32), i ≤ 24 → 24 - i < m → ht_en B.testBit i f → ∃ F : Nat → Int32, q_X5_next_L143 N g m (nI (ct B.testBit i)) (nI i) f = some (nI (ct B.testBit 24), F) ∧ ht_en B.testBit 24 F := by
  intro m
  induction m with
  | zero => intro i _ _ h; omega
  | succ m ih =>
    intro i f hi hm hf
    rw [q_X5_next_L143, nI_1]
    by_cases e : i = 24
    · subst e
      exact ⟨f, e_p (e_le (a := 24) (Nat.le_refl _) (by omega)) rfl, hf⟩
    · have nle : ¬ (24 : Int32) ≤ nI i := e_nle (a := 24) (by omega) (by omega)
      have hin : z_in (nI i) 24 := e_in (by omega) (by omega)
      have cl : Int32.toNatClampNeg (nI i) = i := e_cl (by omega)
      have cl2 := ct_le (p := B.testBit) (n := i)
      have g1 := hg i (by omega)
      by_cases c : B.testBit i = true
      · rw [if_pos c] at g1
        obtain ⟨F, p1, p2⟩ := ih (i + 1) _ (by omega) (by omega) (ht_en_up hf c)
        refine ⟨F, e_n nle (e_p hin (e_n (by rw [cl, g1]; exact e_10) (e_p (e_in (by omega) (by omega)) ?_))), p2⟩
        rw [nI_1, e_cl (n := ct B.testBit i) (by omega), ← ct_1 c]
        exact p1
      · rw [if_neg c] at g1
        obtain ⟨F, p1, p2⟩ := ih (i + 1) f (by omega) (by omega) (ht_en_no hf c)
        refine ⟨F, e_n nle (e_p hin (e_p (by rw [cl, g1]) ?_)), p2⟩
        rw [← ct_0 c]
        exact p1
theorem ht_nx {N R S M rd Bt H B0 : Nat} {lot x10 x11 x12 y10 : Int32} {f2 f3 f8 f11 f12 f13 t15 : Nat → Int32} {V4 : Nat → Nat → Int32} (hN : 60000 ≤ N) (hR : R ≤ 24) (hS : 2 ≤ S) (hS6 : S ≤ 6) (hrd2 : rd + M ≤ 26) (hB : Bt < 2 ^ 24) (h11 : ht_hb Bt f11) (hH : H ≤ 12) (hH1 : 1 ≤ H) (hw : ∀ h, h < 12 → f3 h = f12 h) (hf : ∀ h, h < H → ∃ w, w < R ∧ f12 h = nI w) (hB0 : ht_lo R B0) (h15 : ht_hb B0 t15) (hct : ct B0.testBit 24 + H + 1 ≤ M) :
    ∃ (t M' lot' x8' x11' x12' x13' : Int32) (t16 G2 F2 F3 G8 F8 F11 F12 F13 : Nat → Int32) (V : Nat → Nat → Int32), q_X1_goOn_L80 N (nI H) f3 N (nI B0) 0 = some t ∧ q_X1_enter N t (nI R) x10 f2 = some (M', G2) ∧ q_X1_beginRound N (nI rd) (nI S) M' x11 x12 (nI Bt) lot G2 f3 V4 = some (x11', x8', x11', x12', x13', lot', F2, F3, V) ∧ q_X5_next_L117 N (nI H) f12 N 0 t15 = some t16 ∧ q_X5_next_L143 N t16 N 0 0 f8 = some (M', G8) ∧ q_X5_mix N (nI S) lot M' y10 G8 f11 f12 f13 = some (lot', x12', F8, F11, F12, F13) ∧ q_X5_heats N (nI S) M' x12' = some x11' ∧ x8' = nI rd + 1 ∧ ht_C R x8' (nI S) M' x11' x12' x13' (nI S) x8' M' x12' F2 F3 V F8 F11 F12 F13 := by
  obtain ⟨B, t16, p1, p2, p3, p4, p5, p6⟩ := ht_bits (N := N) hR hH hw hf N 0 B0 t15 (Nat.zero_le _) (by omega) hB0 h15
  obtain ⟨k, k1, k2⟩ := p6 (Or.inl (by omega))
  have hp : ∀ r, r < 24 → q_X4_hasBit N (nI B) (nI r) = some (if B.testBit r = true then 1 else 0) := fun r hr => bt_hasBit (by have := p3.1; omega) (by omega)
  obtain ⟨G2, c1, c2⟩ := ht_enter (x := x10) hN hR hp f2
  obtain ⟨G8, c3, c4⟩ := ht_143 (N := N) p4 N 0 f8 (Nat.zero_le _) (by omega) (fun s hs => by omega)
  have ce : ct B.testBit 24 = ct B.testBit R := ct_end p3.2 hR
  have c5 : 1 ≤ ct B.testBit R := by
    have := ct_lt (p := B.testBit) (s := k) (t := R) k1 k2
    omega
  have c6 : ct B.testBit R ≤ R := ct_le
  obtain ⟨E, r2, r8, rb, rj⟩ := ht_en_fin (f8 := G8) hR c2 (fun s hs q => c4 s (by omega) q)
  obtain ⟨lot', E', Bt', F2, F3, F8, F11, F12, F13, V, o1, o2, o3, o4, o5, o6, o7, o8, o9, o10, o11, o12⟩ := ht_round (N := N) (rd := rd) (Bt := Bt) (lot := lot) (x11 := x11) (x12 := x12) (y10 := y10) (f3 := f3) (f11 := f11) (f12 := f12) (f13 := f13) (V4 := V4) hN hR hS hS6 c5 c6 hB r2 r8 rb rj h11
  rw [ce] at c3
  exact ⟨_, _, lot', _, _, _, _, t16, G2, F2, F3, G8, F8, F11, F12, F13, V, p1, c1, o1, p2, c3, o2, ht_heats hS hS6 c5 (by omega) hR o6, (nI_1 rd).symm, ht_C_mk hR hS hS6 c5 c6 (by omega) o3 o4 o5 o6 o7 o8 o9 o10 o11 o12⟩
theorem ht_2p {R b : Nat} (hR : R ≤ 24) (hb : b < R) : ht_lo R (2 ^ b) ∧ ct (2 ^ b).testBit 24 ≤ 1 ∧ ∀ k, k < 24 → (nI k = nI b ↔ (2 ^ b).testBit k = true) := by
  have z : ht_lo R 0 := ⟨by omega, fun k _ => Nat.zero_testBit k⟩
  have h1 := ht_lo_up z hR hb
  have h2 := ht_cor (B := 0) (w := b) (n := 24)
  rw [Nat.zero_or] at h1 h2
  have h3 : ct (Nat.testBit 0) 24 = 0 := by decide
  rw [h3] at h2
  refine ⟨h1, h2, fun k hk => ?_⟩
  rw [nI_eq (by omega) (by omega), Nat.testBit_two_pow]
  simp
  omega
theorem P_next {N : Nat} (hN : 60000 ≤ N) {x1_5 : Int32} {x1_6 : Int32} {x1_7 : Int32} {x1_8 : Int32} {x1_9 : Int32} {x1_10 : Int32} {x1_11 : Int32} {x1_12 : Int32} {x1_13 : Int32} {x1_14 : Int32} {x1_15 : Int32} {f1_0 : (Nat → Int32)} {f1_1 : (Nat → Int32)} {f1_2 : (Nat → Int32)} {f1_3 : (Nat → Int32)} {V1_4 : (Nat → Nat → Int32)} {x5_1 : Int32} {x5_3 : Int32} {x5_4 : Int32} {x5_5 : Int32} {x5_6 : Int32} {x5_7 : Int32} {x5_9 : Int32} {x5_10 : Int32} {x5_14 : Int32} {f5_0 : (Nat → Int32)} {f5_2 : (Nat → Int32)} {f5_8 : (Nat → Int32)} {f5_11 : (Nat → Int32)} {f5_12 : (Nat → Int32)} {f5_13 : (Nat → Int32)} {f5_43 : (Nat → Int32)} (h : i_H x1_5 x1_6 x1_7 x1_8 x1_9 x1_10 x1_11 x1_12 x1_13 x1_14 x1_15 f1_0 f1_1 f1_2 f1_3 V1_4 x5_1 x5_3 x5_4 x5_5 x5_6 x5_7 x5_9 x5_10 x5_14 f5_0 f5_2 f5_8 f5_11 f5_12 f5_13 f5_43) : ∃ (o1 : (Int32 × Int32 × Int32 × Int32 × Int32 × Int32 × Int32 × Int32 × Int32 × (Nat → Int32) × (Nat → Int32) × (Nat → Nat → Int32))) (o2 : (Int32 × Int32 × Int32 × Int32 × Int32 × Int32 × Int32 × (Nat → Int32) × (Nat → Int32) × (Nat → Int32) × (Nat → Int32) × (Nat → Int32))), q_X1_goOn N x1_5 x1_7 x1_8 x1_9 x1_10 x1_11 x1_12 x1_13 x1_14 x1_15 f1_2 f1_3 V1_4 = some o1 ∧ q_X5_next N x5_4 x5_5 x5_6 x5_7 x5_9 x5_10 x5_14 f5_8 f5_11 f5_12 f5_13 f5_43 = some o2 ∧ o1.1 = o2.1 ∧ i_H x1_5 x1_6 o1.2.1 o1.2.2.1 x1_9 o1.2.2.2.1 o1.2.2.2.2.1 o1.2.2.2.2.2.1 o1.2.2.2.2.2.2.1 o1.2.2.2.2.2.2.2.1 o1.2.2.2.2.2.2.2.2.1 f1_0 f1_1 o1.2.2.2.2.2.2.2.2.2.1 o1.2.2.2.2.2.2.2.2.2.2.1 o1.2.2.2.2.2.2.2.2.2.2.2 x5_1 x5_3 o2.2.1 x5_5 o2.2.2.1 o2.2.2.2.1 o2.2.2.2.2.1 o2.2.2.2.2.2.1 o2.2.2.2.2.2.2.1 f5_0 f5_2 o2.2.2.2.2.2.2.2.1 o2.2.2.2.2.2.2.2.2.1 o2.2.2.2.2.2.2.2.2.2.1 o2.2.2.2.2.2.2.2.2.2.2.1 o2.2.2.2.2.2.2.2.2.2.2.2 := by
  have hh := h
  obtain ⟨R, J, hR, hJ, e1, e2, e3, e4, e5, e6, e7, e8, e9, hc⟩ := h
  subst e9 e1 e2
  unfold q_X1_goOn q_X5_next
  by_cases g : x1_7 = 0
  · exact ⟨(-1, x1_7, x1_8, x1_10, x1_11, x1_12, x1_13, x1_14, x1_15, f1_2, f1_3, V1_4), (-1, x1_7, x5_6, x5_7, x5_9, x5_10, x5_14, f5_8, f5_11, f5_12, f5_13, f5_43), e_p g rfl, e_p g rfl, rfl, hh⟩
  · rcases hc with ⟨q, -⟩ | hc
    · exact absurd q g
    obtain ⟨S, M, rd, Bt, E, hS, hS6, hM, hMR, hrd, hrd2, hB, ⟨c1, c2, c3, c4, c5, c6, c7, c8, c9, c10⟩, h2, h8, hb, hj, h11, hw, hw2, hV, hV2⟩ := hc
    subst c1 c2 c3 c4 c5 c6 c7 c8 c9 c10
    have hC : ht_C R (nI rd) (nI S) (nI M) (nI (ht_H S M)) (ht_B S M E) (nI Bt) (nI S) (nI rd) (nI M) (ht_B S M E) f1_2 f1_3 V1_4 f5_8 f5_11 f5_12 f5_13 := ⟨S, M, rd, Bt, E, hS, hS6, hM, hMR, hrd, hrd2, hB, ⟨rfl, rfl, rfl, rfl, rfl, rfl, rfl, rfl, rfl, rfl⟩, h2, h8, hb, hj, h11, hw, hw2, hV, hV2⟩
    have h12 := ht_H12 hS hS6 (show M ≤ 24 by omega)
    obtain ⟨c, q1, q2, q3, q4⟩ := ht_open (N := N) hN hR hS hS6 hM hMR hb hw
    have hh5 := ht_heats (N := N) hS hS6 hM (show M ≤ 24 by omega) hR hb
    by_cases c0 : c = 0
    · subst c0
      have nz := q4 rfl
      have z0 : nI 0 ≤ 0 := e_le (b := 0) (Nat.le_refl _) (by omega)
      have hf : ∀ h, h < ht_H S M → ∃ w, w < R ∧ f5_12 h = nI w := fun h hh => by
        rcases hw2 h hh with q | ⟨i, i1, i2⟩
        · exact absurd q (nz h hh)
        · exact ⟨_, hb _ (ht_idx hS hS6 (by omega) hh i1).1, i2⟩
      by_cases b : M % S = 1
      · have hH : ht_H S M = M / S := by
          unfold ht_H
          rw [if_pos (by omega), Nat.add_zero]
        have eB : ht_B S M E = nI (E (M - 1)) := if_pos b
        have hE := hb (M - 1) (by omega)
        have nm : ¬ ht_B S M E = -1 := by
          rw [eB]
          exact e_m1 (by omega)
        have o1 : nI (ht_H S M) + 1 = nI (ht_H S M + 1) := nI_1 _
        by_cases d : ht_H S M = 0
        · refine ⟨(0, 0, nI rd, nI M, nI (ht_H S M), ht_B S M E, nI Bt, ht_B S M E, x1_15, f1_2, f1_3, V1_4), (0, 0, x5_6, nI rd, nI M, ht_B S M E, ht_B S M E, f5_8, f5_11, f5_12, f5_13, f5_43), e_n g (e_b q2 (e_p z0 (e_p (by rw [d]; rfl) (e_b rfl rfl)))), e_n g (e_b q3 (e_p z0 (e_b hh5 (e_n nm (e_p (by rw [d]; rfl) (e_n (by rw [d]; decide) rfl)))))), rfl, R, J, hR, hJ, rfl, rfl, e3, e4, e5, e6, e7, rfl, rfl, Or.inr hC⟩
        · have n0 : ¬ nI (ht_H S M) = 0 := nI_ne0 (by omega) (by omega)
          have n1 : ¬ nI (ht_H S M) + 1 = 1 := by
            rw [o1]
            exact e_ne (b := 1) (by omega) (by omega) (by omega)
          obtain ⟨l1, l2, l3⟩ := ht_2p hR hE
          obtain ⟨t15, u1, u2⟩ := ht_85 (N := N) l3 N 0 f5_43 (Nat.zero_le _) (by omega) (fun k hk => by omega)
          obtain ⟨t, M', lot', x8', x11', x12', x13', t16, G2, F2, F3, G8, F8, F11, F12, F13, V, s1, s2, s3, s4, s5, s6, s7, s8, s9⟩ := ht_nx (N := N) (M := M) (rd := rd) (lot := x1_15) (x10 := nI M) (x11 := nI (ht_H S M)) (x12 := ht_B S M E) (y10 := ht_B S M E) (f2 := f1_2) (f8 := f5_8) (f13 := f5_13) (V4 := V1_4) hN hR hS hS6 hrd2 hB h11 h12 (by omega) hw hf l1 u2 (by
            rw [hH] at d ⊢
            rcases ht_S hS hS6 with e | e | e | e | e <;> subst e <;> omega)
          have sh : (1 : Int32) <<< (ht_B S M E &&& 31) = nI (2 ^ E (M - 1)) := by
            rw [eB]
            exact bt_shl (by omega)
          have u1 : q_X5_next_L85 N (ht_B S M E) N 0 f5_43 = some t15 := by
            rw [eB]
            exact u1
          have s1 : q_X1_goOn_L80 N (nI (ht_H S M)) f1_3 N ((1 : Int32) <<< (ht_B S M E &&& 31)) 0 = some t := by
            rw [sh]
            exact s1
          refine ⟨(x11', x1_7, x8', M', x11', x12', x13', x1_14, lot', F2, F3, V), (x11', x1_7, lot', x8', M', x12', x5_14, F8, F11, F12, F13, t16), e_n g (e_b q2 (e_p z0 (e_n n0 ?_))), e_n g (e_b q3 (e_p z0 (e_b hh5 (e_n nm (e_n n1 (e_b u1 (e_b s4 (e_b s5 ?_)))))))), rfl, R, J, hR, hJ, rfl, rfl, e3, e4, e5, e6, rfl, e8, rfl, Or.inr s9⟩
          · by_cases d1 : nI (ht_H S M) = 1
            · exact e_p d1 (e_n nm (e_b s1 (e_b s2 (e_b s3 rfl))))
            · exact e_n d1 (e_n nm (e_b s1 (e_b s2 (e_b s3 rfl))))
          · rw [← e7, s8]
            exact e_b s6 (e_b s7 rfl)
      · have eB : ht_B S M E = -1 := if_neg b
        have o1 : nI (ht_H S M) + 0 = nI (ht_H S M) := nI_add _ 0
        have H1 : 1 ≤ ht_H S M ∧ (¬ ht_H S M = 1 → ht_H S M + 1 ≤ M) := by
          unfold ht_H
          by_cases c : M % S ≤ 1
          · rw [if_pos c]
            rcases ht_S hS hS6 with e | e | e | e | e <;> subst e <;> omega
          · rw [if_neg c]
            rcases ht_S hS hS6 with e | e | e | e | e <;> subst e <;> omega
        have n0 : ¬ nI (ht_H S M) = 0 := nI_ne0 (by omega) (by omega)
        by_cases d : ht_H S M = 1
        · have d1 : nI (ht_H S M) = 1 := by
            rw [d]
            rfl
          have f0e : f1_3 (Int32.toNatClampNeg 0) = f5_12 (Int32.toNatClampNeg 0) := hw 0 (by omega)
          refine ⟨(0, 0, nI rd, nI M, nI (ht_H S M), ht_B S M E, nI Bt, f1_3 (Int32.toNatClampNeg 0), x1_15, f1_2, f1_3, V1_4), (0, 0, x5_6, nI rd, nI M, ht_B S M E, f5_12 (Int32.toNatClampNeg 0), f5_8, f5_11, f5_12, f5_13, f5_43), e_n g (e_b q2 (e_p z0 (e_n n0 (e_p d1 (e_p eB (e_b rfl rfl)))))), e_n g (e_b q3 (e_p z0 (e_b hh5 (e_p eB (e_p (by rw [o1]; exact d1) (e_p d1 rfl)))))), rfl, R, J, hR, hJ, rfl, rfl, e3, e4, e5, e6, e7, f0e, rfl, Or.inr hC⟩
        · have d1 : ¬ nI (ht_H S M) = 1 := e_ne (b := 1) d (by omega) (by omega)
          have l3 : ∀ k, k < 24 → (nI k = (-1 : Int32) ↔ (0 : Nat).testBit k = true) := fun k hk => by
            rw [Nat.zero_testBit]
            exact ⟨fun q => absurd q (e_m1 (by omega)), fun q => Bool.noConfusion q⟩
          obtain ⟨t15, u1, u2⟩ := ht_85 (N := N) l3 N 0 f5_43 (Nat.zero_le _) (by omega) (fun k hk => by omega)
          have h3 : ct (Nat.testBit 0) 24 = 0 := by decide
          obtain ⟨t, M', lot', x8', x11', x12', x13', t16, G2, F2, F3, G8, F8, F11, F12, F13, V, s1, s2, s3, s4, s5, s6, s7, s8, s9⟩ := ht_nx (N := N) (M := M) (rd := rd) (lot := x1_15) (x10 := nI M) (x11 := nI (ht_H S M)) (x12 := ht_B S M E) (y10 := ht_B S M E) (f2 := f1_2) (f8 := f5_8) (f13 := f5_13) (V4 := V1_4) hN hR hS hS6 hrd2 hB h11 h12 H1.1 hw hf ⟨by omega, fun k _ => Nat.zero_testBit k⟩ u2 (by
            rw [h3]
            have := H1.2 d
            omega)
          have u1 : q_X5_next_L85 N (ht_B S M E) N 0 f5_43 = some t15 := by
            rw [eB]
            exact u1
          refine ⟨(x11', x1_7, x8', M', x11', x12', x13', x1_14, lot', F2, F3, V), (x11', x1_7, lot', x8', M', x12', x5_14, F8, F11, F12, F13, t16), e_n g (e_b q2 (e_p z0 (e_n n0 (e_n d1 (e_p eB (e_b s1 (e_b s2 (e_b s3 rfl)))))))), e_n g (e_b q3 (e_p z0 (e_b hh5 (e_p eB (e_n (by rw [o1]; exact d1) (e_b u1 (e_b s4 (e_b s5 ?_)))))))), rfl, R, J, hR, hJ, rfl, rfl, e3, e4, e5, e6, rfl, e8, rfl, Or.inr s9⟩
          rw [← e7, s8]
          exact e_b s6 (e_b s7 rfl)
    · have nz : ¬ nI c ≤ 0 := e_nle (b := 0) (by omega) (by omega)
      exact ⟨(-1, x1_7, nI rd, nI M, nI (ht_H S M), ht_B S M E, nI Bt, x1_14, x1_15, f1_2, f1_3, V1_4), (-1, x1_7, x5_6, nI rd, nI M, ht_B S M E, x5_14, f5_8, f5_11, f5_12, f5_13, f5_43), e_n g (e_b q2 (e_n nz rfl)), e_n g (e_b q3 (e_n nz rfl)), rfl, hh⟩

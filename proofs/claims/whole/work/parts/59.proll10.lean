/-! ===== pure rows: rolls, year, wrong ===== -/
theorem q_cmp {x : Int64} : lg_cmp x 0 = 0 ↔ x = 0 := by
  unfold lg_cmp
  by_cases c : x > 0
  · rw [if_pos c]
    exact ⟨fun h => absurd h e_10, fun h => by rw [h] at c; exact absurd c (by decide)⟩
  · rw [if_neg c]
    by_cases e : x = 0
    · rw [if_pos e]; exact ⟨fun _ => e, fun _ => rfl⟩
    · rw [if_neg e]; exact ⟨fun h => absurd h (by decide), fun h => absurd h e⟩
theorem q_cmN {S : Nat} (h : S < 2 ^ 63) : lg_cmp (lN S) 0 = 0 ↔ S = 0 := q_cmp.trans (pk_lEQ (b := 0) h (by omega))
theorem q_fillJ {N len : Nat} {v : Int64} (f : Nat → Int64) (hlen : len < 2 ^ 31) (hN : len < N) : ∃ g : Nat → Int64, q_J7_fill_d0a16 N len v f = some g ∧ ∀ k, k < len → g k = v := by
  have L : ∀ (n i : Nat) (f : Nat → Int64), i ≤ len → len - i < n → (∀ k, k < i → f k = v) → ∃ g : Nat → Int64, q_J7_fill_d0a16_L6 N v (nI len) len n (nI i) f = some g ∧ ∀ k, k < len → g k = v := by
    intro n
    induction n with
    | zero => intro i f _ h; omega
    | succ n ih =>
      intro i f hi hn hf
      rw [q_J7_fill_d0a16_L6]
      by_cases h : i = len
      · subst h
        exact ⟨f, e_p (e_le (Nat.le_refl _) hlen) rfl, hf⟩
      · obtain ⟨g, g1, g2⟩ := ih (i + 1) (vp_updL f i v) (by omega) (by omega) (fun k hk => by
          by_cases e : k = i
          · rw [e, pk_uLs]
          · rw [pk_uLn e, hf k (by omega)])
        refine ⟨g, e_n (e_nle (by omega) hlen) (e_p (e_in (by omega) hlen) ?_), g2⟩
        rw [nI_1, e_cl (by omega)]
        exact g1
  obtain ⟨g, g1, g2⟩ := L N 0 f (Nat.zero_le _) (by omega) (fun k hk => absurd hk (Nat.not_lt_zero _))
  exact ⟨g, e_b g1 rfl, g2⟩
/-- least, greatest and how many of the bits below i, A added -/
def q_yl (m A : Nat) : Nat → Int32 × Int32 × Int32
  | 0 => (-1, -1, 0)
  | i + 1 => if m.testBit i = true then (if (q_yl m A i).2.2 = 0 then nI (A + i) else (q_yl m A i).1, nI (A + i), (q_yl m A i).2.2 + 1) else q_yl m A i
theorem q_yl6 {m A : Nat} : ∀ {n k : Nat}, n ≤ k → m < 2 ^ n → q_yl m A k = q_yl m A n
  | n, 0, h, _ => by rw [show n = 0 by omega]
  | n, k + 1, h, hm => by
    by_cases c : n = k + 1
    · rw [c]
    · have tb : ¬ m.testBit k = true := by
        rw [Nat.testBit_lt_two_pow (Nat.lt_of_lt_of_le hm (Nat.pow_le_pow_right (n := 2) (by omega) (show n ≤ k by omega)))]
        decide
      show (if m.testBit k = true then _ else q_yl m A k) = _
      rw [if_neg tb]
      exact q_yl6 (by omega) hm
theorem q_ntz : ∀ (m : Fin 64) (A : Fin 41), m.val ≠ 0 → q_J13_numberOfTrailingZeros_95d88 0 (lN (m.val * 2 ^ A.val)) = some (q_yl m.val A.val 6).1 := by decide +kernel
theorem q_nlz : ∀ (m : Fin 64) (A : Fin 41), m.val ≠ 0 → Option.bind (q_J13_numberOfLeadingZeros_95d88 0 (lN (m.val * 2 ^ A.val))) (fun o => some (63 - o)) = some (q_yl m.val A.val 6).2.1 := by decide +kernel
theorem q_lbc : ∀ (m : Fin 64) (A : Fin 41), q_J13_bitCount_95d88 0 (lN (m.val * 2 ^ A.val)) = some (q_yl m.val A.val 6).2.2 := by decide +kernel
theorem q_nN1 {N : Nat} {x : Int64} : q_J13_numberOfTrailingZeros_95d88 N x = q_J13_numberOfTrailingZeros_95d88 0 x := rfl
theorem q_nN2 {N : Nat} {x : Int64} : q_J13_numberOfLeadingZeros_95d88 N x = q_J13_numberOfLeadingZeros_95d88 0 x := rfl
theorem q_nN3 {N : Nat} {x : Int64} : q_J13_bitCount_95d88 N x = q_J13_bitCount_95d88 0 x := rfl
section
variable {N K sp : Nat} {a d Bj : Nat → Nat} {f0 f1 f2 f3 f4 f5 f6 f9 f35 f36 f37 f38 f39 f40 : Nat → Int32} {s : Nat}
theorem q_hE (hK : K ≤ 6) (hsp : sp ≤ 40) (hS : qS K a d f0 f1 f2 f5 f35 f36 f37 f39) (hJ : qJ K Bj f6 f40) (hU : qU K f38 f39 f9) : qE K sp a d Bj f0 f1 f2 f6 f9 f35 f38 f39 f40 :=
  ⟨hK, hsp, fun k hk => by
    obtain ⟨h0, h1, -, h2, -, -, h5, h40⟩ := hS k hk
    exact ⟨h0, h1, h2, h5, h40⟩, hJ, hU⟩
theorem q_hE5 (hK : K ≤ 6) (hsp : sp ≤ 40) (hS : qS K a d f0 f1 f2 f5 f35 f36 f37 f39) (hL : qLt K f3 f4 f38) (hJ : qJ K Bj f6 f40) : qE5 K sp a d Bj f3 f4 f36 f37 f38 f40 :=
  ⟨hK, hsp, fun k hk => by
    obtain ⟨-, -, h1, -, h2, -, h5, h40⟩ := hS k hk
    exact ⟨h1, h2, h5, h40⟩, hL, fun t s ht hs => (hJ t ht).2.2.1 s hs⟩
/-- the count, kept or made anew -/
theorem q_cr {x12 x13 : Int32} {f10 : Nat → Int32} {f11 : Nat → Int64} (hN : 60000 ≤ N) (hK : K ≤ 6) (hsp : sp ≤ 40) (hS : qS K a d f0 f1 f2 f5 f35 f36 f37 f39) (hL : qLt K f3 f4 f38) (hJ : qJ K Bj f6 f40) (hC : qC K sp a d x12 x13 f11 f35 f36 f37 f38 f39 f40) : ∃ (F9 F10 : Nat → Int32) (F11 : Nat → Int64), q_X3_countRolls N (nI K) (nI sp) x12 f0 f1 f2 f3 f4 f5 f6 f9 f10 f11 = some (nI (ct (qRb K sp 0 a d f35 f38 f39 f40) (qP d K)), nI (ct (qRb K sp 0 a d f35 f38 f39 f40) (qP d K)), F9, F10, F11) ∧ qSn K sp a d f35 f38 f39 f40 F11 ∧ qC K sp a d (nI (ct (qRb K sp 0 a d f35 f38 f39 f40) (qP d K))) x13 F11 f35 f36 f37 f38 f39 f40 := by
  have hb : ct (qRb K sp 0 a d f35 f38 f39 f40) (qP d K) ≤ 46656 := Nat.le_trans ct_le (qP_b hK (fun k hk => (hS k hk).2.2.2.2.2.2.1) (Nat.le_refl _))
  unfold q_X3_countRolls
  by_cases c : x12 = -1
  · obtain ⟨F9, u1, u2⟩ := q_un (N := N) (K := K) (f3 := f3) (f4 := f4) (f5 := f5) (f38 := f38) (f39 := f39) hN hK hL (fun k hk => (hS k hk).2.2.2.2.2.1) f9
    obtain ⟨g, g1, g2⟩ := q_fillJ (N := N) (len := 6) (v := 0) f11 (by omega) (by omega)
    obtain ⟨F, G, S', p1, -, p3, p4⟩ := q_cf (N := N) hN (q_hE hK hsp hS hJ u2) 8 0 0 f10 g (fun _ => 0) (Nat.zero_le _) (by omega) qP_pos (fun k hk => absurd hk (Nat.not_lt_zero _)) (fun k hk => (g2 k (by omega)).trans rfl)
    rw [qC_0] at p1
    have sn : qSn K sp a d f35 f38 f39 f40 G := fun k hk => ⟨S' k, p3 k hk, fun z => by
      rw [p4 k hk z, Nat.zero_testBit]
      exact ⟨fun h => h.elim (fun h => by cases h) (fun ⟨_, e, q1, _, q3, q4⟩ => ⟨e, q1, qT_0.mp q3, q4⟩), fun ⟨e, q1, q3, q4⟩ => Or.inr ⟨Nat.zero_le _, e, q1, Nat.mod_one e, qT_0.mpr q3, q4⟩⟩⟩
    exact ⟨F9, F, G, e_p c (e_b u1 (e_b g1 (e_b p1 rfl))), sn, Or.inr ⟨rfl, sn⟩, hC.2⟩
  · rcases hC.1 with h | ⟨h1, h2⟩
    · exact absurd h c
    · subst h1
      exact ⟨f9, f10, f11, e_n c rfl, h2, Or.inr ⟨rfl, h2⟩, hC.2⟩
theorem q_y30 (hN : 60000 ≤ N) (hE : qE5 K sp a d Bj f3 f4 f36 f37 f38 f40) (hs : s < K) : ∃ S : Nat, q_X5_year_L30 N (nI s) (nI (qP d K)) (nI K) (nI sp) f35 f36 f37 f38 f39 f40 N 0 0 = some (lN S) ∧ ∀ z, S.testBit z = true ↔ ∃ q, q < qP d K ∧ qR K sp 0 a d f35 f38 f39 f40 q ∧ qY a d q s = z := by
  have hK := hE.1
  have hb : qP d K ≤ 46656 := qP_b hK (fun k hk => (hE.2.2.1 k hk).2.2.1) (Nat.le_refl _)
  have L : ∀ (m e S : Nat), e ≤ qP d K → qP d K - e < m → (∀ z, S.testBit z = true ↔ ∃ q, q < e ∧ qR K sp 0 a d f35 f38 f39 f40 q ∧ qY a d q s = z) → ∃ S' : Nat, q_X5_year_L30 N (nI s) (nI (qP d K)) (nI K) (nI sp) f35 f36 f37 f38 f39 f40 m (lN S) (nI e) = some (lN S') ∧ ∀ z, S'.testBit z = true ↔ ∃ q, q < qP d K ∧ qR K sp 0 a d f35 f38 f39 f40 q ∧ qY a d q s = z := by
    intro m
    induction m with
    | zero => intro e S _ h; omega
    | succ m ih =>
      intro e S he hm hb2
      rw [q_X5_year_L30, nI_1]
      by_cases c : e = qP d K
      · refine ⟨S, e_p (e_le (by omega) (by omega)) rfl, ?_⟩
        rw [← c]
        exact hb2
      · have nle : ¬ nI (qP d K) ≤ nI e := e_nle (by omega) (by omega)
        rcases q_ir (N := N) (e := e) (off := 0) (f35 := f35) (f39 := f39) hN hE (by omega) (by omega) with ⟨g1, g2⟩ | ⟨g1, g2⟩
        · have y40 := q_b40 (e := e) hE hs
          obtain ⟨S', i1, i2⟩ := ih (e + 1) (S ||| 2 ^ qY a d e s) (by omega) (by omega) (fun z => by
            rw [q_orb, hb2 z]
            constructor
            · rintro (⟨q, q1, q2, q3⟩ | h)
              · exact ⟨q, by omega, q2, q3⟩
              · exact ⟨e, Nat.lt_succ_self _, g1, h.symm⟩
            · rintro ⟨q, q1, q2, q3⟩
              by_cases z' : q = e
              · rw [z'] at q3; exact Or.inr q3.symm
              · exact Or.inl ⟨q, by omega, q2, q3⟩)
          refine ⟨S', e_n nle (e_b g2 (e_n e_10 (e_b (q_yo hN hE (by omega) hs) ?_))), i2⟩
          rw [q_orl (by omega)]
          exact i1
        · obtain ⟨S', i1, i2⟩ := ih (e + 1) S (by omega) (by omega) (fun z => by
            rw [hb2 z]
            constructor
            · rintro ⟨q, q1, q2, q3⟩
              exact ⟨q, by omega, q2, q3⟩
            · rintro ⟨q, q1, q2, q3⟩
              by_cases z' : q = e
              · rw [z'] at q2; exact absurd q2 g1
              · exact ⟨q, by omega, q2, q3⟩)
          exact ⟨S', e_n nle (e_b g2 (e_p rfl i1)), i2⟩
  exact L N 0 0 (Nat.zero_le _) (by omega) (fun z => by
    rw [Nat.zero_testBit]
    exact ⟨fun h => (by cases h), fun ⟨q, q1, _⟩ => absurd q1 (Nat.not_lt_zero _)⟩)
theorem q_shape {S A D : Nat} (h : ∀ z, S.testBit z = true → A ≤ z ∧ z ≤ A + D) : ∃ m, m < 2 ^ (D + 1) ∧ S = m * 2 ^ A ∧ ∀ i, m.testBit i = S.testBit (i + A) := by
  refine ⟨S / 2 ^ A, ?_, ?_, fun i => Nat.testBit_div_two_pow _ _⟩
  · refine Nat.lt_pow_two_of_testBit _ (fun i hi => ?_)
    rw [Nat.testBit_div_two_pow]
    by_cases c : S.testBit (i + A) = true
    · have := (h _ c).2; omega
    · exact eq_false_of_ne_true c
  · refine Nat.eq_of_testBit_eq (fun i => ?_)
    rw [Nat.testBit_mul_two_pow, Nat.testBit_div_two_pow]
    by_cases c : A ≤ i
    · rw [decide_eq_true c, Bool.true_and, show i - A + A = i by omega]
    · rw [decide_eq_false c, Bool.false_and]
      exact eq_false_of_ne_true (fun q => c (h i q).1)
theorem q_ty {m A D S : Nat} {f11 : Nat → Int64} (hN : 60000 ≤ N) (hs : s < 6) (hD : D ≤ 5) (hA : A + D ≤ 40) (h2 : f2 s = nI (A + D)) (h11 : f11 s = lN S) (hS : S < 2 ^ 63) (hm : ∀ i, m.testBit i = S.testBit (i + A)) : q_X3_tellYear_L42 N (nI s) f2 f11 N (-1) (-1) 0 (nI A) = some (q_yl m A (D + 1)) := by
  have L : ∀ (n i : Nat), i ≤ D + 1 → D + 1 - i < n → q_X3_tellYear_L42 N (nI s) f2 f11 n (q_yl m A i).1 (q_yl m A i).2.1 (q_yl m A i).2.2 (nI (A + i)) = some (q_yl m A (D + 1)) := by
    intro n
    induction n with
    | zero => intro i _ h; omega
    | succ n ih =>
      intro i hi hn
      have r2 : f2 (Int32.toNatClampNeg (nI s)) = nI (A + D) := by rw [e_cl (n := s) (by omega), h2]
      have r11 : f11 (Int32.toNatClampNeg (nI s)) = lN S := by rw [e_cl (n := s) (by omega), h11]
      rw [q_X3_tellYear_L42, r2, r11, nI_1]
      refine e_p (e_in hs (by omega)) ?_
      by_cases c : i = D + 1
      · subst c
        exact e_p (e_lt (by omega) (by omega)) rfl
      · have nlt : ¬ nI (A + D) < nI (A + i) := e_nlt (by omega) (by omega)
        refine e_n nlt ?_
        have I := ih (i + 1) (by omega) (by omega)
        have bt : (z_lushr (lN S) (nI (A + i)) &&& 1) = lN (S / 2 ^ (A + i) % 2) := wb_bit (n := S) (k := A + i) (by omega) (by omega)
        have tb : m.testBit i = decide (S / 2 ^ (A + i) % 2 = 1) := by
          rw [hm i, Nat.testBit_eq_decide_div_mod_eq, Nat.add_comm i A]
        have lt2 := Nat.mod_lt (S / 2 ^ (A + i)) (show 0 < 2 by omega)
        rw [bt]
        by_cases z : m.testBit i = true
        · have one : S / 2 ^ (A + i) % 2 = 1 := by
            rw [tb] at z
            exact of_decide_eq_true z
          have st : q_yl m A (i + 1) = (if (q_yl m A i).2.2 = 0 then nI (A + i) else (q_yl m A i).1, nI (A + i), (q_yl m A i).2.2 + 1) := if_pos z
          rw [st] at I
          refine e_n (fun q => ?_) ?_
          · have := (q_cmN (by omega)).mp q
            omega
          · by_cases w : (q_yl m A i).2.2 = 0
            · rw [if_pos w] at I
              exact e_p w I
            · rw [if_neg w] at I
              exact e_n w I
        · have zero : S / 2 ^ (A + i) % 2 = 0 := by
            rw [tb] at z
            have := of_decide_eq_false (eq_false_of_ne_true z)
            omega
          have st : q_yl m A (i + 1) = q_yl m A i := if_neg z
          rw [st] at I
          exact e_p ((q_cmN (by omega)).mpr zero) I
  exact L N 0 (Nat.zero_le _) (by omega)
end
theorem P_rolls {N : Nat} (hN : 60000 ≤ N) {x3_7 : Int32} {x3_8 : Int32} {x3_12 : Int32} {x3_13 : Int32} {f3_0 : (Nat → Int32)} {f3_1 : (Nat → Int32)} {f3_2 : (Nat → Int32)} {f3_3 : (Nat → Int32)} {f3_4 : (Nat → Int32)} {f3_5 : (Nat → Int32)} {f3_6 : (Nat → Int32)} {f3_9 : (Nat → Int32)} {f3_10 : (Nat → Int32)} {f3_11 : (Nat → Int64)} {x5_41 : Int32} {x5_42 : Int32} {f5_35 : (Nat → Int32)} {f5_36 : (Nat → Int32)} {f5_37 : (Nat → Int32)} {f5_38 : (Nat → Int32)} {f5_39 : (Nat → Int32)} {f5_40 : (Nat → Int32)} (h : i_Q x3_7 x3_8 x3_12 x3_13 f3_0 f3_1 f3_2 f3_3 f3_4 f3_5 f3_6 f3_9 f3_10 f3_11 x5_41 x5_42 f5_35 f5_36 f5_37 f5_38 f5_39 f5_40) : ∃ (o1 : (Int32 × Int32 × (Nat → Int32) × (Nat → Int32) × (Nat → Int64))) (o2 : Int32), q_X3_countRolls N x3_7 x3_8 x3_12 f3_0 f3_1 f3_2 f3_3 f3_4 f3_5 f3_6 f3_9 f3_10 f3_11 = some o1 ∧ q_X5_rolls N x5_41 x5_42 f5_35 f5_36 f5_37 f5_38 f5_39 f5_40 = some o2 ∧ o1.1 = o2 ∧ i_Q x3_7 x3_8 o1.2.1 x3_13 f3_0 f3_1 f3_2 f3_3 f3_4 f3_5 f3_6 o1.2.2.1 o1.2.2.2.1 o1.2.2.2.2 x5_41 x5_42 f5_35 f5_36 f5_37 f5_38 f5_39 f5_40 := by
  have hh := h
  obtain ⟨K, sp, a, d, Bj, hK, hsp, e1, e2, e3, e4, hS, hL, hJ, hC⟩ := h
  subst e1 e2 e3 e4
  obtain ⟨F9, F10, F11, r1, r2, r3⟩ := q_cr (N := N) (f9 := f3_9) (f10 := f3_10) hN hK hsp hS hL hJ hC
  exact ⟨(_, _, F9, F10, F11), _, r1, q_ro5 hN (q_hE5 hK hsp hS hL hJ), rfl, K, sp, a, d, Bj, hK, hsp, rfl, rfl, rfl, rfl, hS, hL, hJ, r3⟩
theorem P_wrong {N : Nat} (hN : 60000 ≤ N) {x3_7 : Int32} {x3_8 : Int32} {x3_12 : Int32} {x3_13 : Int32} {f3_0 : (Nat → Int32)} {f3_1 : (Nat → Int32)} {f3_2 : (Nat → Int32)} {f3_3 : (Nat → Int32)} {f3_4 : (Nat → Int32)} {f3_5 : (Nat → Int32)} {f3_6 : (Nat → Int32)} {f3_9 : (Nat → Int32)} {f3_10 : (Nat → Int32)} {f3_11 : (Nat → Int64)} {x5_41 : Int32} {x5_42 : Int32} {f5_35 : (Nat → Int32)} {f5_36 : (Nat → Int32)} {f5_37 : (Nat → Int32)} {f5_38 : (Nat → Int32)} {f5_39 : (Nat → Int32)} {f5_40 : (Nat → Int32)} (h : i_Q x3_7 x3_8 x3_12 x3_13 f3_0 f3_1 f3_2 f3_3 f3_4 f3_5 f3_6 f3_9 f3_10 f3_11 x5_41 x5_42 f5_35 f5_36 f5_37 f5_38 f5_39 f5_40) : ∃ (o1 : (Int32 × Int32 × (Nat → Int32) × (Nat → Int32))) (o2 : Int32), q_X3_fewestWrong N x3_7 x3_8 x3_13 f3_0 f3_1 f3_2 f3_3 f3_4 f3_5 f3_6 f3_9 f3_10 = some o1 ∧ q_X5_wrong N x5_41 x5_42 f5_35 f5_36 f5_37 f5_38 f5_39 f5_40 = some o2 ∧ o1.1 = o2 ∧ i_Q x3_7 x3_8 x3_12 o1.2.1 f3_0 f3_1 f3_2 f3_3 f3_4 f3_5 f3_6 o1.2.2.1 o1.2.2.2 f3_11 x5_41 x5_42 f5_35 f5_36 f5_37 f5_38 f5_39 f5_40 := by
  have hh := h
  obtain ⟨K, sp, a, d, Bj, hK, hsp, e1, e2, e3, e4, hS, hL, hJ, hC⟩ := h
  subst e1 e2 e3 e4
  unfold q_X3_fewestWrong
  by_cases c : x3_13 = -1
  · obtain ⟨F9, u1, u2⟩ := q_un (N := N) (K := K) (f3 := f3_3) (f4 := f3_4) (f5 := f3_5) (f38 := f5_38) (f39 := f5_39) hN hK hL (fun k hk => (hS k hk).2.2.2.2.2.1) f3_9
    have hE := q_hE hK hsp hS hJ u2
    have hE5 := q_hE5 hK hsp hS hL hJ
    obtain ⟨o, F, w1, w2⟩ := q_few (N := N) (M := N) hE hE5 hN hN f3_10
    have al : ∀ M, 60000 ≤ M → q_X5_wrong M (nI K) (nI sp) f5_35 f5_36 f5_37 f5_38 f5_39 f5_40 = some (nI o) := fun M hM => by
      obtain ⟨o', F', x1, x2⟩ := q_few (N := N) (M := M) hE hE5 hN hM f3_10
      rw [w1] at x1
      have e9 : nI o = nI o' := congrArg Prod.fst (Option.some.inj x1)
      rw [x2, e9]
    exact ⟨(nI o, nI o, F9, F), nI o, e_p c (e_b u1 (e_b w1 rfl)), w2, rfl, K, sp, a, d, Bj, hK, hsp, rfl, rfl, rfl, rfl, hS, hL, hJ, hC.1, Or.inr al⟩
  · rcases hC.2 with q | q
    · exact absurd q c
    · exact ⟨(x3_13, x3_13, f3_9, f3_10), x3_13, e_n c rfl, q N hN, rfl, hh⟩
theorem P_year {N : Nat} (hN : 60000 ≤ N) {x3_7 : Int32} {x3_8 : Int32} {x3_12 : Int32} {x3_13 : Int32} {f3_0 : (Nat → Int32)} {f3_1 : (Nat → Int32)} {f3_2 : (Nat → Int32)} {f3_3 : (Nat → Int32)} {f3_4 : (Nat → Int32)} {f3_5 : (Nat → Int32)} {f3_6 : (Nat → Int32)} {f3_9 : (Nat → Int32)} {f3_10 : (Nat → Int32)} {f3_11 : (Nat → Int64)} {x5_41 : Int32} {x5_42 : Int32} {f5_35 : (Nat → Int32)} {f5_36 : (Nat → Int32)} {f5_37 : (Nat → Int32)} {f5_38 : (Nat → Int32)} {f5_39 : (Nat → Int32)} {f5_40 : (Nat → Int32)} (h : i_Q x3_7 x3_8 x3_12 x3_13 f3_0 f3_1 f3_2 f3_3 f3_4 f3_5 f3_6 f3_9 f3_10 f3_11 x5_41 x5_42 f5_35 f5_36 f5_37 f5_38 f5_39 f5_40) (v1 : Int32) (v2 : Int32) : ∃ (o1 : (Int32 × Int32 × (Nat → Int32) × (Nat → Int32) × (Nat → Int64))) (o2 : Int32), q_X3_tellYear N v1 v2 x3_7 x3_8 x3_12 f3_0 f3_1 f3_2 f3_3 f3_4 f3_5 f3_6 f3_9 f3_10 f3_11 = some o1 ∧ q_X5_year N v1 v2 x5_41 x5_42 f5_35 f5_36 f5_37 f5_38 f5_39 f5_40 = some o2 ∧ o1.1 = o2 ∧ i_Q x3_7 x3_8 o1.2.1 x3_13 f3_0 f3_1 f3_2 f3_3 f3_4 f3_5 f3_6 o1.2.2.1 o1.2.2.2.1 o1.2.2.2.2 x5_41 x5_42 f5_35 f5_36 f5_37 f5_38 f5_39 f5_40 := by
  have hh := h
  obtain ⟨K, sp, a, d, Bj, hK, hsp, e1, e2, e3, e4, hS, hL, hJ, hC⟩ := h
  subst e1 e2 e3 e4
  unfold q_X3_tellYear q_X5_year
  rcases q_isS (N := N) (v := v1) hK with ⟨s, s1, s2, s3, s4⟩ | ⟨s3, s4⟩
  · subst s2
    rcases e_or v2 with q | ⟨k, k1, k2⟩
    · exact ⟨(-1, x3_12, f3_9, f3_10, f3_11), -1, e_b s3 (e_n e_10 (e_p q rfl)), e_b s4 (e_n e_10 (e_b (ht_in_neg q) (e_p rfl rfl))), rfl, hh⟩
    · subst k2
      have p0 : ¬ nI k < 0 := nI_pos k1
      by_cases c : k ≤ 2
      · have n2 : ¬ (2 : Int32) < nI k := e_nlt (b := k) (a := 2) c (by omega)
        have hE5 := q_hE5 hK hsp hS hL hJ
        obtain ⟨F9, F10, F11, r1, r2, r3⟩ := q_cr (N := N) (f9 := f3_9) (f10 := f3_10) hN hK hsp hS hL hJ hC
        obtain ⟨S, y1, y2⟩ := q_y30 (N := N) (f35 := f5_35) (f39 := f5_39) hN hE5 s1
        obtain ⟨Sb, b1, b2⟩ := r2 s s1
        have eS : Sb = S := Nat.eq_of_testBit_eq (fun z => Bool.eq_iff_iff.mpr ((b2 z).trans (y2 z).symm))
        rw [eS] at b1
        obtain ⟨-, h1, -, h2, -, -, h5, h40⟩ := hS s s1
        have hb : ct (qRb K sp 0 a d f5_35 f5_38 f5_39 f5_40) (qP d K) ≤ 46656 := Nat.le_trans ct_le (qP_b hK (fun k hk => (hS k hk).2.2.2.2.2.2.1) (Nat.le_refl _))
        have in1 : q_X5_in N (nI k) 0 2 = some 1 := q_in_1 (lo := 0) (hi := 2) (by omega) c k1 (by omega)
        have hin : z_in (nI s) 6 := e_in (by omega) (by omega)
        have cl : Int32.toNatClampNeg (nI s) = s := e_cl (by omega)
        have fin : i_Q (nI K) (nI sp) (nI (ct (qRb K sp 0 a d f5_35 f5_38 f5_39 f5_40) (qP d K))) x3_13 f3_0 f3_1 f3_2 f3_3 f3_4 f3_5 f3_6 F9 F10 F11 (nI K) (nI sp) f5_35 f5_36 f5_37 f5_38 f5_39 f5_40 := ⟨K, sp, a, d, Bj, hK, hsp, rfl, rfl, rfl, rfl, hS, hL, hJ, r3⟩
        obtain ⟨m, m1, m2, m3⟩ := q_shape (S := S) (A := a s) (D := d s) (fun z hz => by
          obtain ⟨q, q1, q2, q3⟩ := (y2 z).mp hz
          rw [← q3]
          exact qY_le)
        have m64 : m < 64 := Nat.lt_of_lt_of_le m1 (Nat.pow_le_pow_right (n := 2) (by omega) (show d s + 1 ≤ 6 by omega))
        have S63 : S < 2 ^ 63 := by
          rw [m2]
          have h8 : 2 ^ a s ≤ 2 ^ 40 := Nat.pow_le_pow_right (by omega) (by omega)
          have h9 : m * 2 ^ a s ≤ 63 * 2 ^ 40 := Nat.mul_le_mul (by omega) h8
          omega
        by_cases z : ct (qRb K sp 0 a d f5_35 f5_38 f5_39 f5_40) (qP d K) = 0
        · have S0 : S = 0 := Nat.eq_of_testBit_eq (fun w => by
            rw [Nat.zero_testBit]
            refine eq_false_of_ne_true (fun q => ?_)
            obtain ⟨e, e1, e2, e3⟩ := (y2 w).mp q
            have := ct_lt e1 (qRb_t.mpr e2)
            omega)
          refine ⟨(-1, _, F9, F10, F11), -1, e_b s3 (e_n e_10 (e_n p0 (e_n n2 (e_b r1 (e_p ?_ rfl))))), e_b s4 (e_n e_10 (e_b in1 (e_n e_10 (e_b (q_cod hN hE5) (e_b y1 (e_p ((q_cmN S63).mpr S0) rfl)))))), rfl, fin⟩
          rw [z]
          rfl
        · obtain ⟨e, e1, e2, -⟩ := ct_ex (k := 0) (show 0 < ct (qRb K sp 0 a d f5_35 f5_38 f5_39 f5_40) (qP d K) by omega)
          have Sn : S ≠ 0 := fun q => by
            have t := (y2 (qY a d e s)).mpr ⟨e, e1, qRb_t.mp e2, rfl⟩
            rw [q, Nat.zero_testBit] at t
            cases t
          have mn : m ≠ 0 := fun q => Sn (by rw [m2, q, Nat.zero_mul])
          have nz : ¬ nI (ct (qRb K sp 0 a d f5_35 f5_38 f5_39 f5_40) (qP d K)) = 0 := e_ne (b := 0) z (by omega) (by omega)
          have t0 := q_ty (N := N) (f2 := f3_2) (m := m) (A := a s) (D := d s) hN (show s < 6 by omega) h5 h40 h2 b1 S63 m3
          rw [← q_yl6 (k := 6) (show d s + 1 ≤ 6 by omega) m1] at t0
          have nS : ¬ lg_cmp (lN S) 0 = 0 := fun q => Sn ((q_cmN S63).mp q)
          have z1 : q_J13_numberOfTrailingZeros_95d88 N (lN S) = some (q_yl m (a s) 6).1 := by
            rw [m2]; exact q_ntz ⟨m, m64⟩ ⟨a s, by omega⟩ mn
          have z2 : Option.bind (q_J13_numberOfLeadingZeros_95d88 N (lN S)) (fun o => some (63 - o)) = some (q_yl m (a s) 6).2.1 := by
            rw [m2]; exact q_nlz ⟨m, m64⟩ ⟨a s, by omega⟩ mn
          have z3 : q_J13_bitCount_95d88 N (lN S) = some (q_yl m (a s) 6).2.2 := by
            rw [m2]; exact q_lbc ⟨m, m64⟩ ⟨a s, by omega⟩
          have x3 : ∀ {r : Int32} {y : Option (Int32 × Int32 × (Nat → Int32) × (Nat → Int32) × (Nat → Int64))}, (if nI k = 2 then some ((q_yl m (a s) 6).2.2, nI (ct (qRb K sp 0 a d f5_35 f5_38 f5_39 f5_40) (qP d K)), F9, F10, F11) else if nI k = 0 then some ((q_yl m (a s) 6).1, nI (ct (qRb K sp 0 a d f5_35 f5_38 f5_39 f5_40) (qP d K)), F9, F10, F11) else some ((q_yl m (a s) 6).2.1, nI (ct (qRb K sp 0 a d f5_35 f5_38 f5_39 f5_40) (qP d K)), F9, F10, F11)) = y → q_X3_tellYear N (nI s) (nI k) (nI K) (nI sp) x3_12 f3_0 f3_1 f3_2 f3_3 f3_4 f3_5 f3_6 f3_9 f3_10 f3_11 = y := fun hy => by
            unfold q_X3_tellYear
            refine e_b s3 (e_n e_10 (e_n p0 (e_n n2 (e_b r1 (e_n nz (e_p hin ?_))))))
            rw [cl, h1]
            exact e_b t0 hy
          have x5 : ∀ {y : Option Int32}, (if nI k = 0 then Option.bind (q_J13_numberOfTrailingZeros_95d88 N (lN S)) (fun o12 => some o12) else if nI k = 1 then Option.bind (q_J13_numberOfLeadingZeros_95d88 N (lN S)) (fun o11 => some (63 - o11)) else Option.bind (q_J13_bitCount_95d88 N (lN S)) (fun o10 => some o10)) = y → q_X5_year N (nI s) (nI k) (nI K) (nI sp) f5_35 f5_36 f5_37 f5_38 f5_39 f5_40 = y := fun hy => by
            unfold q_X5_year
            exact e_b s4 (e_n e_10 (e_b in1 (e_n e_10 (e_b (q_cod hN hE5) (e_b y1 (e_n nS hy))))))
          rcases (show k = 0 ∨ k = 1 ∨ k = 2 by omega) with rfl | rfl | rfl
          · exact ⟨((q_yl m (a s) 6).1, nI (ct (qRb K sp 0 a d f5_35 f5_38 f5_39 f5_40) (qP d K)), F9, F10, F11), (q_yl m (a s) 6).1, x3 (r := 0) (e_n (by decide) (e_p rfl rfl)), x5 (e_p rfl (e_b z1 rfl)), rfl, fin⟩
          · exact ⟨((q_yl m (a s) 6).2.1, nI (ct (qRb K sp 0 a d f5_35 f5_38 f5_39 f5_40) (qP d K)), F9, F10, F11), (q_yl m (a s) 6).2.1, x3 (r := 0) (e_n (by decide) (e_n (by decide) rfl)), x5 (e_n (by decide) (e_p rfl z2)), rfl, fin⟩
          · exact ⟨((q_yl m (a s) 6).2.2, nI (ct (qRb K sp 0 a d f5_35 f5_38 f5_39 f5_40) (qP d K)), F9, F10, F11), (q_yl m (a s) 6).2.2, x3 (r := 0) (e_p rfl rfl), x5 (e_n (by decide) (e_n (by decide) (e_b z3 rfl))), rfl, fin⟩
      · exact ⟨(-1, x3_12, f3_9, f3_10, f3_11), -1, e_b s3 (e_n e_10 (e_n p0 (e_p (e_lt (a := 2) (by omega) k1) rfl))), e_b s4 (e_n e_10 (e_b (q_in_0 (lo := 0) (hi := 2) (by omega) k1 (by omega)) (e_p rfl rfl))), rfl, hh⟩
  · exact ⟨(-1, x3_12, f3_9, f3_10, f3_11), -1, e_b s3 (e_p rfl rfl), e_b s4 (e_p rfl rfl), rfl, hh⟩

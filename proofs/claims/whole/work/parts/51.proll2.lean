/-! ===== pure rows: join, stone ===== -/
def qset (v : Bool) (B j : Nat) : Nat := if v = true then B ||| 2 ^ j else if B.testBit j = true then B - 2 ^ j else B
theorem qset_t : ∀ (v : Bool) (B : Fin 64) (j k : Fin 6), (qset v B.val j.val).testBit k.val = if k.val = j.val then v else B.val.testBit k.val := by decide +kernel
theorem qset_c : ∀ (B : Fin 64) (j : Fin 6), nI B.val &&& (((1 : Int32) <<< (nI j.val &&& 31)) ^^^ (-1)) = nI (qset false B.val j.val) := by decide +kernel
theorem qset_o : ∀ (B : Fin 64) (j : Fin 6), nI B.val ||| ((1 : Int32) <<< (nI j.val &&& 31)) = nI (qset true B.val j.val) := by decide +kernel
theorem q_64 {K B : Nat} (hK : K ≤ 6) (h : B < 2 ^ K) : B < 64 := Nat.lt_of_lt_of_le h (Nat.pow_le_pow_right (n := 2) (by omega) (show K ≤ 6 from hK))
theorem qset_lt {v : Bool} {K B j : Nat} (h : B < 2 ^ K) (hj : j < K) : qset v B j < 2 ^ K := by
  unfold qset
  by_cases c : v = true
  · rw [if_pos c]
    exact Nat.or_lt_two_pow h (Nat.pow_lt_pow_right (by omega) hj)
  · rw [if_neg c]
    by_cases e : B.testBit j = true
    · rw [if_pos e]; exact Nat.lt_of_le_of_lt (Nat.sub_le _ _) h
    · rw [if_neg e]; exact h
theorem qJ_set {K i j : Nat} {v : Bool} {w : Int32} {Bj : Nat → Nat} {f6 f40 : Nat → Int32} (hK : K ≤ 6) (hi : i < K) (hj : j < K) (hij : i ≠ j) (hw : w = if v = true then 1 else 0) (h : qJ K Bj f6 f40) : qJ K (fun k => if k = j then qset v (Bj j) i else if k = i then qset v (Bj i) j else Bj k) (upd (upd f6 i (nI (qset v (Bj i) j))) j (nI (qset v (Bj j) i))) (upd (upd f40 (6 * i + j) w) (6 * j + i) w) := by
  have tb : ∀ k l, k < K → l < K → ((fun k => if k = j then qset v (Bj j) i else if k = i then qset v (Bj i) j else Bj k) k).testBit l = if (k = i ∧ l = j) ∨ (k = j ∧ l = i) then v else (Bj k).testBit l := by
    intro k l hk hl
    show (if k = j then qset v (Bj j) i else if k = i then qset v (Bj i) j else Bj k).testBit l = _
    by_cases c1 : k = j
    · have t := qset_t v ⟨Bj j, q_64 hK (h j hj).2.1⟩ ⟨i, by omega⟩ ⟨l, by omega⟩
      rw [if_pos c1]
      refine t.trans ?_
      subst c1
      by_cases c2 : l = i
      · rw [if_pos c2, if_pos (Or.inr ⟨rfl, c2⟩)]
      · rw [if_neg c2, if_neg (by omega)]
    · rw [if_neg c1]
      by_cases c2 : k = i
      · have t := qset_t v ⟨Bj i, q_64 hK (h i hi).2.1⟩ ⟨j, by omega⟩ ⟨l, by omega⟩
        rw [if_pos c2]
        refine t.trans ?_
        subst c2
        by_cases c3 : l = j
        · rw [if_pos c3, if_pos (Or.inl ⟨rfl, c3⟩)]
        · rw [if_neg c3, if_neg (by omega)]
      · rw [if_neg c2, if_neg (by omega)]
  intro k hk
  refine ⟨?_, ?_, fun l hl => ?_, fun l hl => ?_⟩
  · show upd (upd f6 i _) j _ k = nI (if k = j then _ else _)
    by_cases c1 : k = j
    · rw [if_pos c1, c1, pk_us]
    · rw [if_neg c1, pk_un c1]
      by_cases c2 : k = i
      · rw [if_pos c2, c2, pk_us]
      · rw [if_neg c2, pk_un c2]
        exact (h k hk).1
  · show (if k = j then qset v (Bj j) i else if k = i then qset v (Bj i) j else Bj k) < 2 ^ K
    by_cases c1 : k = j
    · rw [if_pos c1]; exact qset_lt (h j hj).2.1 hi
    · rw [if_neg c1]
      by_cases c2 : k = i
      · rw [if_pos c2]; exact qset_lt (h i hi).2.1 hj
      · rw [if_neg c2]; exact (h k hk).2.1
  · rw [tb k l hk hl]
    by_cases c1 : 6 * k + l = 6 * j + i
    · have hd : (k = i ∧ l = j) ∨ (k = j ∧ l = i) := by omega
      rw [c1, pk_us, if_pos hd, hw]
    · rw [pk_un c1]
      by_cases c2 : 6 * k + l = 6 * i + j
      · have hd : (k = i ∧ l = j) ∨ (k = j ∧ l = i) := by omega
        rw [c2, pk_us, if_pos hd, hw]
      · have hd : ¬ ((k = i ∧ l = j) ∨ (k = j ∧ l = i)) := by omega
        rw [pk_un c2, if_neg hd]
        exact (h k hk).2.2.1 l hl
  · rw [tb k l hk hl, tb l k hl hk, (h k hk).2.2.2 l hl]
    by_cases c : (k = i ∧ l = j) ∨ (k = j ∧ l = i)
    · rw [if_pos c, if_pos (by omega)]
    · rw [if_neg c, if_neg (by omega)]
theorem P_join {N : Nat} (hN : 60000 ≤ N) {x3_7 : Int32} {x3_8 : Int32} {x3_12 : Int32} {x3_13 : Int32} {f3_0 : (Nat → Int32)} {f3_1 : (Nat → Int32)} {f3_2 : (Nat → Int32)} {f3_3 : (Nat → Int32)} {f3_4 : (Nat → Int32)} {f3_5 : (Nat → Int32)} {f3_6 : (Nat → Int32)} {f3_9 : (Nat → Int32)} {f3_10 : (Nat → Int32)} {f3_11 : (Nat → Int64)} {x5_41 : Int32} {x5_42 : Int32} {f5_35 : (Nat → Int32)} {f5_36 : (Nat → Int32)} {f5_37 : (Nat → Int32)} {f5_38 : (Nat → Int32)} {f5_39 : (Nat → Int32)} {f5_40 : (Nat → Int32)} (h : i_Q x3_7 x3_8 x3_12 x3_13 f3_0 f3_1 f3_2 f3_3 f3_4 f3_5 f3_6 f3_9 f3_10 f3_11 x5_41 x5_42 f5_35 f5_36 f5_37 f5_38 f5_39 f5_40) (v1 : Int32) (v2 : Int32) (v3 : Int32) (hv : v3 = 0 ∨ v3 = 1) : ∃ (o1 : (Int32 × Int32 × Int32 × (Nat → Int32))) (o2 : (Int32 × (Nat → Int32))), q_X3_setJoined N v1 v2 v3 x3_7 x3_12 x3_13 f3_6 = some o1 ∧ q_X5_join N v1 v2 v3 x5_41 f5_40 = some o2 ∧ o1.1 = o2.1 ∧ i_Q x3_7 x3_8 o1.2.1 o1.2.2.1 f3_0 f3_1 f3_2 f3_3 f3_4 f3_5 o1.2.2.2 f3_9 f3_10 f3_11 x5_41 x5_42 f5_35 f5_36 f5_37 f5_38 f5_39 o2.2 := by
  have hh := h
  obtain ⟨K, sp, a, d, Bj, hK, hsp, e1, e2, e3, e4, hS, hL, hJ, hC⟩ := h
  subst e1 e2 e3 e4
  unfold q_X3_setJoined q_X5_join
  rcases q_isS (N := N) (v := v1) hK with ⟨i, i1, i2, i3, i4⟩ | ⟨i3, i4⟩
  · rcases q_isS (N := N) (v := v2) hK with ⟨j, j1, j2, j3, j4⟩ | ⟨j3, j4⟩
    · subst i2 j2
      by_cases c : i = j
      · subst c
        exact ⟨(0, x3_12, x3_13, f3_6), (0, f5_40), e_b i3 (e_n e_10 (e_b j3 (e_n e_10 (e_p rfl rfl)))), e_b i4 (e_n e_10 (e_b j4 (e_n e_10 (e_p rfl rfl)))), rfl, hh⟩
      · have ne : ¬ nI i = nI j := e_ne c (by omega) (by omega)
        have ii : z_in (nI i) 6 := e_in (by omega) (by omega)
        have jj : z_in (nI j) 6 := e_in (by omega) (by omega)
        have ci : Int32.toNatClampNeg (nI i) = i := e_cl (by omega)
        have cj : Int32.toNatClampNeg (nI j) = j := e_cl (by omega)
        have nji : j ≠ i := fun q => c q.symm
        have g1 := (hJ i i1).1
        have g2 := (hJ j j1).1
        have b1 := q_64 hK (hJ i i1).2.1
        have b2 := q_64 hK (hJ j j1).2.1
        have M : ∀ w : Int32, vp_nar .boolean v3 = w → q_X5_isStone N (nI i) (nI K) = some 1 → q_X5_isStone N (nI j) (nI K) = some 1 → Option.bind (q_X5_isStone N (nI i) (nI K)) (fun o1 => if o1 = 0 then some (0, f5_40) else Option.bind (q_X5_isStone N (nI j) (nI K)) (fun o3 => if o3 = 0 then some (0, f5_40) else if nI i = nI j then some (0, f5_40) else if z_in ((6 * nI i) + nI j) 36 then if z_in ((6 * nI j) + nI i) 36 then some ((1 : Int32), upd (upd f5_40 (Int32.toNatClampNeg ((6 * nI i) + nI j)) (vp_nar .boolean v3)) (Int32.toNatClampNeg ((6 * nI j) + nI i)) (vp_nar .boolean v3)) else none else none)) = some (1, upd (upd f5_40 (6 * i + j) w) (6 * j + i) w) := by
          intro w hw q1 q2
          refine e_b q1 (e_n e_10 (e_b q2 (e_n e_10 (e_n ne ?_))))
          rw [ix6, ix6]
          refine e_p (e_in (by omega) (by omega)) (e_p (e_in (by omega) (by omega)) ?_)
          rw [e_cl (n := 6 * i + j) (by omega), e_cl (n := 6 * j + i) (by omega), hw]
        rcases hv with hv | hv
        · subst hv
          have s1 : f3_6 i &&& (((1 : Int32) <<< (nI j &&& 31)) ^^^ (-1)) = nI (qset false (Bj i) j) := by
            rw [g1]
            exact qset_c ⟨Bj i, b1⟩ ⟨j, by omega⟩
          have s2 : f3_6 j &&& (((1 : Int32) <<< (nI i &&& 31)) ^^^ (-1)) = nI (qset false (Bj j) i) := by
            rw [g2]
            exact qset_c ⟨Bj j, b2⟩ ⟨i, by omega⟩
          refine ⟨(1, -1, -1, upd (upd f3_6 i (nI (qset false (Bj i) j))) j (nI (qset false (Bj j) i))), (1, upd (upd f5_40 (6 * i + j) 0) (6 * j + i) 0), e_b i3 (e_n e_10 (e_b j3 (e_n e_10 (e_n ne (e_p rfl (e_p ii (e_s (e_p jj (e_s (e_b rfl ?_)))))))))), M 0 rfl i4 j4, rfl, K, sp, a, d, _, hK, hsp, rfl, rfl, rfl, rfl, hS, hL, qJ_set (v := false) hK i1 j1 c rfl hJ, Or.inl rfl, Or.inl rfl⟩
          rw [ci, cj, pk_un nji, s1, s2]
        · subst hv
          have s1 : f3_6 i ||| ((1 : Int32) <<< (nI j &&& 31)) = nI (qset true (Bj i) j) := by
            rw [g1]
            exact qset_o ⟨Bj i, b1⟩ ⟨j, by omega⟩
          have s2 : f3_6 j ||| ((1 : Int32) <<< (nI i &&& 31)) = nI (qset true (Bj j) i) := by
            rw [g2]
            exact qset_o ⟨Bj j, b2⟩ ⟨i, by omega⟩
          refine ⟨(1, -1, -1, upd (upd f3_6 i (nI (qset true (Bj i) j))) j (nI (qset true (Bj j) i))), (1, upd (upd f5_40 (6 * i + j) 1) (6 * j + i) 1), e_b i3 (e_n e_10 (e_b j3 (e_n e_10 (e_n ne (e_n e_10 (e_p ii (e_s (e_p jj (e_s (e_b rfl ?_)))))))))), M 1 rfl i4 j4, rfl, K, sp, a, d, _, hK, hsp, rfl, rfl, rfl, rfl, hS, hL, qJ_set (v := true) hK i1 j1 c rfl hJ, Or.inl rfl, Or.inl rfl⟩
          rw [ci, cj, pk_un nji, s1, s2]
    · exact ⟨(0, x3_12, x3_13, f3_6), (0, f5_40), e_b i3 (e_n e_10 (e_b j3 (e_p rfl rfl))), e_b i4 (e_n e_10 (e_b j4 (e_p rfl rfl))), rfl, hh⟩
  · exact ⟨(0, x3_12, x3_13, f3_6), (0, f5_40), e_b i3 (e_p rfl rfl), e_b i4 (e_p rfl rfl), rfl, hh⟩
/-! stone -/
def q_nm (w : Int32) : Prop := ∀ k : Nat, k < 4 → (z_ushr w (24 - 8 * nI k) &&& 255) ≤ 26
theorem q_name {N : Nat} {w : Int32} (hN : 60000 ≤ N) : (q_nm w ∧ q_X3_isName N w = some 1) ∨ (¬ q_nm w ∧ q_X3_isName N w = some 0) := by
  have L : ∀ (m k : Nat), k ≤ 4 → 4 - k < m → ((∀ q, k ≤ q → q < 4 → (z_ushr w (24 - 8 * nI q) &&& 255) ≤ 26) ∧ q_X3_isName_L2 N w m (nI k) = some (Sum.inr ())) ∨ ((¬ ∀ q, k ≤ q → q < 4 → (z_ushr w (24 - 8 * nI q) &&& 255) ≤ 26) ∧ q_X3_isName_L2 N w m (nI k) = some (Sum.inl 0)) := by
    intro m
    induction m with
    | zero => intro k _ h; omega
    | succ m ih =>
      intro k hk hm
      rw [q_X3_isName_L2, nI_1]
      by_cases e : k = 4
      · subst e
        exact Or.inl ⟨fun q a b => by omega, e_p (e_le (a := 4) (Nat.le_refl _) (by omega)) rfl⟩
      · have nle : ¬ (4 : Int32) ≤ nI k := e_nle (a := 4) (by omega) (by omega)
        by_cases c : (z_ushr w (24 - 8 * nI k) &&& 255) ≤ 26
        · rcases ih (k + 1) (by omega) (by omega) with ⟨I1, I2⟩ | ⟨I1, I2⟩
          · exact Or.inl ⟨fun q a b => by
              by_cases z : q = k
              · subst z; exact c
              · exact I1 q (by omega) b, e_n nle (e_b rfl (e_p c I2))⟩
          · exact Or.inr ⟨fun h => I1 fun q a b => h q (by omega) b, e_n nle (e_b rfl (e_p c I2))⟩
        · exact Or.inr ⟨fun h => c (h k (Nat.le_refl _) (by omega)), e_n nle (e_b rfl (e_n c rfl))⟩
  unfold q_X3_isName
  rcases L N 0 (Nat.zero_le _) (by omega) with ⟨a, b⟩ | ⟨a, b⟩
  · exact Or.inl ⟨fun k hk => a k (Nat.zero_le _) hk, e_b b rfl⟩
  · exact Or.inr ⟨fun q => a fun k _ hk => q k hk, e_b b rfl⟩
def q_yr (v2 v3 : Int32) : Prop := ∃ a d : Nat, d ≤ 5 ∧ a + d ≤ 40 ∧ v2 = nI a ∧ v3 = nI (a + d)
theorem q_years {N : Nat} {v2 v3 : Int32} : (q_yr v2 v3 ∧ q_X3_areYears N v2 v3 = some 1) ∨ (¬ q_yr v2 v3 ∧ q_X3_areYears N v2 v3 = some 0) := by
  unfold q_X3_areYears
  rcases e_or v2 with h | ⟨a, a1, a2⟩
  · exact Or.inr ⟨fun ⟨a, d, x1, x2, x3, x4⟩ => e_neg_ne h (by omega) x3, e_p h rfl⟩
  · subst a2
    have p0 : ¬ nI a < 0 := nI_pos a1
    rcases e_or v3 with h | ⟨b, b1, b2⟩
    · have n40 : ¬ (40 : Int32) < v3 := fun q => by
        have h1 := e_ti.mp h
        have h2 := Int32.lt_iff_toInt_lt.mp q
        have h3 : (40 : Int32).toInt = 40 := by decide
        omega
      exact Or.inr ⟨fun ⟨a, d, x1, x2, x3, x4⟩ => e_neg_ne h (by omega) x4, e_n p0 (e_n n40 (e_p (e_neg_lt h a1) rfl))⟩
    · subst b2
      have no : ¬ (a ≤ b ∧ b ≤ a + 5 ∧ b ≤ 40) → ¬ q_yr (nI a) (nI b) := fun z ⟨a', d', x1, x2, x3, x4⟩ => by
        have y1 := (nI_eq a1 (by omega)).mp x3
        have y2 := (nI_eq b1 (by omega)).mp x4
        omega
      by_cases c1 : 40 < b
      · exact Or.inr ⟨no (by omega), e_n p0 (e_p (e_lt (a := 40) c1 b1) rfl)⟩
      · by_cases c2 : b < a
        · exact Or.inr ⟨no (by omega), e_n p0 (e_n (e_nlt (a := 40) (by omega) (by omega)) (e_p (e_lt c2 a1) rfl))⟩
        · have sb : nI b - nI a = nI (b - a) := pk_sub (by omega)
          by_cases c3 : 5 < b - a
          · exact Or.inr ⟨no (by omega), e_n p0 (e_n (e_nlt (a := 40) (by omega) (by omega)) (e_n (e_nlt (by omega) (by omega)) (e_p (by rw [sb]; exact e_lt (a := 5) c3 (by omega)) rfl)))⟩
          · exact Or.inl ⟨⟨a, b - a, by omega, by omega, rfl, by rw [show a + (b - a) = b by omega]⟩, e_n p0 (e_n (e_nlt (a := 40) (by omega) (by omega)) (e_n (e_nlt (by omega) (by omega)) (e_n (by rw [sb]; exact e_nlt (a := 5) (by omega) (by omega)) rfl)))⟩
def q_tn (v : Int32) : Prop := v = -1 ∨ ∃ t : Nat, t ≤ 9 ∧ v = nI t
theorem q_town5 {N : Nat} {v : Int32} : (q_tn v ∧ q_X5_in N v (-1) 9 = some 1) ∨ (¬ q_tn v ∧ q_X5_in N v (-1) 9 = some 0) := by
  have m1 : (-1 : Int32).toInt = -1 := by decide
  have m9 : (9 : Int32).toInt = 9 := by decide
  unfold q_X5_in
  rcases e_or v with h | ⟨t, t1, t2⟩
  · by_cases e : v = -1
    · subst e
      exact Or.inl ⟨Or.inl rfl, e_n (by decide) (e_n (by decide) rfl)⟩
    · have l : v < -1 := by
        rw [Int32.lt_iff_toInt_lt]
        have h1 := e_ti.mp h
        have h2 : v.toInt ≠ -1 := fun q => e (Int32.toInt_inj.mp (by rw [q, m1]))
        omega
      exact Or.inr ⟨fun q => q.elim e (fun ⟨t, x1, x2⟩ => e_neg_ne h (by omega) x2), e_p l rfl⟩
  · subst t2
    have nl : ¬ nI t < -1 := fun q => by
      have := Int32.lt_iff_toInt_lt.mp q
      rw [nI_toInt t1] at this
      omega
    by_cases c : t ≤ 9
    · exact Or.inl ⟨Or.inr ⟨t, c, rfl⟩, e_n nl (e_n (e_nlt (a := 9) c (by omega)) rfl)⟩
    · exact Or.inr ⟨fun q => q.elim (fun z => e_m1 t1 z) (fun ⟨u, x1, x2⟩ => c (by rw [(nI_eq t1 (by omega)).mp x2]; exact x1)), e_n nl (e_p (e_lt (a := 9) (by omega) t1) rfl)⟩
theorem q_61 {N : Nat} {v4 v5 x41 : Int32} {f35 f36 f37 f38 f39 f40 : Nat → Int32} (hN : 60000 ≤ N) : ((q_nm v4 ∧ q_nm v5) ∧ q_X5_stone_L61 N v4 v5 x41 f35 f36 f37 f38 f39 f40 N 0 = some (Sum.inr ())) ∨ (¬ (q_nm v4 ∧ q_nm v5) ∧ q_X5_stone_L61 N v4 v5 x41 f35 f36 f37 f38 f39 f40 N 0 = some (Sum.inl ((-1), x41, f35, f36, f37, f38, f39, f40))) := by
  have L : ∀ (m k : Nat), k ≤ 4 → 4 - k < m → ((∀ q, k ≤ q → q < 4 → (z_ushr v4 (24 - 8 * nI q) &&& 255) ≤ 26 ∧ (z_ushr v5 (24 - 8 * nI q) &&& 255) ≤ 26) ∧ q_X5_stone_L61 N v4 v5 x41 f35 f36 f37 f38 f39 f40 m (nI k) = some (Sum.inr ())) ∨ ((¬ ∀ q, k ≤ q → q < 4 → (z_ushr v4 (24 - 8 * nI q) &&& 255) ≤ 26 ∧ (z_ushr v5 (24 - 8 * nI q) &&& 255) ≤ 26) ∧ q_X5_stone_L61 N v4 v5 x41 f35 f36 f37 f38 f39 f40 m (nI k) = some (Sum.inl ((-1), x41, f35, f36, f37, f38, f39, f40))) := by
    intro m
    induction m with
    | zero => intro k _ h; omega
    | succ m ih =>
      intro k hk hm
      rw [q_X5_stone_L61, nI_1]
      by_cases e : k = 4
      · subst e
        exact Or.inl ⟨fun q a b => by omega, e_p (e_le (a := 4) (Nat.le_refl _) (by omega)) rfl⟩
      · have nle : ¬ (4 : Int32) ≤ nI k := e_nle (a := 4) (by omega) (by omega)
        by_cases c : (z_ushr v4 (24 - 8 * nI k) &&& 255) ≤ 26
        · have c' : ¬ (26 : Int32) < (z_ushr v4 (24 - 8 * nI k) &&& 255) := Int32.not_lt.mpr c
          by_cases c2 : (z_ushr v5 (24 - 8 * nI k) &&& 255) ≤ 26
          · rcases ih (k + 1) (by omega) (by omega) with ⟨I1, I2⟩ | ⟨I1, I2⟩
            · exact Or.inl ⟨fun q a b => by
                by_cases z : q = k
                · subst z; exact ⟨c, c2⟩
                · exact I1 q (by omega) b, e_n nle (e_n c' (e_p c2 I2))⟩
            · exact Or.inr ⟨fun h => I1 fun q a b => h q (by omega) b, e_n nle (e_n c' (e_p c2 I2))⟩
          · exact Or.inr ⟨fun h => c2 (h k (Nat.le_refl _) (by omega)).2, e_n nle (e_n c' (e_n c2 rfl))⟩
        · exact Or.inr ⟨fun h => c (h k (Nat.le_refl _) (by omega)).1, e_n nle (e_p (Int32.not_le.mp c) rfl)⟩
  rcases L N 0 (Nat.zero_le _) (by omega) with ⟨a, b⟩ | ⟨a, b⟩
  · exact Or.inl ⟨⟨fun k hk => (a k (Nat.zero_le _) hk).1, fun k hk => (a k (Nat.zero_le _) hk).2⟩, b⟩
  · exact Or.inr ⟨fun q => a fun k _ hk => ⟨q.1 k hk, q.2 k hk⟩, b⟩
theorem q_118 {N K : Nat} {v4 v5 : Int32} (hK : K < 6) : ∀ (m k : Nat) (f : Nat → Int32), k ≤ 4 → 4 - k < m → (∀ i, i < k → f (8 * K + i) = qL v4 v5 i ∧ f (8 * K + 4 + i) = qL v4 v5 (4 + i)) → ∃ F : Nat → Int32, q_X5_stone_L118 N v4 v5 (nI K) m (nI k) f = some F ∧ (∀ i, i < 4 → F (8 * K + i) = qL v4 v5 i ∧ F (8 * K + 4 + i) = qL v4 v5 (4 + i)) ∧ ∀ q, q < 8 * K → F q = f q := by
  intro m
  induction m with
  | zero => intro k _ _ h; omega
  | succ m ih =>
    intro k f hk hm hf
    have ix : (8 : Int32) * nI K + 4 + nI k = nI (8 * K + 4 + k) := by
      rw [← nI_add, ← nI_add, ← pk_mul]
      rfl
    rw [q_X5_stone_L118, nI_1, ix8, ix]
    by_cases e : k = 4
    · subst e
      exact ⟨f, e_p (e_le (a := 4) (Nat.le_refl _) (by omega)) rfl, hf, fun _ _ => rfl⟩
    · have nle : ¬ (4 : Int32) ≤ nI k := e_nle (a := 4) (by omega) (by omega)
      have l1 : qL v4 v5 k = z_ushr v4 (24 - 8 * nI k) &&& 255 := if_pos (by omega)
      have l2 : qL v4 v5 (4 + k) = z_ushr v5 (24 - 8 * nI k) &&& 255 := by
        unfold qL
        rw [if_neg (by omega), show 4 + k - 4 = k by omega]
      obtain ⟨F, p1, p2, p3⟩ := ih (k + 1) (upd (upd f (8 * K + k) (qL v4 v5 k)) (8 * K + 4 + k) (qL v4 v5 (4 + k))) (by omega) (by omega) (fun i hi => by
        by_cases z : i = k
        · subst z
          rw [pk_un (by omega), pk_us, pk_us]
          exact ⟨rfl, rfl⟩
        · have := hf i (by omega)
          rw [pk_un (by omega), pk_un (by omega), pk_un (by omega), pk_un (by omega)]
          exact this)
      refine ⟨F, e_n nle (e_p (e_in (by omega) (by omega)) (e_p (e_in (by omega) (by omega)) ?_)), p2, fun q hq => by
        rw [p3 q hq, pk_un (by omega), pk_un (by omega)]⟩
      rw [e_cl (n := 8 * K + k) (by omega), e_cl (n := 8 * K + 4 + k) (by omega), ← l1, ← l2]
      exact p1
theorem q_236 {N K : Nat} (hK : K < 6) : ∀ (m k : Nat) (f : Nat → Int32), k ≤ 6 → 6 - k < m → (∀ i, i < k → f (6 * K + i) = 0 ∧ f (6 * i + K) = 0) → ∃ F : Nat → Int32, q_X5_stone_L236 N (nI K) m (nI k) f = some F ∧ (∀ i, i < 6 → F (6 * K + i) = 0 ∧ F (6 * i + K) = 0) ∧ ∀ i j, i < 6 → j < 6 → i ≠ K → j ≠ K → F (6 * i + j) = f (6 * i + j) := by
  intro m
  induction m with
  | zero => intro k _ _ h; omega
  | succ m ih =>
    intro k f hk hm hf
    rw [q_X5_stone_L236, nI_1, ix6, ix6]
    by_cases e : k = 6
    · subst e
      exact ⟨f, e_p (e_le (a := 6) (Nat.le_refl _) (by omega)) rfl, hf, fun _ _ _ _ _ _ => rfl⟩
    · have nle : ¬ (6 : Int32) ≤ nI k := e_nle (a := 6) (by omega) (by omega)
      obtain ⟨F, p1, p2, p3⟩ := ih (k + 1) (upd (upd f (6 * K + k) (vp_nar .boolean 0)) (6 * k + K) (vp_nar .boolean 0)) (by omega) (by omega) (fun i hi => by
        have w : ∀ q, (q = 6 * K + i ∨ q = 6 * i + K) → upd (upd f (6 * K + k) (vp_nar .boolean 0)) (6 * k + K) (vp_nar .boolean 0) q = 0 := fun q hq => by
          by_cases z1 : q = 6 * k + K
          · rw [z1, pk_us]; rfl
          · rw [pk_un z1]
            by_cases z2 : q = 6 * K + k
            · rw [z2, pk_us]; rfl
            · rw [pk_un z2]
              rcases hq with hq | hq
              · rw [hq]; exact (hf i (by omega)).1
              · rw [hq]; exact (hf i (by omega)).2
        exact ⟨w _ (Or.inl rfl), w _ (Or.inr rfl)⟩)
      refine ⟨F, e_n nle (e_p (e_in (by omega) (by omega)) (e_p (e_in (by omega) (by omega)) ?_)), p2, fun i j hi hj hik hjk => by
        rw [p3 i j hi hj hik hjk, pk_un (by omega), pk_un (by omega)]⟩
      rw [e_cl (n := 6 * K + k) (by omega), e_cl (n := 6 * k + K) (by omega)]
      exact p1
def q_ok (K : Nat) (v1 v2 v3 v4 v5 v6 : Int32) : Prop := (∃ e : Nat, e ≤ 3 ∧ v1 = nI e) ∧ q_yr v2 v3 ∧ (q_nm v4 ∧ q_nm v5) ∧ q_tn v6 ∧ K < 6

/-! ===== pure rows: stone, lose ===== -/
theorem q_add1 {N K : Nat} {v1 v2 v3 v4 v5 v6 x12 x13 : Int32} {f0 f1 f2 f3 f4 f5 f6 : Nat → Int32} (hN : 60000 ≤ N) (hK : K ≤ 6) : (q_ok K v1 v2 v3 v4 v5 v6 ∧ q_X3_addStone N v1 v2 v3 v4 v5 v6 (nI K) x12 x13 f0 f1 f2 f3 f4 f5 f6 = some (nI K, nI (K + 1), -1, -1, upd f0 K v1, upd f1 K v2, upd f2 K v3, upd f3 K v4, upd f4 K v5, upd f5 K v6, upd f6 K 0)) ∨ (¬ q_ok K v1 v2 v3 v4 v5 v6 ∧ q_X3_addStone N v1 v2 v3 v4 v5 v6 (nI K) x12 x13 f0 f1 f2 f3 f4 f5 f6 = some (-1, nI K, x12, x13, f0, f1, f2, f3, f4, f5, f6)) := by
  unfold q_X3_addStone
  rcases e_or v1 with h | ⟨e, e1, e2⟩
  · exact Or.inr ⟨fun ⟨⟨e, x1, x2⟩, _⟩ => e_neg_ne h (by omega) x2, e_p h rfl⟩
  · subst e2
    have p0 : ¬ nI e < 0 := nI_pos e1
    by_cases c : e ≤ 3
    · have n4 : ¬ (4 : Int32) ≤ nI e := e_nle (a := 4) (by omega) (by omega)
      rcases q_years (N := N) (v2 := v2) (v3 := v3) with ⟨y, y'⟩ | ⟨y, y'⟩
      · rcases q_name (N := N) (w := v4) hN with ⟨n, n'⟩ | ⟨n, n'⟩
        · rcases q_name (N := N) (w := v5) hN with ⟨m, m'⟩ | ⟨m, m'⟩
          · have T : (q_tn v6 ∧ (v6 = -1 ∨ (¬ v6 = -1 ∧ q_X4_isTown N v6 = some 1))) ∨ (¬ q_tn v6 ∧ ¬ v6 = -1 ∧ q_X4_isTown N v6 = some 0) := by
              by_cases z : v6 = -1
              · exact Or.inl ⟨Or.inl z, Or.inl z⟩
              · rcases e_or v6 with h | ⟨t, t1, t2⟩
                · exact Or.inr ⟨fun q => q.elim z (fun ⟨t, x1, x2⟩ => e_neg_ne h (by omega) x2), z, q_town_0 (Or.inl h)⟩
                · subst t2
                  by_cases c : t ≤ 9
                  · exact Or.inl ⟨Or.inr ⟨t, c, rfl⟩, Or.inr ⟨z, q_town_1 c⟩⟩
                  · exact Or.inr ⟨fun q => q.elim z (fun ⟨u, x1, x2⟩ => c (by rw [(nI_eq t1 (by omega)).mp x2]; exact x1)), z, q_town_0 (Or.inr ⟨t, t1, by omega, rfl⟩)⟩
            have cl : Int32.toNatClampNeg (nI K) = K := e_cl (by omega)
            by_cases k6 : K < 6
            · have l6 : nI K < 6 := e_lt (b := 6) k6 (by omega)
              have hin : z_in (nI K) 6 := e_in k6 (by omega)
              rcases T with ⟨t, t'⟩ | ⟨t, z, t'⟩
              · refine Or.inl ⟨⟨⟨e, c, rfl⟩, y, ⟨n, m⟩, t, k6⟩, e_n p0 (e_n n4 (e_b y' (e_n e_10 (e_b n' (e_n e_10 (e_b m' (e_n e_10 ?_)))))))⟩
                rcases t' with z | ⟨z, t'⟩
                · refine e_p z (e_p l6 (e_p hin (e_b rfl ?_)))
                  rw [cl, nI_1]
                · refine e_n z (e_b t' (e_n e_10 (e_p l6 (e_p hin (e_b rfl ?_)))))
                  rw [cl, nI_1]
              · exact Or.inr ⟨fun q => t q.2.2.2.1, e_n p0 (e_n n4 (e_b y' (e_n e_10 (e_b n' (e_n e_10 (e_b m' (e_n e_10 (e_n z (e_b t' (e_p rfl rfl))))))))))⟩
            · have l6 : ¬ nI K < 6 := e_nlt (b := 6) (by omega) (by omega)
              rcases T with ⟨t, t'⟩ | ⟨t, z, t'⟩
              · refine Or.inr ⟨fun q => k6 q.2.2.2.2, e_n p0 (e_n n4 (e_b y' (e_n e_10 (e_b n' (e_n e_10 (e_b m' (e_n e_10 ?_)))))))⟩
                rcases t' with z | ⟨z, t'⟩
                · exact e_p z (e_n l6 rfl)
                · exact e_n z (e_b t' (e_n e_10 (e_n l6 rfl)))
              · exact Or.inr ⟨fun q => t q.2.2.2.1, e_n p0 (e_n n4 (e_b y' (e_n e_10 (e_b n' (e_n e_10 (e_b m' (e_n e_10 (e_n z (e_b t' (e_p rfl rfl))))))))))⟩
          · exact Or.inr ⟨fun q => m q.2.2.1.2, e_n p0 (e_n n4 (e_b y' (e_n e_10 (e_b n' (e_n e_10 (e_b m' (e_p rfl rfl)))))))⟩
        · exact Or.inr ⟨fun q => n q.2.2.1.1, e_n p0 (e_n n4 (e_b y' (e_n e_10 (e_b n' (e_p rfl rfl)))))⟩
      · exact Or.inr ⟨fun q => y q.2.1, e_n p0 (e_n n4 (e_b y' (e_p rfl rfl)))⟩
    · exact Or.inr ⟨fun ⟨⟨u, x1, x2⟩, _⟩ => c (by rw [(nI_eq e1 (by omega)).mp x2]; exact x1), e_n p0 (e_p (e_le (a := 4) (by omega) e1) rfl)⟩
theorem q_yr5 {N : Nat} {v2 v3 : Int32} : (q_yr v2 v3 ∧ q_X5_in N v2 0 40 = some 1 ∧ q_X5_in N v3 v2 40 = some 1 ∧ ¬ 5 < v3 - v2) ∨ (¬ q_yr v2 v3 ∧ (q_X5_in N v2 0 40 = some 0 ∨ (q_X5_in N v2 0 40 = some 1 ∧ q_X5_in N v3 v2 40 = some 0) ∨ (q_X5_in N v2 0 40 = some 1 ∧ q_X5_in N v3 v2 40 = some 1 ∧ 5 < v3 - v2))) := by
  rcases e_or v2 with h | ⟨a, a1, a2⟩
  · exact Or.inr ⟨fun ⟨a, d, x1, x2, x3, x4⟩ => e_neg_ne h (by omega) x3, Or.inl (ht_in_neg h)⟩
  · subst a2
    by_cases c0 : a ≤ 40
    · have i1 := q_in_1 (N := N) (v := a) (lo := 0) (hi := 40) (by omega) c0 a1 (by omega)
      rcases e_or v3 with h | ⟨b, b1, b2⟩
      · exact Or.inr ⟨fun ⟨a, d, x1, x2, x3, x4⟩ => e_neg_ne h (by omega) x4, Or.inr (Or.inl ⟨i1, q_in_n h a1⟩)⟩
      · subst b2
        have no : ¬ (a ≤ b ∧ b ≤ a + 5 ∧ b ≤ 40) → ¬ q_yr (nI a) (nI b) := fun z ⟨a', d', x1, x2, x3, x4⟩ => by
          have y1 := (nI_eq a1 (by omega)).mp x3
          have y2 := (nI_eq b1 (by omega)).mp x4
          omega
        by_cases c1 : a ≤ b ∧ b ≤ 40
        · have i2 := q_in_1 (N := N) (v := b) (lo := a) (hi := 40) c1.1 c1.2 b1 (by omega)
          have sb : nI b - nI a = nI (b - a) := pk_sub c1.1
          by_cases c3 : 5 < b - a
          · exact Or.inr ⟨no (by omega), Or.inr (Or.inr ⟨i1, i2, by rw [sb]; exact e_lt (a := 5) c3 (by omega)⟩)⟩
          · exact Or.inl ⟨⟨a, b - a, by omega, by omega, rfl, by rw [show a + (b - a) = b by omega]⟩, i1, i2, by rw [sb]; exact e_nlt (a := 5) (by omega) (by omega)⟩
        · exact Or.inr ⟨no (by omega), Or.inr (Or.inl ⟨i1, q_in_0 (v := b) (lo := a) (hi := 40) (by omega) b1 a1⟩)⟩
    · exact Or.inr ⟨fun ⟨a', d, x1, x2, x3, x4⟩ => by
        have y1 := (nI_eq a1 (by omega)).mp x3
        omega, Or.inl (q_in_0 (lo := 0) (hi := 40) (by omega) a1 (by omega))⟩
theorem q_add5 {N K : Nat} {v1 v2 v3 v4 v5 v6 : Int32} {f35 f36 f37 f38 f39 f40 : Nat → Int32} (hN : 60000 ≤ N) (hK : K ≤ 6) : (q_ok K v1 v2 v3 v4 v5 v6 ∧ ∃ F38 F40 : Nat → Int32, q_X5_stone N v1 v2 v3 v4 v5 v6 (nI K) f35 f36 f37 f38 f39 f40 = some (nI K, nI (K + 1), upd f35 K v1, upd f36 K v2, upd f37 K v3, F38, upd f39 K v6, F40) ∧ (∀ i, i < 4 → F38 (8 * K + i) = qL v4 v5 i ∧ F38 (8 * K + 4 + i) = qL v4 v5 (4 + i)) ∧ (∀ q, q < 8 * K → F38 q = f38 q) ∧ (∀ i, i < 6 → F40 (6 * K + i) = 0 ∧ F40 (6 * i + K) = 0) ∧ ∀ i j, i < 6 → j < 6 → i ≠ K → j ≠ K → F40 (6 * i + j) = f40 (6 * i + j)) ∨ (¬ q_ok K v1 v2 v3 v4 v5 v6 ∧ q_X5_stone N v1 v2 v3 v4 v5 v6 (nI K) f35 f36 f37 f38 f39 f40 = some (-1, nI K, f35, f36, f37, f38, f39, f40)) := by
  unfold q_X5_stone
  rcases e_or v1 with h | ⟨e, e1, e2⟩
  · exact Or.inr ⟨fun ⟨⟨e, x1, x2⟩, _⟩ => e_neg_ne h (by omega) x2, e_b (ht_in_neg h) (e_p rfl rfl)⟩
  · subst e2
    by_cases c : e ≤ 3
    · have i1 := q_in_1 (N := N) (v := e) (lo := 0) (hi := 3) (by omega) c e1 (by omega)
      rcases q_yr5 (N := N) (v2 := v2) (v3 := v3) with ⟨y, y1, y2, y3⟩ | ⟨y, y'⟩
      · rcases q_town5 (N := N) (v := v6) with ⟨t, t'⟩ | ⟨t, t'⟩
        · by_cases k6 : K < 6
          · have n6 : ¬ nI K = 6 := e_ne (b := 6) (by omega) (by omega) (by omega)
            have hin : z_in (nI K) 6 := e_in k6 (by omega)
            have cl : Int32.toNatClampNeg (nI K) = K := e_cl (by omega)
            rcases q_61 (N := N) (v4 := v4) (v5 := v5) (x41 := nI K) (f35 := f35) (f36 := f36) (f37 := f37) (f38 := f38) (f39 := f39) (f40 := f40) hN with ⟨n, n'⟩ | ⟨n, n'⟩
            · obtain ⟨F38, l1, l2, l3⟩ := q_118 (N := N) (v4 := v4) (v5 := v5) k6 N 0 f38 (Nat.zero_le _) (by omega) (fun i hi => by omega)
              obtain ⟨F40, m1, m2, m3⟩ := q_236 (N := N) k6 N 0 f40 (Nat.zero_le _) (by omega) (fun i hi => by omega)
              refine Or.inl ⟨⟨⟨e, c, rfl⟩, y, n, t, k6⟩, F38, F40, e_b i1 (e_n e_10 (e_b y1 (e_n e_10 (e_b y2 (e_n e_10 (e_n y3 (e_b t' (e_n e_10 (e_n n6 (e_b n' (e_b l1 (e_p hin (e_b m1 ?_))))))))))))), l2, l3, m2, m3⟩
              rw [cl, nI_1, nI_pred]
            · exact Or.inr ⟨fun q => n q.2.2.1, e_b i1 (e_n e_10 (e_b y1 (e_n e_10 (e_b y2 (e_n e_10 (e_n y3 (e_b t' (e_n e_10 (e_n n6 (e_b n' rfl))))))))))⟩
          · have k6' : K = 6 := by omega
            subst k6'
            exact Or.inr ⟨fun q => k6 q.2.2.2.2, e_b i1 (e_n e_10 (e_b y1 (e_n e_10 (e_b y2 (e_n e_10 (e_n y3 (e_b t' (e_n e_10 (e_p rfl rfl)))))))))⟩
        · exact Or.inr ⟨fun q => t q.2.2.2.1, e_b i1 (e_n e_10 (e_b y1 (e_n e_10 (e_b y2 (e_n e_10 (e_n y3 (e_b t' (e_p rfl rfl))))))))⟩
      · rcases y' with y1 | ⟨y1, y2⟩ | ⟨y1, y2, y3⟩
        · exact Or.inr ⟨fun q => y q.2.1, e_b i1 (e_n e_10 (e_b y1 (e_p rfl rfl)))⟩
        · exact Or.inr ⟨fun q => y q.2.1, e_b i1 (e_n e_10 (e_b y1 (e_n e_10 (e_b y2 (e_p rfl rfl)))))⟩
        · exact Or.inr ⟨fun q => y q.2.1, e_b i1 (e_n e_10 (e_b y1 (e_n e_10 (e_b y2 (e_n e_10 (e_p y3 rfl))))))⟩
    · exact Or.inr ⟨fun ⟨⟨u, x1, x2⟩, _⟩ => c (by rw [(nI_eq e1 (by omega)).mp x2]; exact x1), e_b (q_in_0 (lo := 0) (hi := 3) (by omega) e1 (by omega)) (e_p rfl rfl)⟩
theorem P_stone {N : Nat} (hN : 60000 ≤ N) {x3_7 : Int32} {x3_8 : Int32} {x3_12 : Int32} {x3_13 : Int32} {f3_0 : (Nat → Int32)} {f3_1 : (Nat → Int32)} {f3_2 : (Nat → Int32)} {f3_3 : (Nat → Int32)} {f3_4 : (Nat → Int32)} {f3_5 : (Nat → Int32)} {f3_6 : (Nat → Int32)} {f3_9 : (Nat → Int32)} {f3_10 : (Nat → Int32)} {f3_11 : (Nat → Int64)} {x5_41 : Int32} {x5_42 : Int32} {f5_35 : (Nat → Int32)} {f5_36 : (Nat → Int32)} {f5_37 : (Nat → Int32)} {f5_38 : (Nat → Int32)} {f5_39 : (Nat → Int32)} {f5_40 : (Nat → Int32)} (h : i_Q x3_7 x3_8 x3_12 x3_13 f3_0 f3_1 f3_2 f3_3 f3_4 f3_5 f3_6 f3_9 f3_10 f3_11 x5_41 x5_42 f5_35 f5_36 f5_37 f5_38 f5_39 f5_40) (v1 : Int32) (v2 : Int32) (v3 : Int32) (v4 : Int32) (v5 : Int32) (v6 : Int32) : ∃ (o1 : (Int32 × Int32 × Int32 × Int32 × (Nat → Int32) × (Nat → Int32) × (Nat → Int32) × (Nat → Int32) × (Nat → Int32) × (Nat → Int32) × (Nat → Int32))) (o2 : (Int32 × Int32 × (Nat → Int32) × (Nat → Int32) × (Nat → Int32) × (Nat → Int32) × (Nat → Int32) × (Nat → Int32))), q_X3_addStone N v1 v2 v3 v4 v5 v6 x3_7 x3_12 x3_13 f3_0 f3_1 f3_2 f3_3 f3_4 f3_5 f3_6 = some o1 ∧ q_X5_stone N v1 v2 v3 v4 v5 v6 x5_41 f5_35 f5_36 f5_37 f5_38 f5_39 f5_40 = some o2 ∧ o1.1 = o2.1 ∧ i_Q o1.2.1 x3_8 o1.2.2.1 o1.2.2.2.1 o1.2.2.2.2.1 o1.2.2.2.2.2.1 o1.2.2.2.2.2.2.1 o1.2.2.2.2.2.2.2.1 o1.2.2.2.2.2.2.2.2.1 o1.2.2.2.2.2.2.2.2.2.1 o1.2.2.2.2.2.2.2.2.2.2 f3_9 f3_10 f3_11 o2.2.1 x5_42 o2.2.2.1 o2.2.2.2.1 o2.2.2.2.2.1 o2.2.2.2.2.2.1 o2.2.2.2.2.2.2.1 o2.2.2.2.2.2.2.2 := by
  have hh := h
  obtain ⟨K, sp, a, d, Bj, hK, hsp, e1, e2, e3, e4, hS, hL, hJ, hC⟩ := h
  subst e1 e2 e3 e4
  rcases q_add1 (N := N) (v1 := v1) (v2 := v2) (v3 := v3) (v4 := v4) (v5 := v5) (v6 := v6) (x12 := x3_12) (x13 := x3_13) (f0 := f3_0) (f1 := f3_1) (f2 := f3_2) (f3 := f3_3) (f4 := f3_4) (f5 := f3_5) (f6 := f3_6) hN hK with ⟨p, p'⟩ | ⟨p, p'⟩
  · rcases q_add5 (N := N) (v1 := v1) (v2 := v2) (v3 := v3) (v4 := v4) (v5 := v5) (v6 := v6) (f35 := f5_35) (f36 := f5_36) (f37 := f5_37) (f38 := f5_38) (f39 := f5_39) (f40 := f5_40) hN hK with ⟨q, F38, F40, q', l1, l2, m1, m2⟩ | ⟨q, q'⟩
    · obtain ⟨⟨e, x1, x2⟩, ⟨y, z, y1, y2, y3, y4⟩, -, -, k6⟩ := p
      have up : ∀ {f : Nat → Int32} {v : Int32} {k : Nat}, k < K → upd f K v k = f k := fun hk => pk_un (by omega)
      refine ⟨_, _, p', q', rfl, K + 1, sp, (fun k => if k = K then y else a k), (fun k => if k = K then z else d k), (fun k => if k = K then 0 else Bj k), by omega, hsp, rfl, rfl, rfl, rfl, ?_, ?_, ?_, Or.inl rfl, Or.inl rfl⟩
      · intro k hk
        by_cases c : k = K
        · subst c
          show upd f3_0 k v1 k = upd f5_35 k v1 k ∧ upd f3_1 k v2 k = nI (if k = k then y else a k) ∧ upd f5_36 k v2 k = nI (if k = k then y else a k) ∧ upd f3_2 k v3 k = nI ((if k = k then y else a k) + (if k = k then z else d k)) ∧ upd f5_37 k v3 k = nI ((if k = k then y else a k) + (if k = k then z else d k)) ∧ upd f3_5 k v6 k = upd f5_39 k v6 k ∧ (if k = k then z else d k) ≤ 5 ∧ (if k = k then y else a k) + (if k = k then z else d k) ≤ 40
          rw [if_pos rfl, if_pos rfl, pk_us, pk_us, pk_us, pk_us, pk_us, pk_us, pk_us, pk_us]
          exact ⟨rfl, y3, y3, y4, y4, rfl, y1, y2⟩
        · have hk' : k < K := by omega
          show upd f3_0 K v1 k = upd f5_35 K v1 k ∧ upd f3_1 K v2 k = nI (if k = K then y else a k) ∧ upd f5_36 K v2 k = nI (if k = K then y else a k) ∧ upd f3_2 K v3 k = nI ((if k = K then y else a k) + (if k = K then z else d k)) ∧ upd f5_37 K v3 k = nI ((if k = K then y else a k) + (if k = K then z else d k)) ∧ upd f3_5 K v6 k = upd f5_39 K v6 k ∧ (if k = K then z else d k) ≤ 5 ∧ (if k = K then y else a k) + (if k = K then z else d k) ≤ 40
          rw [if_neg c, if_neg c, up hk', up hk', up hk', up hk', up hk', up hk', up hk', up hk']
          exact hS k hk'
      · intro k hk i hi
        show F38 (8 * k + i) = qL (upd f3_3 K v4 k) (upd f3_4 K v5 k) i
        by_cases c : k = K
        · subst c
          rw [pk_us, pk_us]
          by_cases i4 : i < 4
          · exact (l1 i i4).1
          · have := (l1 (i - 4) (by omega)).2
            rw [show 8 * k + 4 + (i - 4) = 8 * k + i by omega, show 4 + (i - 4) = i by omega] at this
            exact this
        · have hk' : k < K := by omega
          rw [up hk', up hk', l2 _ (by omega)]
          exact hL k hk' i hi
      · intro k hk
        by_cases c : k = K
        · subst c
          refine ⟨?_, ?_, fun j hj => ?_, fun j hj => ?_⟩
          · show upd f3_6 k 0 k = nI (if k = k then 0 else Bj k)
            rw [pk_us, if_pos rfl]
            rfl
          · show (if k = k then 0 else Bj k) < 2 ^ (k + 1)
            rw [if_pos rfl]
            exact Nat.two_pow_pos _
          · show F40 (6 * k + j) = if (if k = k then 0 else Bj k).testBit j then 1 else 0
            rw [if_pos rfl, Nat.zero_testBit]
            exact (m1 j (by omega)).1
          · show (if k = k then 0 else Bj k).testBit j = (if j = k then 0 else Bj j).testBit k
            rw [if_pos rfl, Nat.zero_testBit]
            by_cases z : j = k
            · rw [if_pos z, Nat.zero_testBit]
            · rw [if_neg z, Nat.testBit_lt_two_pow (hJ j (by omega)).2.1]
        · have hk' : k < K := by omega
          obtain ⟨j1, j2, j3, j4⟩ := hJ k hk'
          refine ⟨?_, ?_, fun j hj => ?_, fun j hj => ?_⟩
          · show upd f3_6 K 0 k = nI (if k = K then 0 else Bj k)
            rw [up hk', if_neg c]
            exact j1
          · show (if k = K then 0 else Bj k) < 2 ^ (K + 1)
            rw [if_neg c, Nat.pow_succ]
            omega
          · show F40 (6 * k + j) = if (if k = K then 0 else Bj k).testBit j then 1 else 0
            rw [if_neg c]
            by_cases z : j = K
            · subst z
              rw [(m1 k (by omega)).2, Nat.testBit_lt_two_pow j2]
              rfl
            · rw [m2 k j (by omega) (by omega) c z]
              exact j3 j (by omega)
          · show (if k = K then 0 else Bj k).testBit j = (if j = K then 0 else Bj j).testBit k
            rw [if_neg c]
            by_cases z : j = K
            · subst z
              rw [if_pos rfl, Nat.zero_testBit, Nat.testBit_lt_two_pow j2]
            · rw [if_neg z]
              exact j4 j (by omega)
    · exact absurd p q
  · rcases q_add5 (N := N) (v1 := v1) (v2 := v2) (v3 := v3) (v4 := v4) (v5 := v5) (v6 := v6) (f35 := f5_35) (f36 := f5_36) (f37 := f5_37) (f38 := f5_38) (f39 := f5_39) (f40 := f5_40) hN hK with ⟨q, F38, F40, q', l1, l2, m1, m2⟩ | ⟨q, q'⟩
    · exact absurd q p
    · exact ⟨_, _, p', q', rfl, hh⟩
/-! lose -/
def q_sh (s k : Nat) : Nat := if k < s then k else k + 1
def qH (s i K : Nat) (f g : Nat → Int32) : Prop := (∀ k, k < i → f k = g (q_sh s k)) ∧ ∀ k, i ≤ k → k < K → f k = g k
theorem qH_0 {s K : Nat} {f : Nat → Int32} : qH s s K f f := ⟨fun k hk => by
  unfold q_sh
  rw [if_pos hk], fun _ _ _ => rfl⟩
theorem qH_up {s i K : Nat} {f g : Nat → Int32} (h : qH s i K f g) (hs : s ≤ i) (hi : i + 1 < K) : qH s (i + 1) K (upd f i (f (i + 1))) g := by
  refine ⟨fun k hk => ?_, fun k h1 h2 => ?_⟩
  · by_cases c : k = i
    · subst c
      rw [pk_us, h.2 (k + 1) (by omega) hi]
      unfold q_sh
      rw [if_neg (by omega)]
    · rw [pk_un c]
      exact h.1 k (by omega)
  · rw [pk_un (by omega)]
    exact h.2 k (by omega) h2
theorem q_bu12 {N K s : Nat} {g0 g1 g2 g3 g4 g5 g6 : Nat → Int32} (hK : K ≤ 6) : ∀ (m i : Nat) (f0 f1 f2 f3 f4 f5 f6 : Nat → Int32), s ≤ i → i + 1 ≤ K → K - i < m → qH s i K f0 g0 → qH s i K f1 g1 → qH s i K f2 g2 → qH s i K f3 g3 → qH s i K f4 g4 → qH s i K f5 g5 → qH s i K f6 g6 → ∃ F0 F1 F2 F3 F4 F5 F6 : Nat → Int32, q_X3_breakUp_L12 N (nI K) m (nI i) f0 f1 f2 f3 f4 f5 f6 = some (F0, F1, F2, F3, F4, F5, F6) ∧ qH s (K - 1) K F0 g0 ∧ qH s (K - 1) K F1 g1 ∧ qH s (K - 1) K F2 g2 ∧ qH s (K - 1) K F3 g3 ∧ qH s (K - 1) K F4 g4 ∧ qH s (K - 1) K F5 g5 ∧ qH s (K - 1) K F6 g6 := by
  intro m
  induction m with
  | zero => intro i _ _ _ _ _ _ _ _ _ h; omega
  | succ m ih =>
    intro i f0 f1 f2 f3 f4 f5 f6 hs hi hm h0 h1 h2 h3 h4 h5 h6
    rw [q_X3_breakUp_L12, nI_1]
    by_cases e : i + 1 = K
    · have e' : K - 1 = i := by omega
      rw [e']
      exact ⟨f0, f1, f2, f3, f4, f5, f6, e_p (e_le (by omega) (by omega)) rfl, h0, h1, h2, h3, h4, h5, h6⟩
    · have hl : i + 1 < K := by omega
      obtain ⟨F0, F1, F2, F3, F4, F5, F6, p, q⟩ := ih (i + 1) _ _ _ _ _ _ _ (by omega) (by omega) (by omega) (qH_up h0 hs hl) (qH_up h1 hs hl) (qH_up h2 hs hl) (qH_up h3 hs hl) (qH_up h4 hs hl) (qH_up h5 hs hl) (qH_up h6 hs hl)
      refine ⟨F0, F1, F2, F3, F4, F5, F6, e_n (e_nle (by omega) (by omega)) (e_p (e_in (by omega) (by omega)) (e_p (e_in (by omega) (by omega)) ?_)), q⟩
      rw [e_cl (n := i) (by omega), e_cl (n := i + 1) (by omega)]
      exact p
def qwb (B s : Nat) : Nat := B % 2 ^ s + B / 2 ^ (s + 1) * 2 ^ s
theorem qwb_t : ∀ (B : Fin 64) (s j : Fin 6), (qwb B.val s.val).testBit j.val = B.val.testBit (q_sh s.val j.val) := by decide +kernel
theorem qwb_w : ∀ (B : Fin 64) (s : Fin 6), ((nI B.val &&& (((1 : Int32) <<< (nI s.val &&& 31)) - 1)) ||| ((z_ushr (nI B.val) 1) &&& ((((1 : Int32) <<< (nI s.val &&& 31)) - 1) ^^^ (-1)))) = nI (qwb B.val s.val) := by decide +kernel
theorem qwb_b : ∀ (K : Fin 6) (B : Fin 64) (s : Fin 6), B.val < 2 ^ (K.val + 1) → s.val < K.val + 1 → qwb B.val s.val < 2 ^ K.val := by decide +kernel
theorem q_138 {N L s : Nat} {B : Nat → Nat} (hL : L ≤ 6) (hs : s < 6) (hB : ∀ k, k < L → B k < 64) : ∀ (m i : Nat) (f : Nat → Int32), i ≤ L → L - i < m → (∀ k, k < i → f k = nI (qwb (B k) s)) → (∀ k, i ≤ k → k < L → f k = nI (B k)) → ∃ F : Nat → Int32, q_X3_breakUp_L138 N (nI s) (nI L) m (nI i) f = some F ∧ ∀ k, k < L → F k = nI (qwb (B k) s) := by
  intro m
  induction m with
  | zero => intro i _ _ h; omega
  | succ m ih =>
    intro i f hi hm h1 h2
    rw [q_X3_breakUp_L138, nI_1]
    by_cases e : i = L
    · subst e
      exact ⟨f, e_p (e_le (Nat.le_refl _) (by omega)) rfl, h1⟩
    · have w := qwb_w ⟨B i, hB i (by omega)⟩ ⟨s, hs⟩
      obtain ⟨F, p, q⟩ := ih (i + 1) (upd f i (nI (qwb (B i) s))) (by omega) (by omega) (fun k hk => by
        by_cases c : k = i
        · subst c; exact pk_us
        · rw [pk_un c]; exact h1 k (by omega)) (fun k k1 k2 => by
        rw [pk_un (by omega)]
        exact h2 k (by omega) k2)
      refine ⟨F, e_n (e_nle (by omega) (by omega)) (e_p (e_in (by omega) (by omega)) ?_), q⟩
      rw [e_cl (n := i) (by omega), h2 i (Nat.le_refl _) (by omega)]
      unfold q_X3_withoutBit
      refine e_s ?_
      rw [show ((nI (B i) &&& (((1 : Int32) <<< (nI s &&& 31)) - 1)) ||| ((z_ushr (nI (B i)) 1) &&& ((((1 : Int32) <<< (nI s &&& 31)) - 1) ^^^ (-1)))) = nI (qwb (B i) s) from w]
      exact p
def qH8 (s i K : Nat) (f g : Nat → Int32) : Prop := (∀ k, k < i → ∀ q, q < 8 → f (8 * k + q) = g (8 * q_sh s k + q)) ∧ ∀ k, i ≤ k → k < K → ∀ q, q < 8 → f (8 * k + q) = g (8 * k + q)
theorem q_80 {N i : Nat} {g : Nat → Int32} (hi : i < 5) : ∀ (m k : Nat) (f : Nat → Int32), k ≤ 8 → 8 - k < m → (∀ q, q < k → f (8 * i + q) = g (8 * (i + 1) + q)) → (∀ q, (q < 8 * i ∨ 8 * i + k ≤ q) → f q = g q) → ∃ F : Nat → Int32, q_X5_lose_L80 N (nI i) m (nI k) f = some F ∧ (∀ q, q < 8 → F (8 * i + q) = g (8 * (i + 1) + q)) ∧ ∀ q, (q < 8 * i ∨ 8 * i + 8 ≤ q) → F q = g q := by
  intro m
  induction m with
  | zero => intro i _ _ h; omega
  | succ m ih =>
    intro k f hk hm h1 h2
    have ix : (8 : Int32) * nI i + 8 + nI k = nI (8 * i + 8 + k) := by
      rw [← nI_add, ← nI_add, ← pk_mul]
      rfl
    rw [q_X5_lose_L80, nI_1, ix8, ix]
    by_cases e : k = 8
    · subst e
      exact ⟨f, e_p (e_le (a := 8) (Nat.le_refl _) (by omega)) rfl, h1, h2⟩
    · have c1 : f (8 * i + 8 + k) = g (8 * (i + 1) + k) := by
        rw [h2 _ (by omega), show 8 * i + 8 + k = 8 * (i + 1) + k by omega]
      obtain ⟨F, p, q, r⟩ := ih (k + 1) (upd f (8 * i + k) (g (8 * (i + 1) + k))) (by omega) (by omega) (fun q hq => by
        by_cases c : q = k
        · subst c; exact pk_us
        · rw [pk_un (by omega)]; exact h1 q (by omega)) (fun q hq => by
        rw [pk_un (by omega)]
        exact h2 q (by omega))
      refine ⟨F, e_n (e_nle (a := 8) (by omega) (by omega)) (e_p (e_in (by omega) (by omega)) (e_s (e_p (e_in (by omega) (by omega)) ?_))), q, r⟩
      rw [e_cl (n := 8 * i + k) (by omega), e_cl (n := 8 * i + 8 + k) (by omega), c1]
      exact p
theorem q_lo12 {N K s : Nat} {g0 g1 g2 g3 g4 : Nat → Int32} (hN : 60000 ≤ N) (hK : K ≤ 6) : ∀ (m i : Nat) (f0 f1 f2 f3 f4 : Nat → Int32), s ≤ i → i + 1 ≤ K → K - i < m → qH s i K f0 g0 → qH s i K f1 g1 → qH s i K f2 g2 → qH8 s i K f3 g3 → qH s i K f4 g4 → ∃ F0 F1 F2 F3 F4 : Nat → Int32, q_X5_lose_L12 N (nI K) m (nI i) f0 f1 f2 f3 f4 = some (F0, F1, F2, F3, F4) ∧ qH s (K - 1) K F0 g0 ∧ qH s (K - 1) K F1 g1 ∧ qH s (K - 1) K F2 g2 ∧ qH8 s (K - 1) K F3 g3 ∧ qH s (K - 1) K F4 g4 := by
  intro m
  induction m with
  | zero => intro i _ _ _ _ _ _ _ h; omega
  | succ m ih =>
    intro i f0 f1 f2 f3 f4 hs hi hm h0 h1 h2 h3 h4
    have k1 : nI K - 1 = nI (K - 1) := pk_sub (a := K) (b := 1) (by omega)
    rw [q_X5_lose_L12, nI_1, k1]
    by_cases e : i + 1 = K
    · have e' : K - 1 = i := by omega
      rw [e']
      exact ⟨f0, f1, f2, f3, f4, e_p (e_le (Nat.le_refl _) (by omega)) rfl, h0, h1, h2, h3, h4⟩
    · have hl : i + 1 < K := by omega
      obtain ⟨G, g1', g2', g3'⟩ := q_80 (N := N) (g := f3) (show i < 5 by omega) N 0 f3 (Nat.zero_le _) (by omega) (fun q hq => by omega) (fun q _ => rfl)
      obtain ⟨F0, F1, F2, F3, F4, p, q⟩ := ih (i + 1) _ _ _ G _ (by omega) (by omega) (by omega) (qH_up h0 hs hl) (qH_up h1 hs hl) (qH_up h2 hs hl) ⟨fun k hk q hq => by
        by_cases c : k = i
        · subst c
          rw [g2' q hq, h3.2 (k + 1) (by omega) hl q hq]
          unfold q_sh
          rw [if_neg (by omega)]
        · rw [g3' _ (by omega)]
          exact h3.1 k (by omega) q hq, fun k k1 k2 q hq => by
        rw [g3' _ (by omega)]
        exact h3.2 k (by omega) k2 q hq⟩ (qH_up h4 hs hl)
      refine ⟨F0, F1, F2, F3, F4, e_n (e_nle (by omega) (by omega)) (e_p (e_in (by omega) (by omega)) (e_p (e_in (by omega) (by omega)) (e_b g1' ?_))), q⟩
      rw [e_cl (n := i) (by omega), e_cl (n := i + 1) (by omega)]
      exact p

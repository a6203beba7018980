/-! ===== pure rows: the stones; the invariant ===== -/
def qL (w3 w4 : Int32) (i : Nat) : Int32 := if i < 4 then z_ushr w3 (24 - 8 * nI i) &&& 255 else z_ushr w4 (24 - 8 * nI (i - 4)) &&& 255
def qAg (f38 f39 : Nat → Int32) (i j : Nat) : Prop := (f39 i = -1 ∨ f39 j = -1 ∨ f39 i = f39 j) ∧ ∀ k, k < 8 → f38 (8 * i + k) = 0 ∨ f38 (8 * j + k) = 0 ∨ f38 (8 * i + k) = f38 (8 * j + k)
def qP (d : Nat → Nat) : Nat → Nat
  | 0 => 1
  | k + 1 => qP d k * (d k + 1)
def qY (a d : Nat → Nat) (e k : Nat) : Nat := a k + e / qP d k % (d k + 1)
def qG (sp : Nat) (f35 f38 f39 f40 : Nat → Int32) (y : Nat → Nat) (t s : Nat) : Prop := (¬ f40 (6 * t + s) = 0 → y t ≤ y s + sp ∧ y s ≤ y t + sp ∧ qAg f38 f39 t s) ∧ (f35 t = f35 s → y t = y s → qAg f38 f39 t s)
def qR (K sp off : Nat) (a d : Nat → Nat) (f35 f38 f39 f40 : Nat → Int32) (e : Nat) : Prop := (∀ k, k < K → off.testBit k = true → qY a d e k = a k) ∧ ∀ t s, t < s → s < K → ¬ off.testBit t = true → ¬ off.testBit s = true → qG sp f35 f38 f39 f40 (qY a d e) t s
noncomputable def qRb (K sp off : Nat) (a d : Nat → Nat) (f35 f38 f39 f40 : Nat → Int32) (e : Nat) : Bool := @decide (qR K sp off a d f35 f38 f39 f40 e) (Classical.propDecidable _)
theorem qRb_t {K sp off : Nat} {a d : Nat → Nat} {f35 f38 f39 f40 : Nat → Int32} {e : Nat} : qRb K sp off a d f35 f38 f39 f40 e = true ↔ qR K sp off a d f35 f38 f39 f40 e := @decide_eq_true_iff _ (Classical.propDecidable _)
def qS (K : Nat) (a d : Nat → Nat) (f0 f1 f2 f5 f35 f36 f37 f39 : Nat → Int32) : Prop := ∀ k, k < K → f0 k = f35 k ∧ f1 k = nI (a k) ∧ f36 k = nI (a k) ∧ f2 k = nI (a k + d k) ∧ f37 k = nI (a k + d k) ∧ f5 k = f39 k ∧ d k ≤ 5 ∧ a k + d k ≤ 40
def qLt (K : Nat) (f3 f4 f38 : Nat → Int32) : Prop := ∀ k, k < K → ∀ i, i < 8 → f38 (8 * k + i) = qL (f3 k) (f4 k) i
def qJ (K : Nat) (Bj : Nat → Nat) (f6 f40 : Nat → Int32) : Prop := ∀ k, k < K → f6 k = nI (Bj k) ∧ Bj k < 2 ^ K ∧ (∀ j, j < K → f40 (6 * k + j) = if (Bj k).testBit j then 1 else 0) ∧ ∀ j, j < K → (Bj k).testBit j = (Bj j).testBit k
def qSn (K sp : Nat) (a d : Nat → Nat) (f35 f38 f39 f40 : Nat → Int32) (g : Nat → Int64) : Prop := ∀ k, k < K → ∃ Sb : Nat, g k = lN Sb ∧ ∀ z, Sb.testBit z = true ↔ ∃ e, e < qP d K ∧ qR K sp 0 a d f35 f38 f39 f40 e ∧ qY a d e k = z
def qC (K sp : Nat) (a d : Nat → Nat) (x12 x13 : Int32) (f11 : Nat → Int64) (f35 f36 f37 f38 f39 f40 : Nat → Int32) : Prop := (x12 = -1 ∨ (x12 = nI (ct (qRb K sp 0 a d f35 f38 f39 f40) (qP d K)) ∧ qSn K sp a d f35 f38 f39 f40 f11)) ∧ (x13 = -1 ∨ ∀ N, 60000 ≤ N → q_X5_wrong N (nI K) (nI sp) f35 f36 f37 f38 f39 f40 = some x13)
def i_Q (x3_7 x3_8 x3_12 x3_13 : Int32) (f3_0 f3_1 f3_2 f3_3 f3_4 f3_5 f3_6 f3_9 f3_10 : Nat → Int32) (f3_11 : Nat → Int64) (x5_41 x5_42 : Int32) (f5_35 f5_36 f5_37 f5_38 f5_39 f5_40 : Nat → Int32) : Prop := ∃ (K sp : Nat) (a d Bj : Nat → Nat), K ≤ 6 ∧ sp ≤ 40 ∧ x3_7 = nI K ∧ x5_41 = nI K ∧ x3_8 = nI sp ∧ x5_42 = nI sp ∧ qS K a d f3_0 f3_1 f3_2 f3_5 f5_35 f5_36 f5_37 f5_39 ∧ qLt K f3_3 f3_4 f5_38 ∧ qJ K Bj f3_6 f5_40 ∧ qC K sp a d x3_12 x3_13 f3_11 f5_35 f5_36 f5_37 f5_38 f5_39 f5_40
theorem qL_n {w3 w4 : Int32} {i : Nat} : ∃ l : Nat, l < 256 ∧ qL w3 w4 i = nI l := by
  unfold qL
  by_cases c : i < 4
  · rw [if_pos c]
    obtain ⟨j, h1, h2⟩ := pk_andE (z_ushr w3 (24 - 8 * nI i)) (m := 255) 8 (by decide)
    exact ⟨j, h1, h2⟩
  · rw [if_neg c]
    obtain ⟨j, h1, h2⟩ := pk_andE (z_ushr w4 (24 - 8 * nI (i - 4))) (m := 255) 8 (by decide)
    exact ⟨j, h1, h2⟩
theorem q_isS {N K : Nat} {v : Int32} (hK : K ≤ 6) : (∃ k, k < K ∧ v = nI k ∧ q_X3_isStone N v (nI K) = some 1 ∧ q_X5_isStone N v (nI K) = some 1) ∨ (q_X3_isStone N v (nI K) = some 0 ∧ q_X5_isStone N v (nI K) = some 0) := by
  unfold q_X3_isStone q_X5_isStone
  rcases e_or v with h | ⟨k, k1, k2⟩
  · exact Or.inr ⟨e_p h rfl, e_b (ht_in_neg h) rfl⟩
  · subst k2
    have hi := ht_in_v (N := N) k1 (show K < 2 ^ 31 by omega)
    by_cases c : k < K
    · rw [if_pos c] at hi
      exact Or.inl ⟨k, c, rfl, e_n (nI_pos k1) (e_n (e_nle c (by omega)) rfl), e_b hi rfl⟩
    · rw [if_neg c] at hi
      exact Or.inr ⟨e_n (nI_pos k1) (e_p (e_le (by omega) k1) rfl), e_b hi rfl⟩
theorem q_let {N k i : Nat} {f3 f4 : Nat → Int32} (hk : k < 6) (hi : i < 8) : q_X3_letterOf N (nI k) (nI i) f3 f4 = some (qL (f3 k) (f4 k) i) := by
  have hin : z_in (nI k) 6 := e_in hk (by omega)
  have cl : Int32.toNatClampNeg (nI k) = k := e_cl (by omega)
  unfold q_X3_letterOf q_X3_letterIn qL
  by_cases c : i < 4
  · rw [if_pos c]
    refine e_n (e_nle (a := 4) c (by omega)) (e_p hin (e_s ?_))
    rw [cl]
  · rw [if_neg c]
    refine e_p (e_le (a := 4) (by omega) (by omega)) (e_p hin (e_s ?_))
    rw [cl, show nI i - 4 = nI (i - 4) from pk_sub (a := i) (b := 4) (by omega)]
theorem ix8 {k i : Nat} : (8 : Int32) * nI k + nI i = nI (8 * k + i) := by
  rw [← nI_add, ← pk_mul]
  rfl
theorem ix6 {k i : Nat} : (6 : Int32) * nI k + nI i = nI (6 * k + i) := by
  rw [← nI_add, ← pk_mul]
  rfl
section
variable {N K i j : Nat} {f3 f4 f5 f38 f39 : Nat → Int32}
theorem q_ag1_L (hK : K ≤ 6) (hi : i < K) (hj : j < K) (hl : qLt K f3 f4 f38) : ∀ (m k : Nat), k ≤ 8 → 8 - k < m → ((∀ q, k ≤ q → q < 8 → f38 (8 * i + q) = 0 ∨ f38 (8 * j + q) = 0 ∨ f38 (8 * i + q) = f38 (8 * j + q)) ∧ q_X3_isAgreeing_L39 N (nI i) (nI j) f3 f4 m (nI k) = some (Sum.inr ())) ∨ ((¬ ∀ q, k ≤ q → q < 8 → f38 (8 * i + q) = 0 ∨ f38 (8 * j + q) = 0 ∨ f38 (8 * i + q) = f38 (8 * j + q)) ∧ q_X3_isAgreeing_L39 N (nI i) (nI j) f3 f4 m (nI k) = some (Sum.inl 0)) := by
  intro m
  induction m with
  | zero => intro k _ h; omega
  | succ m ih =>
    intro k hk hm
    rw [q_X3_isAgreeing_L39, nI_1]
    by_cases e : k = 8
    · subst e
      exact Or.inl ⟨fun q a b => by omega, e_p (e_le (a := 8) (Nat.le_refl _) (by omega)) rfl⟩
    · have nle : ¬ (8 : Int32) ≤ nI k := e_nle (a := 8) (by omega) (by omega)
      have l1 := q_let (N := N) (f3 := f3) (f4 := f4) (show i < 6 by omega) (show k < 8 by omega)
      have l2 := q_let (N := N) (f3 := f3) (f4 := f4) (show j < 6 by omega) (show k < 8 by omega)
      rw [← hl i hi k (by omega)] at l1
      rw [← hl j hj k (by omega)] at l2
      have I := ih (k + 1) (by omega) (by omega)
      have go : (f38 (8 * i + k) = 0 ∨ f38 (8 * j + k) = 0 ∨ f38 (8 * i + k) = f38 (8 * j + k)) → ∀ {x y : Option (Sum Int32 Unit)}, (x = y) → True := fun _ _ _ _ => trivial
      by_cases c1 : f38 (8 * i + k) = 0
      · rcases I with ⟨I1, I2⟩ | ⟨I1, I2⟩
        · exact Or.inl ⟨fun q a b => by
            by_cases z : q = k
            · subst z; exact Or.inl c1
            · exact I1 q (by omega) b, e_n nle (e_b l1 (e_b l2 (e_p c1 I2)))⟩
        · exact Or.inr ⟨fun h => I1 fun q a b => h q (by omega) b, e_n nle (e_b l1 (e_b l2 (e_p c1 I2)))⟩
      · by_cases c2 : f38 (8 * j + k) = 0
        · rcases I with ⟨I1, I2⟩ | ⟨I1, I2⟩
          · exact Or.inl ⟨fun q a b => by
              by_cases z : q = k
              · subst z; exact Or.inr (Or.inl c2)
              · exact I1 q (by omega) b, e_n nle (e_b l1 (e_b l2 (e_n c1 (e_p c2 I2))))⟩
          · exact Or.inr ⟨fun h => I1 fun q a b => h q (by omega) b, e_n nle (e_b l1 (e_b l2 (e_n c1 (e_p c2 I2))))⟩
        · by_cases c3 : f38 (8 * i + k) = f38 (8 * j + k)
          · rcases I with ⟨I1, I2⟩ | ⟨I1, I2⟩
            · exact Or.inl ⟨fun q a b => by
                by_cases z : q = k
                · subst z; exact Or.inr (Or.inr c3)
                · exact I1 q (by omega) b, e_n nle (e_b l1 (e_b l2 (e_n c1 (e_n c2 (e_p c3 I2)))))⟩
            · exact Or.inr ⟨fun h => I1 fun q a b => h q (by omega) b, e_n nle (e_b l1 (e_b l2 (e_n c1 (e_n c2 (e_p c3 I2)))))⟩
          · exact Or.inr ⟨fun h => (h k (Nat.le_refl _) (by omega)).elim c1 (fun q => q.elim c2 c3), e_n nle (e_b l1 (e_b l2 (e_n c1 (e_n c2 (e_n c3 rfl)))))⟩
theorem q_ag1 (hN : 60000 ≤ N) (hK : K ≤ 6) (hi : i < K) (hj : j < K) (hl : qLt K f3 f4 f38) (h5 : ∀ k, k < K → f5 k = f39 k) : (qAg f38 f39 i j ∧ q_X3_isAgreeing N (nI i) (nI j) f3 f4 f5 = some 1) ∨ (¬ qAg f38 f39 i j ∧ q_X3_isAgreeing N (nI i) (nI j) f3 f4 f5 = some 0) := by
  have hin : z_in (nI i) 6 := e_in (by omega) (by omega)
  have hjn : z_in (nI j) 6 := e_in (by omega) (by omega)
  have ci : f5 (Int32.toNatClampNeg (nI i)) = f39 i := by rw [e_cl (by omega), h5 i hi]
  have cj : f5 (Int32.toNatClampNeg (nI j)) = f39 j := by rw [e_cl (by omega), h5 j hj]
  unfold q_X3_isAgreeing qAg
  have L := q_ag1_L (N := N) hK hi hj hl N 0 (Nat.zero_le _) (by omega)
  have fin : (f39 i = -1 ∨ f39 j = -1 ∨ f39 i = f39 j) → ∀ {x : Option Int32}, (∀ {y : Option Int32}, Option.bind (q_X3_isAgreeing_L39 N (nI i) (nI j) f3 f4 N 0) (Sum.elim (fun r5 => (some r5)) (fun _ => (some 1))) = y → x = y) → (((f39 i = -1 ∨ f39 j = -1 ∨ f39 i = f39 j) ∧ ∀ k, k < 8 → f38 (8 * i + k) = 0 ∨ f38 (8 * j + k) = 0 ∨ f38 (8 * i + k) = f38 (8 * j + k)) ∧ x = some 1) ∨ (¬ ((f39 i = -1 ∨ f39 j = -1 ∨ f39 i = f39 j) ∧ ∀ k, k < 8 → f38 (8 * i + k) = 0 ∨ f38 (8 * j + k) = 0 ∨ f38 (8 * i + k) = f38 (8 * j + k)) ∧ x = some 0) := by
    intro t x hx
    rcases L with ⟨a, b⟩ | ⟨a, b⟩
    · exact Or.inl ⟨⟨t, fun k hk => a k (Nat.zero_le _) hk⟩, hx (e_b b rfl)⟩
    · exact Or.inr ⟨fun q => a fun k _ hk => q.2 k hk, hx (e_b b rfl)⟩
  by_cases c1 : f39 i = -1
  · exact fin (Or.inl c1) (fun h => e_p hin (e_p (by rw [ci]; exact c1) h))
  · by_cases c2 : f39 j = -1
    · exact fin (Or.inr (Or.inl c2)) (fun h => e_p hin (e_n (by rw [ci]; exact c1) (e_p hjn (e_p (by rw [cj]; exact c2) h))))
    · by_cases c3 : f39 i = f39 j
      · exact fin (Or.inr (Or.inr c3)) (fun h => e_p hin (e_n (by rw [ci]; exact c1) (e_p hjn (e_n (by rw [cj]; exact c2) (e_p (by rw [ci, cj]; exact c3) h)))))
      · exact Or.inr ⟨fun q => q.1.elim c1 (fun z => z.elim c2 c3), e_p hin (e_n (by rw [ci]; exact c1) (e_p hjn (e_n (by rw [cj]; exact c2) (e_n (by rw [ci, cj]; exact c3) rfl))))⟩
theorem q_le0 (hl : qLt K f3 f4 f38) (hi : i < K) {q : Nat} (hq : q < 8) : f38 (8 * i + q) ≤ 0 ↔ f38 (8 * i + q) = 0 := by
  obtain ⟨l, l1, l2⟩ := qL_n (w3 := f3 i) (w4 := f4 i) (i := q)
  rw [hl i hi q hq, l2]
  refine ⟨fun h => ?_, fun h => ?_⟩
  · by_cases z : l = 0
    · rw [z]; rfl
    · exact absurd h (e_nle (b := 0) (by omega) (by omega))
  · rw [h]
    decide
theorem q_ag5_L (hK : K ≤ 6) (hi : i < K) (hj : j < K) (hl : qLt K f3 f4 f38) : ∀ (m k : Nat), k ≤ 8 → 8 - k < m → ((∀ q, k ≤ q → q < 8 → f38 (8 * i + q) = 0 ∨ f38 (8 * j + q) = 0 ∨ f38 (8 * i + q) = f38 (8 * j + q)) ∧ q_X5_doAgree_L2 N (nI i) (nI j) f38 m (nI k) = some (Sum.inr ())) ∨ ((¬ ∀ q, k ≤ q → q < 8 → f38 (8 * i + q) = 0 ∨ f38 (8 * j + q) = 0 ∨ f38 (8 * i + q) = f38 (8 * j + q)) ∧ q_X5_doAgree_L2 N (nI i) (nI j) f38 m (nI k) = some (Sum.inl 0)) := by
  intro m
  induction m with
  | zero => intro k _ h; omega
  | succ m ih =>
    intro k hk hm
    rw [q_X5_doAgree_L2, nI_1, ix8, ix8]
    by_cases e : k = 8
    · subst e
      exact Or.inl ⟨fun q a b => by omega, e_p (e_le (a := 8) (Nat.le_refl _) (by omega)) rfl⟩
    · have nle : ¬ (8 : Int32) ≤ nI k := e_nle (a := 8) (by omega) (by omega)
      have i1 : z_in (nI (8 * i + k)) 48 := e_in (by omega) (by omega)
      have i2 : z_in (nI (8 * j + k)) 48 := e_in (by omega) (by omega)
      have k1 : Int32.toNatClampNeg (nI (8 * i + k)) = 8 * i + k := e_cl (by omega)
      have k2 : Int32.toNatClampNeg (nI (8 * j + k)) = 8 * j + k := e_cl (by omega)
      have z1 := q_le0 hl hi (show k < 8 by omega)
      have z2 := q_le0 hl hj (show k < 8 by omega)
      have I := ih (k + 1) (by omega) (by omega)
      have go : ∀ {X : Option (Sum Int32 Unit)}, (if f38 (8 * i + k) ≤ 0 then q_X5_doAgree_L2 N (nI i) (nI j) f38 m (nI (k + 1)) else if f38 (8 * j + k) ≤ 0 then q_X5_doAgree_L2 N (nI i) (nI j) f38 m (nI (k + 1)) else if f38 (8 * i + k) = f38 (8 * j + k) then q_X5_doAgree_L2 N (nI i) (nI j) f38 m (nI (k + 1)) else some (Sum.inl 0)) = X → (if (8 : Int32) ≤ nI k then some (Sum.inr ()) else if z_in (nI (8 * i + k)) 48 then Option.bind (some (f38 (Int32.toNatClampNeg (nI (8 * i + k))))) (fun n3 => if z_in (nI (8 * j + k)) 48 then Option.bind (some (f38 (Int32.toNatClampNeg (nI (8 * j + k))))) (fun n5 => if n3 ≤ 0 then q_X5_doAgree_L2 N (nI i) (nI j) f38 m (nI (k + 1)) else if n5 ≤ 0 then q_X5_doAgree_L2 N (nI i) (nI j) f38 m (nI (k + 1)) else if n3 = n5 then q_X5_doAgree_L2 N (nI i) (nI j) f38 m (nI (k + 1)) else some (Sum.inl 0)) else none) else none) = X := by
        intro X h
        refine e_n nle (e_p i1 (e_s (e_p i2 (e_s ?_))))
        rw [k1, k2]
        exact h
      by_cases c1 : f38 (8 * i + k) = 0
      · rcases I with ⟨I1, I2⟩ | ⟨I1, I2⟩
        · exact Or.inl ⟨fun q a b => by
            by_cases z : q = k
            · subst z; exact Or.inl c1
            · exact I1 q (by omega) b, go (e_p (z1.mpr c1) I2)⟩
        · exact Or.inr ⟨fun h => I1 fun q a b => h q (by omega) b, go (e_p (z1.mpr c1) I2)⟩
      · have d1 : ¬ f38 (8 * i + k) ≤ 0 := fun q => c1 (z1.mp q)
        by_cases c2 : f38 (8 * j + k) = 0
        · rcases I with ⟨I1, I2⟩ | ⟨I1, I2⟩
          · exact Or.inl ⟨fun q a b => by
              by_cases z : q = k
              · subst z; exact Or.inr (Or.inl c2)
              · exact I1 q (by omega) b, go (e_n d1 (e_p (z2.mpr c2) I2))⟩
          · exact Or.inr ⟨fun h => I1 fun q a b => h q (by omega) b, go (e_n d1 (e_p (z2.mpr c2) I2))⟩
        · have d2 : ¬ f38 (8 * j + k) ≤ 0 := fun q => c2 (z2.mp q)
          by_cases c3 : f38 (8 * i + k) = f38 (8 * j + k)
          · rcases I with ⟨I1, I2⟩ | ⟨I1, I2⟩
            · exact Or.inl ⟨fun q a b => by
                by_cases z : q = k
                · subst z; exact Or.inr (Or.inr c3)
                · exact I1 q (by omega) b, go (e_n d1 (e_n d2 (e_p c3 I2)))⟩
            · exact Or.inr ⟨fun h => I1 fun q a b => h q (by omega) b, go (e_n d1 (e_n d2 (e_p c3 I2)))⟩
          · exact Or.inr ⟨fun h => (h k (Nat.le_refl _) (by omega)).elim c1 (fun q => q.elim c2 c3), go (e_n d1 (e_n d2 (e_n c3 rfl)))⟩
theorem q_ag5 (hN : 60000 ≤ N) (hK : K ≤ 6) (hi : i < K) (hj : j < K) (hl : qLt K f3 f4 f38) : (qAg f38 f39 i j ∧ q_X5_doAgree N (nI i) (nI j) f38 f39 = some 1) ∨ (¬ qAg f38 f39 i j ∧ q_X5_doAgree N (nI i) (nI j) f38 f39 = some 0) := by
  have hin : z_in (nI i) 6 := e_in (by omega) (by omega)
  have hjn : z_in (nI j) 6 := e_in (by omega) (by omega)
  have ci : f39 (Int32.toNatClampNeg (nI i)) = f39 i := by rw [e_cl (by omega)]
  have cj : f39 (Int32.toNatClampNeg (nI j)) = f39 j := by rw [e_cl (by omega)]
  unfold q_X5_doAgree qAg
  rcases q_ag5_L (N := N) hK hi hj hl N 0 (Nat.zero_le _) (by omega) with ⟨a, b⟩ | ⟨a, b⟩
  · have al : ∀ k, k < 8 → f38 (8 * i + k) = 0 ∨ f38 (8 * j + k) = 0 ∨ f38 (8 * i + k) = f38 (8 * j + k) := fun k hk => a k (Nat.zero_le _) hk
    by_cases c1 : f39 i = -1
    · exact Or.inl ⟨⟨Or.inl c1, al⟩, e_b b (e_p hin (e_p (by rw [ci]; exact c1) rfl))⟩
    · by_cases c2 : f39 j = -1
      · exact Or.inl ⟨⟨Or.inr (Or.inl c2), al⟩, e_b b (e_p hin (e_n (by rw [ci]; exact c1) (e_p hjn (e_p (by rw [cj]; exact c2) rfl))))⟩
      · by_cases c3 : f39 i = f39 j
        · exact Or.inl ⟨⟨Or.inr (Or.inr c3), al⟩, e_b b (e_p hin (e_n (by rw [ci]; exact c1) (e_p hjn (e_n (by rw [cj]; exact c2) (e_p (by rw [ci, cj]; exact c3) rfl)))))⟩
        · exact Or.inr ⟨fun q => q.1.elim c1 (fun z => z.elim c2 c3), e_b b (e_p hin (e_n (by rw [ci]; exact c1) (e_p hjn (e_n (by rw [cj]; exact c2) (e_n (by rw [ci, cj]; exact c3) rfl)))))⟩
  · exact Or.inr ⟨fun q => a fun k _ hk => q.2 k hk, e_b b rfl⟩
theorem qAg_s (h : qAg f38 f39 i j) : qAg f38 f39 j i := ⟨h.1.elim (fun q => Or.inr (Or.inl q)) (fun q => q.elim Or.inl (fun z => Or.inr (Or.inr z.symm))), fun k hk => (h.2 k hk).elim (fun q => Or.inr (Or.inl q)) (fun q => q.elim Or.inl (fun z => Or.inr (Or.inr z.symm)))⟩
end
theorem P_agree {N : Nat} (hN : 60000 ≤ N) {x3_7 : Int32} {x3_8 : Int32} {x3_12 : Int32} {x3_13 : Int32} {f3_0 : (Nat → Int32)} {f3_1 : (Nat → Int32)} {f3_2 : (Nat → Int32)} {f3_3 : (Nat → Int32)} {f3_4 : (Nat → Int32)} {f3_5 : (Nat → Int32)} {f3_6 : (Nat → Int32)} {f3_9 : (Nat → Int32)} {f3_10 : (Nat → Int32)} {f3_11 : (Nat → Int64)} {x5_41 : Int32} {x5_42 : Int32} {f5_35 : (Nat → Int32)} {f5_36 : (Nat → Int32)} {f5_37 : (Nat → Int32)} {f5_38 : (Nat → Int32)} {f5_39 : (Nat → Int32)} {f5_40 : (Nat → Int32)} (h : i_Q x3_7 x3_8 x3_12 x3_13 f3_0 f3_1 f3_2 f3_3 f3_4 f3_5 f3_6 f3_9 f3_10 f3_11 x5_41 x5_42 f5_35 f5_36 f5_37 f5_38 f5_39 f5_40) (v1 : Int32) (v2 : Int32) : ∃ (o1 : Int32) (o2 : Int32), q_X3_tellAgreeing N v1 v2 x3_7 f3_3 f3_4 f3_5 = some o1 ∧ q_X5_agree N v1 v2 x5_41 f5_38 f5_39 = some o2 ∧ o1 = o2 ∧ i_Q x3_7 x3_8 x3_12 x3_13 f3_0 f3_1 f3_2 f3_3 f3_4 f3_5 f3_6 f3_9 f3_10 f3_11 x5_41 x5_42 f5_35 f5_36 f5_37 f5_38 f5_39 f5_40 := by
  have hh := h
  obtain ⟨K, sp, a, d, Bj, hK, hsp, e1, e2, e3, e4, hS, hL, hJ, hC⟩ := h
  subst e1 e2 e3 e4
  suffices H : ∃ o : Int32, q_X3_tellAgreeing N v1 v2 (nI K) f3_3 f3_4 f3_5 = some o ∧ q_X5_agree N v1 v2 (nI K) f5_38 f5_39 = some o by
    obtain ⟨o, a, b⟩ := H
    exact ⟨o, o, a, b, rfl, hh⟩
  unfold q_X3_tellAgreeing q_X5_agree
  rcases q_isS (N := N) (v := v1) hK with ⟨i, i1, i2, i3, i4⟩ | ⟨i3, i4⟩
  · rcases q_isS (N := N) (v := v2) hK with ⟨j, j1, j2, j3, j4⟩ | ⟨j3, j4⟩
    · subst i2 j2
      rcases q_ag1 (N := N) hN hK i1 j1 hL (fun k hk => (hS k hk).2.2.2.2.2.1) with ⟨a, b⟩ | ⟨a, b⟩
      · rcases q_ag5 (N := N) (f39 := f5_39) hN hK i1 j1 hL with ⟨c, d⟩ | ⟨c, d⟩
        · exact ⟨1, e_b i3 (e_n e_10 (e_b j3 (e_n e_10 (e_b b (e_n e_10 rfl))))), e_b i4 (e_n e_10 (e_b j4 (e_n e_10 (e_b d (e_n e_10 rfl)))))⟩
        · exact absurd a c
      · rcases q_ag5 (N := N) (f39 := f5_39) hN hK i1 j1 hL with ⟨c, d⟩ | ⟨c, d⟩
        · exact absurd c a
        · exact ⟨0, e_b i3 (e_n e_10 (e_b j3 (e_n e_10 (e_b b (e_p rfl rfl))))), e_b i4 (e_n e_10 (e_b j4 (e_n e_10 (e_b d (e_p rfl rfl)))))⟩
    · exact ⟨-1, e_b i3 (e_n e_10 (e_b j3 (e_p rfl rfl))), e_b i4 (e_n e_10 (e_b j4 (e_p rfl rfl)))⟩
  · exact ⟨-1, e_b i3 (e_p rfl rfl), e_b i4 (e_p rfl rfl)⟩
theorem P_letter {N : Nat} (hN : 60000 ≤ N) {x3_7 : Int32} {x3_8 : Int32} {x3_12 : Int32} {x3_13 : Int32} {f3_0 : (Nat → Int32)} {f3_1 : (Nat → Int32)} {f3_2 : (Nat → Int32)} {f3_3 : (Nat → Int32)} {f3_4 : (Nat → Int32)} {f3_5 : (Nat → Int32)} {f3_6 : (Nat → Int32)} {f3_9 : (Nat → Int32)} {f3_10 : (Nat → Int32)} {f3_11 : (Nat → Int64)} {x5_41 : Int32} {x5_42 : Int32} {f5_35 : (Nat → Int32)} {f5_36 : (Nat → Int32)} {f5_37 : (Nat → Int32)} {f5_38 : (Nat → Int32)} {f5_39 : (Nat → Int32)} {f5_40 : (Nat → Int32)} (h : i_Q x3_7 x3_8 x3_12 x3_13 f3_0 f3_1 f3_2 f3_3 f3_4 f3_5 f3_6 f3_9 f3_10 f3_11 x5_41 x5_42 f5_35 f5_36 f5_37 f5_38 f5_39 f5_40) (v1 : Int32) (v2 : Int32) : ∃ (o1 : Int32) (o2 : Int32), q_X3_tellLetter N v1 v2 x3_7 f3_3 f3_4 = some o1 ∧ q_X5_letter N v1 v2 x5_41 f5_38 = some o2 ∧ o1 = o2 ∧ i_Q x3_7 x3_8 x3_12 x3_13 f3_0 f3_1 f3_2 f3_3 f3_4 f3_5 f3_6 f3_9 f3_10 f3_11 x5_41 x5_42 f5_35 f5_36 f5_37 f5_38 f5_39 f5_40 := by
  have hh := h
  obtain ⟨K, sp, a, d, Bj, hK, hsp, e1, e2, e3, e4, hS, hL, hJ, hC⟩ := h
  subst e1 e2 e3 e4
  suffices H : ∃ o : Int32, q_X3_tellLetter N v1 v2 (nI K) f3_3 f3_4 = some o ∧ q_X5_letter N v1 v2 (nI K) f5_38 = some o by
    obtain ⟨o, a, b⟩ := H
    exact ⟨o, o, a, b, rfl, hh⟩
  unfold q_X3_tellLetter q_X5_letter
  rcases q_isS (N := N) (v := v1) hK with ⟨i, i1, i2, i3, i4⟩ | ⟨i3, i4⟩
  · subst i2
    rcases e_or v2 with q | ⟨k, k1, k2⟩
    · exact ⟨-1, e_b i3 (e_n e_10 (e_p q rfl)), e_b i4 (e_n e_10 (e_b (ht_in_neg q) (e_p rfl rfl)))⟩
    · subst k2
      have p0 : ¬ nI k < 0 := nI_pos k1
      by_cases c : k < 8
      · refine ⟨f5_38 (8 * i + k), e_b i3 (e_n e_10 (e_n p0 (e_n (e_nle (a := 8) c (by omega)) (e_b (q_let (by omega) c) ?_)))), e_b i4 (e_n e_10 (e_b (q_in_1 (lo := 0) (hi := 7) (by omega) (by omega) k1 (by omega)) (e_n e_10 ?_)))⟩
        · rw [hL i i1 k c]
        · rw [ix8]
          refine e_p (e_in (by omega) (by omega)) ?_
          rw [e_cl (by omega)]
      · exact ⟨-1, e_b i3 (e_n e_10 (e_n p0 (e_p (e_le (a := 8) (by omega) k1) rfl))), e_b i4 (e_n e_10 (e_b (q_in_0 (lo := 0) (hi := 7) (by omega) k1 (by omega)) (e_p rfl rfl)))⟩
  · exact ⟨-1, e_b i3 (e_p rfl rfl), e_b i4 (e_p rfl rfl)⟩
theorem P_span {N : Nat} (hN : 60000 ≤ N) {x3_7 : Int32} {x3_8 : Int32} {x3_12 : Int32} {x3_13 : Int32} {f3_0 : (Nat → Int32)} {f3_1 : (Nat → Int32)} {f3_2 : (Nat → Int32)} {f3_3 : (Nat → Int32)} {f3_4 : (Nat → Int32)} {f3_5 : (Nat → Int32)} {f3_6 : (Nat → Int32)} {f3_9 : (Nat → Int32)} {f3_10 : (Nat → Int32)} {f3_11 : (Nat → Int64)} {x5_41 : Int32} {x5_42 : Int32} {f5_35 : (Nat → Int32)} {f5_36 : (Nat → Int32)} {f5_37 : (Nat → Int32)} {f5_38 : (Nat → Int32)} {f5_39 : (Nat → Int32)} {f5_40 : (Nat → Int32)} (h : i_Q x3_7 x3_8 x3_12 x3_13 f3_0 f3_1 f3_2 f3_3 f3_4 f3_5 f3_6 f3_9 f3_10 f3_11 x5_41 x5_42 f5_35 f5_36 f5_37 f5_38 f5_39 f5_40) (v1 : Int32) : ∃ (o1 : (Int32 × Int32 × Int32 × Int32)) (o2 : (Int32 × Int32)), q_X3_setSpan N v1 x3_8 x3_12 x3_13 = some o1 ∧ q_X5_span N v1 x5_42 = some o2 ∧ o1.1 = o2.1 ∧ i_Q x3_7 o1.2.1 o1.2.2.1 o1.2.2.2 f3_0 f3_1 f3_2 f3_3 f3_4 f3_5 f3_6 f3_9 f3_10 f3_11 x5_41 o2.2 f5_35 f5_36 f5_37 f5_38 f5_39 f5_40 := by
  have hh := h
  obtain ⟨K, sp, a, d, Bj, hK, hsp, e1, e2, e3, e4, hS, hL, hJ, hC⟩ := h
  subst e1 e2 e3 e4
  unfold q_X3_setSpan q_X5_span
  rcases e_or v1 with q | ⟨k, k1, k2⟩
  · exact ⟨_, _, e_p q rfl, e_b (ht_in_neg q) (e_p rfl rfl), rfl, hh⟩
  · subst k2
    have p0 : ¬ nI k < 0 := nI_pos k1
    by_cases c : k ≤ 40
    · exact ⟨(nI sp, nI k, -1, -1), (nI sp, nI k), e_n p0 (e_p (e_le (b := 40) c (by omega)) (e_s rfl)), e_b (q_in_1 (lo := 0) (hi := 40) (by omega) c k1 (by omega)) (e_n e_10 rfl), rfl, K, k, a, d, Bj, hK, c, rfl, rfl, rfl, rfl, hS, hL, hJ, Or.inl rfl, Or.inl rfl⟩
    · exact ⟨_, _, e_n p0 (e_n (e_nle (b := 40) (by omega) (by omega)) rfl), e_b (q_in_0 (lo := 0) (hi := 40) (by omega) k1 (by omega)) (e_p rfl rfl), rfl, hh⟩

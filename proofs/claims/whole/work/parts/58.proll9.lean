/-! ===== pure rows: the fewest that must be wrong ===== -/
def q_pc (B : Nat) : Nat := ((List.range 6).filter (fun i => B.testBit i)).length
theorem q_pcb : ∀ (B : Fin 64), q_J6_bitCount_0f7a4 0 (nI B.val) = some (nI (q_pc B.val)) := by decide +kernel
theorem q_pc1 {N B : Nat} (h : B < 64) : q_J6_bitCount_0f7a4 N (nI B) = some (nI (q_pc B)) := q_pcb ⟨B, h⟩
theorem q_pc6 : ∀ (B : Fin 64), q_pc B.val ≤ 6 := by decide +kernel
theorem q_pcl : ∀ (K : Fin 7) (B : Fin 64), B.val + 1 < 2 ^ K.val → q_pc B.val ≠ K.val := by decide +kernel
theorem q_pca : ∀ (K : Fin 7), q_pc (2 ^ K.val - 1) = K.val := by decide +kernel
theorem q_shl : ∀ (K : Fin 7), ((1 : Int32) <<< (nI K.val &&& 31)) = nI (2 ^ K.val) := by decide +kernel
theorem q_all : ∀ (K : Fin 7), ((1 : Int32) <<< (nI K.val &&& 31)) - 1 = nI (2 ^ K.val - 1) := by decide +kernel
theorem q_kept : ∀ (K : Fin 7) (B : Fin 64) (t : Fin 6), t.val < K.val → q_X4_hasBit 0 (nI (2 ^ K.val - 1) &&& (nI B.val ^^^ (-1))) (nI t.val) = some (if B.val.testBit t.val = true then 0 else 1) := by decide +kernel
theorem q_allb : ∀ (K : Fin 7) (t : Fin 6), t.val < K.val → (2 ^ K.val - 1).testBit t.val = true := by decide +kernel
section
variable {N K sp off : Nat} {a d Bj : Nat → Nat} {f0 f1 f2 f3 f4 f6 f9 f35 f36 f37 f38 f39 f40 : Nat → Int32} {s t e : Nat}
/-- some roll without these stones -/
def qW (K sp : Nat) (a d : Nat → Nat) (f35 f38 f39 f40 : Nat → Int32) (off : Nat) : Prop := ∃ e, e < qP d K ∧ qR K sp off a d f35 f38 f39 f40 e
theorem qW_X : qX K sp off a d f35 f38 f39 f40 0 0 ↔ qW K sp a d f35 f38 f39 f40 off :=
  ⟨fun ⟨e, h1, _, h3⟩ => ⟨e, h1, qT_0.mp h3⟩, fun ⟨e, h1, h3⟩ => ⟨e, h1, Nat.mod_one e, qT_0.mpr h3⟩⟩
theorem q_w41 (hN : 60000 ≤ N) (hE : qE5 K sp a d Bj f3 f4 f36 f37 f38 f40) (ho : off < 64) : (qW K sp a d f35 f38 f39 f40 off ∧ q_X5_wrong_L41 N (nI (qP d K)) (nI off) (nI K) (nI sp) f35 f36 f37 f38 f39 f40 N 0 = some (Sum.inl (nI off))) ∨ (¬ qW K sp a d f35 f38 f39 f40 off ∧ q_X5_wrong_L41 N (nI (qP d K)) (nI off) (nI K) (nI sp) f35 f36 f37 f38 f39 f40 N 0 = some (Sum.inr ())) := by
  have hK := hE.1
  have hb : qP d K ≤ 46656 := qP_b hK (fun k hk => (hE.2.2.1 k hk).2.2.1) (Nat.le_refl _)
  have L : ∀ (m e : Nat), e ≤ qP d K → qP d K - e < m → ((∃ q, e ≤ q ∧ q < qP d K ∧ qR K sp off a d f35 f38 f39 f40 q) ∧ q_X5_wrong_L41 N (nI (qP d K)) (nI off) (nI K) (nI sp) f35 f36 f37 f38 f39 f40 m (nI e) = some (Sum.inl (nI off))) ∨ ((¬ ∃ q, e ≤ q ∧ q < qP d K ∧ qR K sp off a d f35 f38 f39 f40 q) ∧ q_X5_wrong_L41 N (nI (qP d K)) (nI off) (nI K) (nI sp) f35 f36 f37 f38 f39 f40 m (nI e) = some (Sum.inr ())) := by
    intro m
    induction m with
    | zero => intro e _ h; omega
    | succ m ih =>
      intro e he hm
      rw [q_X5_wrong_L41, nI_1]
      by_cases c : e = qP d K
      · exact Or.inr ⟨fun ⟨q, h1, h2, _⟩ => by omega, e_p (e_le (by omega) (by omega)) rfl⟩
      · have nle : ¬ nI (qP d K) ≤ nI e := e_nle (by omega) (by omega)
        rcases q_ir (N := N) (e := e) (f35 := f35) (f39 := f39) hN hE (by omega) ho with ⟨g1, g2⟩ | ⟨g1, g2⟩
        · exact Or.inl ⟨⟨e, Nat.le_refl _, by omega, g1⟩, e_n nle (e_b g2 (e_n e_10 rfl))⟩
        · rcases ih (e + 1) (by omega) (by omega) with ⟨⟨q, h1, h2, h3⟩, I⟩ | ⟨h, I⟩
          · exact Or.inl ⟨⟨q, by omega, h2, h3⟩, e_n nle (e_b g2 (e_p rfl I))⟩
          · refine Or.inr ⟨fun ⟨q, h1, h2, h3⟩ => ?_, e_n nle (e_b g2 (e_p rfl I))⟩
            by_cases z : q = e
            · rw [z] at h3; exact g1 h3
            · exact h ⟨q, by omega, h2, h3⟩
  rcases L N 0 (Nat.zero_le _) (by omega) with ⟨⟨q, _, h2, h3⟩, I⟩ | ⟨h, I⟩
  · exact Or.inl ⟨⟨q, h2, h3⟩, I⟩
  · exact Or.inr ⟨fun ⟨q, h2, h3⟩ => h ⟨q, Nat.zero_le _, h2, h3⟩, I⟩
theorem q_p64 (hK : K ≤ 6) : 2 ^ K ≤ 64 ∧ 0 < 2 ^ K := ⟨Nat.pow_le_pow_right (n := 2) (by omega) (show K ≤ 6 from hK), Nat.two_pow_pos _⟩
/-- both searches at n wrong ones -/
theorem q_2117 {M n : Nat} (hN : 60000 ≤ N) (hM : 60000 ≤ M) (hE : qE K sp a d Bj f0 f1 f2 f6 f9 f35 f38 f39 f40) (hE5 : qE5 K sp a d Bj f3 f4 f36 f37 f38 f40) (hn : n < K) : ∀ (m m' j : Nat) (f10 : Nat → Int32), j + 1 ≤ 2 ^ K → 2 ^ K - j < m → 2 ^ K - j < m' → ∃ F : Nat → Int32, (∃ o, q_X3_findFewest_L21 N (nI (2 ^ K - 1)) (nI n) (nI K) (nI sp) f0 f1 f2 f6 f9 m (nI j) f10 = some (Sum.inl (nI o, F)) ∧ q_X5_wrong_L17 M (nI (qP d K)) (nI n) (nI K) (nI sp) f35 f36 f37 f38 f39 f40 m' (nI j) = some (Sum.inl (nI o))) ∨ (q_X3_findFewest_L21 N (nI (2 ^ K - 1)) (nI n) (nI K) (nI sp) f0 f1 f2 f6 f9 m (nI j) f10 = some (Sum.inr F) ∧ q_X5_wrong_L17 M (nI (qP d K)) (nI n) (nI K) (nI sp) f35 f36 f37 f38 f39 f40 m' (nI j) = some (Sum.inr ())) := by
  have hK := hE.1
  obtain ⟨p64, p0⟩ := q_p64 hK
  have sh : ((1 : Int32) <<< (nI K &&& 31)) = nI (2 ^ K) := q_shl ⟨K, by omega⟩
  intro m
  induction m with
  | zero => intro m' j f10 _ h; omega
  | succ m ih =>
    intro m' j f10 hj hm hm'
    obtain ⟨m', rfl⟩ : ∃ q, m' = q + 1 := ⟨m' - 1, by omega⟩
    rw [q_X3_findFewest_L21, q_X5_wrong_L17, nI_1, sh]
    have pc := q_pc1 (N := N) (show j < 64 by omega)
    have pcM := q_pc1 (N := M) (show j < 64 by omega)
    have pc6 : q_pc j ≤ 6 := q_pc6 ⟨j, by omega⟩
    have n5 : ¬ nI (2 ^ K) ≤ nI j := e_nle (by omega) (by omega)
    by_cases c : j = 2 ^ K - 1
    · have pk : q_pc j = K := by rw [c]; exact q_pca ⟨K, by omega⟩
      obtain ⟨m', rfl⟩ : ∃ q, m' = q + 1 := ⟨m' - 1, by omega⟩
      refine ⟨f10, Or.inr ⟨e_p (e_le (by omega) (by omega)) rfl, e_n n5 (e_b pcM (e_n (e_ne (by omega) (by omega) (by omega)) ?_))⟩⟩
      rw [q_X5_wrong_L17, sh]
      exact e_p (e_le (by omega) (by omega)) rfl
    · have n3 : ¬ nI (2 ^ K - 1) ≤ nI j := e_nle (by omega) (by omega)
      by_cases z : q_pc j = n
      · have e1 : nI (q_pc j) = nI n := by rw [z]
        obtain ⟨G, -, G2⟩ := q_rf (N := N) (off := j) (kept := nI (2 ^ K - 1) &&& (nI j ^^^ (-1))) hN hE (fun t ht => q_kept ⟨K, by omega⟩ ⟨j, by omega⟩ ⟨t, by omega⟩ ht) 8 0 0 f10 (Nat.zero_le _) (by omega) qP_pos (fun k hk => absurd hk (Nat.not_lt_zero _))
        rw [qW_X] at G2
        rcases q_w41 (f35 := f35) (f39 := f39) (off := j) hM hE5 (by omega) with ⟨w1, w2⟩ | ⟨w1, w2⟩
        · rcases G2 with ⟨g1, g2⟩ | ⟨g1, g2⟩
          · exact ⟨G, Or.inl ⟨j, e_n n3 (e_b pc (e_p e1 (e_b g2 (e_n e_10 rfl)))), e_n n5 (e_b pcM (e_p e1 (e_b w2 rfl)))⟩⟩
          · exact absurd w1 g1
        · rcases G2 with ⟨g1, g2⟩ | ⟨g1, g2⟩
          · exact absurd g1 w1
          · obtain ⟨F, I⟩ := ih m' (j + 1) G (by omega) (by omega) (by omega)
            rcases I with ⟨o, i1, i2⟩ | ⟨i1, i2⟩
            · exact ⟨F, Or.inl ⟨o, e_n n3 (e_b pc (e_p e1 (e_b g2 (e_p rfl i1)))), e_n n5 (e_b pcM (e_p e1 (e_b w2 i2)))⟩⟩
            · exact ⟨F, Or.inr ⟨e_n n3 (e_b pc (e_p e1 (e_b g2 (e_p rfl i1)))), e_n n5 (e_b pcM (e_p e1 (e_b w2 i2)))⟩⟩
      · have e1 : ¬ nI (q_pc j) = nI n := e_ne z (by omega) (by omega)
        obtain ⟨F, I⟩ := ih m' (j + 1) f10 (by omega) (by omega) (by omega)
        rcases I with ⟨o, i1, i2⟩ | ⟨i1, i2⟩
        · exact ⟨F, Or.inl ⟨o, e_n n3 (e_b pc (e_n e1 i1)), e_n n5 (e_b pcM (e_n e1 i2))⟩⟩
        · exact ⟨F, Or.inr ⟨e_n n3 (e_b pc (e_n e1 i1)), e_n n5 (e_b pcM (e_n e1 i2))⟩⟩
/-- the reference, with all wrong -/
theorem q_17a {M : Nat} (hM : 60000 ≤ M) (hE5 : qE5 K sp a d Bj f3 f4 f36 f37 f38 f40) : ∀ (m j : Nat), j + 1 ≤ 2 ^ K → 2 ^ K - j < m → q_X5_wrong_L17 M (nI (qP d K)) (nI K) (nI K) (nI sp) f35 f36 f37 f38 f39 f40 m (nI j) = some (Sum.inl (nI (2 ^ K - 1))) := by
  have hK := hE5.1
  obtain ⟨p64, p0⟩ := q_p64 hK
  have sh : ((1 : Int32) <<< (nI K &&& 31)) = nI (2 ^ K) := q_shl ⟨K, by omega⟩
  have wa : qW K sp a d f35 f38 f39 f40 (2 ^ K - 1) := by
    have tb : ∀ t, t < K → (2 ^ K - 1).testBit t = true := fun t ht => q_allb ⟨K, by omega⟩ ⟨t, by omega⟩ ht
    refine ⟨0, qP_pos, fun k hk _ => ?_, fun t s h1 h2 h3 _ => absurd (tb t (by omega)) h3⟩
    exact (by rw [Nat.zero_div, Nat.zero_mod] : a k + 0 / qP d k % (d k + 1) = a k + 0)
  intro m
  induction m with
  | zero => intro j _ h; omega
  | succ m ih =>
    intro j hj hm
    rw [q_X5_wrong_L17, nI_1, sh]
    have pcM := q_pc1 (N := M) (show j < 64 by omega)
    have pc6 : q_pc j ≤ 6 := q_pc6 ⟨j, by omega⟩
    have n5 : ¬ nI (2 ^ K) ≤ nI j := e_nle (by omega) (by omega)
    by_cases c : j = 2 ^ K - 1
    · have pk : q_pc j = K := by rw [c]; exact q_pca ⟨K, by omega⟩
      rcases q_w41 (f35 := f35) (f39 := f39) (off := j) hM hE5 (by omega) with ⟨w1, w2⟩ | ⟨w1, w2⟩
      · rw [← c]
        exact e_n n5 (e_b pcM (e_p (by rw [pk]) (e_b w2 rfl)))
      · rw [c] at w1
        exact absurd wa w1
    · have pk : q_pc j ≠ K := q_pcl ⟨K, by omega⟩ ⟨j, by omega⟩ (show j + 1 < 2 ^ K by omega)
      exact e_n n5 (e_b pcM (e_n (e_ne pk (by omega) (by omega)) (ih (j + 1) (by omega) (by omega))))
theorem q_117 {M : Nat} (hN : 60000 ≤ N) (hM : 60000 ≤ M) (hE : qE K sp a d Bj f0 f1 f2 f6 f9 f35 f38 f39 f40) (hE5 : qE5 K sp a d Bj f3 f4 f36 f37 f38 f40) : ∀ (m m' n : Nat) (f10 : Nat → Int32), n ≤ K → K - n < m → K - n < m' → ∃ F : Nat → Int32, (∃ o, q_X3_findFewest_L11 N (nI (2 ^ K - 1)) (nI K) (nI sp) f0 f1 f2 f6 f9 m (nI n) f10 = some (Sum.inl (nI o, F)) ∧ q_X5_wrong_L7 M (nI (qP d K)) (nI K) (nI sp) f35 f36 f37 f38 f39 f40 m' (nI n) = some (Sum.inl (nI o))) ∨ (q_X3_findFewest_L11 N (nI (2 ^ K - 1)) (nI K) (nI sp) f0 f1 f2 f6 f9 m (nI n) f10 = some (Sum.inr F) ∧ q_X5_wrong_L7 M (nI (qP d K)) (nI K) (nI sp) f35 f36 f37 f38 f39 f40 m' (nI n) = some (Sum.inl (nI (2 ^ K - 1)))) := by
  have hK := hE.1
  obtain ⟨p64, p0⟩ := q_p64 hK
  intro m
  induction m with
  | zero => intro m' n f10 _ h; omega
  | succ m ih =>
    intro m' n f10 hn hm hm'
    obtain ⟨m', rfl⟩ : ∃ q, m' = q + 1 := ⟨m' - 1, by omega⟩
    rw [q_X3_findFewest_L11, q_X5_wrong_L7, nI_1]
    have n5 : ¬ nI K < nI n := e_nlt hn (by omega)
    by_cases c : n = K
    · have w := q_17a (f35 := f35) (f39 := f39) hM hE5 M 0 (by omega) (by omega)
      refine ⟨f10, Or.inr ⟨e_p (e_le (by omega) (by omega)) rfl, e_n n5 ?_⟩⟩
      rw [c]
      exact e_b w rfl
    · have n3 : ¬ nI K ≤ nI n := e_nle (by omega) (by omega)
      obtain ⟨G, I⟩ := q_2117 (n := n) hN hM hE hE5 (by omega) N M 0 f10 (by omega) (by omega) (by omega)
      rcases I with ⟨o, i1, i2⟩ | ⟨i1, i2⟩
      · exact ⟨G, Or.inl ⟨o, e_n n3 (e_b i1 rfl), e_n n5 (e_b i2 rfl)⟩⟩
      · obtain ⟨F, J⟩ := ih m' (n + 1) G (by omega) (by omega) (by omega)
        rcases J with ⟨o, j1, j2⟩ | ⟨j1, j2⟩
        · exact ⟨F, Or.inl ⟨o, e_n n3 (e_b i1 j1), e_n n5 (e_b i2 j2)⟩⟩
        · exact ⟨F, Or.inr ⟨e_n n3 (e_b i1 j1), e_n n5 (e_b i2 j2)⟩⟩
theorem q_few {M : Nat} (hE : qE K sp a d Bj f0 f1 f2 f6 f9 f35 f38 f39 f40) (hE5 : qE5 K sp a d Bj f3 f4 f36 f37 f38 f40) (hN : 60000 ≤ N) (hM : 60000 ≤ M) (f10 : Nat → Int32) : ∃ (o : Nat) (F : Nat → Int32), q_X3_findFewest N (nI K) (nI sp) f0 f1 f2 f6 f9 f10 = some (nI o, F) ∧ q_X5_wrong M (nI K) (nI sp) f35 f36 f37 f38 f39 f40 = some (nI o) := by
  have hK := hE.1
  have al : ((1 : Int32) <<< (nI K &&& 31)) - 1 = nI (2 ^ K - 1) := q_all ⟨K, by omega⟩
  unfold q_X3_findFewest q_X5_wrong
  rw [al]
  obtain ⟨F, I⟩ := q_117 (N := N) hN hM hE hE5 N M 0 f10 (Nat.zero_le _) (by omega) (by omega)
  rcases I with ⟨o, i1, i2⟩ | ⟨i1, i2⟩
  · exact ⟨o, F, e_b i1 rfl, e_b (q_cod hM hE5) (e_b i2 rfl)⟩
  · exact ⟨2 ^ K - 1, F, e_b i1 rfl, e_b (q_cod hM hE5) (e_b i2 rfl)⟩
end

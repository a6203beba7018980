/-! ===== pure rows: what the quarry finds out ===== -/
theorem q_bit : ∀ (B : Fin 64) (j : Fin 6), q_X4_hasBit 0 (nI B.val) (nI j.val) = some (if B.val.testBit j.val = true then 1 else 0) := by decide +kernel
theorem q_bit1 {N B j : Nat} (hB : B < 64) (hj : j < 6) : q_X4_hasBit N (nI B) (nI j) = some (if B.testBit j = true then 1 else 0) := q_bit ⟨B, hB⟩ ⟨j, hj⟩
theorem q_bitm : ∀ (j : Fin 6), q_X4_hasBit 0 (-1) (nI j.val) = some 1 := by decide +kernel
theorem q_abs : ∀ (x y : Fin 41), z_abs (nI x.val - nI y.val) = nI (if y.val ≤ x.val then x.val - y.val else y.val - x.val) := by decide +kernel
def qU (K : Nat) (f38 f39 f9 : Nat → Int32) : Prop := ∀ i, i < K → ∃ U, U < 64 ∧ f9 i = nI U ∧ ∀ j, j < K → (U.testBit j = true ↔ ¬ qAg f38 f39 i j)
section
variable {N K : Nat} {f3 f4 f5 f38 f39 : Nat → Int32}
theorem q_un19 {i : Nat} (hN : 60000 ≤ N) (hK : K ≤ 6) (hi : i < K) (hl : qLt K f3 f4 f38) (h5 : ∀ k, k < K → f5 k = f39 k) : ∀ (m j U : Nat) (f : Nat → Int32), j ≤ K → K - j < m → U < 2 ^ K → f i = nI U → (∀ q, q < K → (U.testBit q = true ↔ q < j ∧ ¬ qAg f38 f39 i q)) → ∃ F : Nat → Int32, q_X3_findUnlike_L19 N (nI i) (nI K) f3 f4 f5 m (nI j) f = some F ∧ (∀ k, k ≠ i → F k = f k) ∧ ∃ U, U < 64 ∧ F i = nI U ∧ ∀ q, q < K → (U.testBit q = true ↔ ¬ qAg f38 f39 i q) := by
  intro m
  induction m with
  | zero => intro j U f _ h; omega
  | succ m ih =>
    intro j U f hj hm hU hf hb
    rw [q_X3_findUnlike_L19, nI_1]
    by_cases e : j = K
    · subst e
      exact ⟨f, e_p (e_le (Nat.le_refl _) (by omega)) rfl, fun _ _ => rfl, U, q_64 hK hU, hf, fun q hq => (hb q hq).trans ⟨fun h => h.2, fun h => ⟨hq, h⟩⟩⟩
    · have hjK : j < K := by omega
      have nle : ¬ nI K ≤ nI j := e_nle hjK (by omega)
      rcases q_ag1 (N := N) hN hK hi hjK hl h5 with ⟨a, b⟩ | ⟨a, b⟩
      · obtain ⟨F, p, q⟩ := ih (j + 1) U f (by omega) (by omega) hU hf (fun q hq => (hb q hq).trans ⟨fun h => ⟨Nat.lt_succ_of_lt h.1, h.2⟩, fun h => ⟨by
          by_cases c : q = j
          · subst c; exact absurd a h.2
          · exact Nat.lt_of_le_of_ne (Nat.le_of_lt_succ h.1) c, h.2⟩⟩)
        exact ⟨F, e_n nle (e_b b (e_n e_10 p)), q⟩
      · have u64 := q_64 hK hU
        obtain ⟨F, p, q1, q2⟩ := ih (j + 1) (qset true U j) (upd f i (nI (qset true U j))) (by omega) (by omega) (qset_lt hU hjK) pk_us (fun q hq => by
          have t' : (qset true U j).testBit q = if q = j then true else U.testBit q := qset_t true ⟨U, u64⟩ ⟨j, by omega⟩ ⟨q, by omega⟩
          rw [t']
          by_cases c : q = j
          · subst c
            rw [if_pos rfl]
            exact ⟨fun _ => ⟨Nat.lt_succ_self _, a⟩, fun _ => rfl⟩
          · rw [if_neg c, hb q hq]
            exact ⟨fun h => ⟨Nat.lt_succ_of_lt h.1, h.2⟩, fun h => ⟨Nat.lt_of_le_of_ne (Nat.le_of_lt_succ h.1) c, h.2⟩⟩)
        refine ⟨F, e_n nle (e_b b (e_p rfl (e_p (e_in (by omega) (by omega)) (e_s ?_)))), fun k hk => by rw [q1 k hk, pk_un hk], q2⟩
        rw [e_cl (n := i) (by omega), hf, show nI U ||| ((1 : Int32) <<< (nI j &&& 31)) = nI (qset true U j) from qset_o ⟨U, u64⟩ ⟨j, by omega⟩]
        exact p
theorem q_un2 (hN : 60000 ≤ N) (hK : K ≤ 6) (hl : qLt K f3 f4 f38) (h5 : ∀ k, k < K → f5 k = f39 k) : ∀ (m i : Nat) (f : Nat → Int32), i ≤ K → K - i < m → (∀ k, k < i → ∃ U, U < 64 ∧ f k = nI U ∧ ∀ j, j < K → (U.testBit j = true ↔ ¬ qAg f38 f39 k j)) → ∃ F : Nat → Int32, q_X3_findUnlike_L2 N (nI K) f3 f4 f5 m (nI i) f = some F ∧ qU K f38 f39 F := by
  intro m
  induction m with
  | zero => intro i f _ h; omega
  | succ m ih =>
    intro i f hi hm h
    rw [q_X3_findUnlike_L2, nI_1]
    by_cases e : i = K
    · subst e
      exact ⟨f, e_p (e_le (Nat.le_refl _) (by omega)) rfl, h⟩
    · have hiK : i < K := by omega
      obtain ⟨G, g1, g2, U, g3⟩ := q_un19 (N := N) hN hK hiK hl h5 N 0 0 (upd f i 0) (Nat.zero_le _) (by omega) (Nat.two_pow_pos _) pk_us (fun q hq => by
        rw [Nat.zero_testBit]
        exact ⟨fun h => (by cases h), fun h => absurd h.1 (Nat.not_lt_zero _)⟩)
      obtain ⟨F, p, q⟩ := ih (i + 1) G (by omega) (by omega) (fun k hk => by
        by_cases c : k = i
        · subst c; exact ⟨U, g3⟩
        · rw [g2 k c, pk_un c]; exact h k (by omega))
      refine ⟨F, e_n (e_nle hiK (by omega)) (e_p (e_in (by omega) (by omega)) ?_), q⟩
      rw [e_cl (n := i) (by omega)]
      exact e_b g1 p
theorem q_un (hN : 60000 ≤ N) (hK : K ≤ 6) (hl : qLt K f3 f4 f38) (h5 : ∀ k, k < K → f5 k = f39 k) (f9 : Nat → Int32) : ∃ F : Nat → Int32, q_X3_findUnlike N (nI K) f3 f4 f5 f9 = some F ∧ qU K f38 f39 F := by
  obtain ⟨F, p, q⟩ := q_un2 (N := N) hN hK hl h5 N 0 f9 (Nat.zero_le _) (by omega) (fun k hk => by omega)
  exact ⟨F, e_b p rfl, q⟩
end
/-- what the searches rest on -/
def qE (K sp : Nat) (a d Bj : Nat → Nat) (f0 f1 f2 f6 f9 f35 f38 f39 f40 : Nat → Int32) : Prop := K ≤ 6 ∧ sp ≤ 40 ∧ (∀ k, k < K → f0 k = f35 k ∧ f1 k = nI (a k) ∧ f2 k = nI (a k + d k) ∧ d k ≤ 5 ∧ a k + d k ≤ 40) ∧ qJ K Bj f6 f40 ∧ qU K f38 f39 f9
section
variable {N K sp off : Nat} {a d Bj : Nat → Nat} {f0 f1 f2 f6 f9 f10 f35 f38 f39 f40 : Nat → Int32} {s t e p : Nat} {kept : Int32}
theorem q_go {y : Nat → Nat} (hE : qE K sp a d Bj f0 f1 f2 f6 f9 f35 f38 f39 f40) (ht : t < s) (hs : s < K) (y1 : y s ≤ 40) (y2 : y t ≤ 40) (e1 : f10 s = nI (y s)) (e2 : f10 t = nI (y t)) : (qG sp f35 f38 f39 f40 y t s ∧ q_X3_goTogether N (nI s) (nI t) (nI sp) f0 f6 f9 f10 = some 1) ∨ (¬ qG sp f35 f38 f39 f40 y t s ∧ q_X3_goTogether N (nI s) (nI t) (nI sp) f0 f6 f9 f10 = some 0) := by
  obtain ⟨hK, hsp, hS, hJ, hU⟩ := hE
  obtain ⟨U, u1, u2, u3⟩ := hU s hs
  obtain ⟨j1, j2, j3, j4⟩ := hJ s hs
  have tK : t < K := by omega
  have in1 : z_in (nI s) 6 := e_in (by omega) (by omega)
  have in2 : z_in (nI t) 6 := e_in (by omega) (by omega)
  have c1 : Int32.toNatClampNeg (nI s) = s := e_cl (by omega)
  have c2 : Int32.toNatClampNeg (nI t) = t := e_cl (by omega)
  have hu := q_bit1 (N := N) u1 (show t < 6 by omega)
  have hj := q_bit1 (N := N) (q_64 hK j2) (show t < 6 by omega)
  have k40 : f40 (6 * t + s) = if (Bj s).testBit t = true then 1 else 0 := by
    rw [(hJ t tK).2.2.1 s hs, ← j4 t tK]
  have r9 : f9 (Int32.toNatClampNeg (nI s)) = nI U := by rw [c1, u2]
  have r6 : f6 (Int32.toNatClampNeg (nI s)) = nI (Bj s) := by rw [c1, j1]
  have r1 : f10 (Int32.toNatClampNeg (nI s)) = nI (y s) := by rw [c1, e1]
  have r2 : f10 (Int32.toNatClampNeg (nI t)) = nI (y t) := by rw [c2, e2]
  have r3 : f0 (Int32.toNatClampNeg (nI s)) = f35 s := by rw [c1, (hS s hs).1]
  have r4 : f0 (Int32.toNatClampNeg (nI t)) = f35 t := by rw [c2, (hS t tK).1]
  unfold q_X3_goTogether
  rw [r9, r6, r1, r2, r3, r4]
  by_cases cu : U.testBit t = true
  · rw [if_pos cu] at hu
    have na : ¬ qAg f38 f39 t s := fun h => (u3 t tK).mp cu (qAg_s h)
    by_cases cj : (Bj s).testBit t = true
    · rw [if_pos cj] at hj k40
      exact Or.inr ⟨fun h => na (h.1 (by rw [k40]; exact e_10)).2.2, e_p in1 (e_b hu (e_n e_10 (e_b hj (e_n e_10 rfl))))⟩
    · rw [if_neg cj] at hj k40
      have go : ∀ {x : Option Int32}, (if f35 s = f35 t then if nI (y s) = nI (y t) then some 0 else some 1 else some (1 : Int32)) = x → (if z_in (nI s) 6 then Option.bind (q_X4_hasBit N (nI U) (nI t)) (fun o2 => if o2 = 0 then Option.bind (q_X4_hasBit N (nI (Bj s)) (nI t)) (fun o9 => if o9 = 0 then some 1 else if z_in (nI t) 6 then if z_abs (nI (y s) - nI (y t)) ≤ nI sp then some 1 else some 0 else none) else Option.bind (q_X4_hasBit N (nI (Bj s)) (nI t)) (fun o4 => if o4 = 0 then if z_in (nI t) 6 then if f35 s = f35 t then if nI (y s) = nI (y t) then some 0 else some 1 else some 1 else none else some 0)) else none) = x := fun h => e_p in1 (e_b hu (e_n e_10 (e_b hj (e_p rfl (e_p in2 h)))))
      by_cases ce : f35 s = f35 t
      · by_cases cy : y s = y t
        · exact Or.inr ⟨fun h => na (h.2 ce.symm cy.symm), go (e_p ce (e_p (by rw [cy]) rfl))⟩
        · exact Or.inl ⟨⟨fun h => absurd k40 h, fun _ h => absurd h.symm cy⟩, go (e_p ce (e_n (e_ne cy (by omega) (by omega)) rfl))⟩
      · exact Or.inl ⟨⟨fun h => absurd k40 h, fun h => absurd h.symm ce⟩, go (e_n ce rfl)⟩
  · rw [if_neg cu] at hu
    have ag : qAg f38 f39 t s := Classical.byContradiction fun h => cu ((u3 t tK).mpr (fun q => h (qAg_s q)))
    by_cases cj : (Bj s).testBit t = true
    · rw [if_pos cj] at hj k40
      have ab : z_abs (nI (y s) - nI (y t)) = nI (if y t ≤ y s then y s - y t else y t - y s) := q_abs ⟨y s, by omega⟩ ⟨y t, by omega⟩
      by_cases cs : y t ≤ y s + sp ∧ y s ≤ y t + sp
      · refine Or.inl ⟨⟨fun _ => ⟨cs.1, cs.2, ag⟩, fun _ _ => ag⟩, e_p in1 (e_b hu (e_p rfl (e_b hj (e_n e_10 (e_p in2 (e_p ?_ rfl))))))⟩
        rw [ab]
        refine e_le ?_ (by omega)
        by_cases q : y t ≤ y s
        · rw [if_pos q]; omega
        · rw [if_neg q]; omega
      · refine Or.inr ⟨fun h => cs ⟨(h.1 (by rw [k40]; exact e_10)).1, (h.1 (by rw [k40]; exact e_10)).2.1⟩, e_p in1 (e_b hu (e_p rfl (e_b hj (e_n e_10 (e_p in2 (e_n ?_ rfl))))))⟩
        rw [ab]
        by_cases q : y t ≤ y s
        · rw [if_pos q]
          exact e_nle (by omega) (by omega)
        · rw [if_neg q]
          exact e_nle (by omega) (by omega)
    · rw [if_neg cj] at hj k40
      exact Or.inl ⟨⟨fun h => absurd k40 h, fun _ _ => ag⟩, e_p in1 (e_b hu (e_p rfl (e_b hj (e_p rfl rfl))))⟩
theorem q_fit (hN : 60000 ≤ N) (hE : qE K sp a d Bj f0 f1 f2 f6 f9 f35 f38 f39 f40) (hk : ∀ t, t < K → q_X4_hasBit N kept (nI t) = some (if off.testBit t = true then 0 else 1)) (hs : s < K) (ho : ¬ off.testBit s = true) (hy : ∀ k, k ≤ s → ¬ off.testBit k = true → f10 k = nI (qY a d e k)) : (qF sp off a d f35 f38 f39 f40 s e ∧ q_X3_fits N (nI s) kept (nI sp) f0 f6 f9 f10 = some 1) ∨ (¬ qF sp off a d f35 f38 f39 f40 s e ∧ q_X3_fits N (nI s) kept (nI sp) f0 f6 f9 f10 = some 0) := by
  have hK := hE.1
  have b40 : ∀ k, k < K → qY a d e k ≤ 40 := fun k hk => by
    have h1 := (hE.2.2.1 k hk).2.2.2.2
    have h2 := (qY_le (a := a) (d := d) (e := e) (k := k)).2
    omega
  have L : ∀ (m t : Nat), t ≤ s → s - t < m → ((∀ q, t ≤ q → q < s → ¬ off.testBit q = true → qG sp f35 f38 f39 f40 (qY a d e) q s) ∧ q_X3_fits_L2 N (nI s) kept (nI sp) f0 f6 f9 f10 m (nI t) = some (Sum.inr ())) ∨ ((¬ ∀ q, t ≤ q → q < s → ¬ off.testBit q = true → qG sp f35 f38 f39 f40 (qY a d e) q s) ∧ q_X3_fits_L2 N (nI s) kept (nI sp) f0 f6 f9 f10 m (nI t) = some (Sum.inl 0)) := by
    intro m
    induction m with
    | zero => intro t _ h; omega
    | succ m ih =>
      intro t ht hm
      rw [q_X3_fits_L2, nI_1]
      by_cases c : t = s
      · subst c
        exact Or.inl ⟨fun q h1 h2 => by omega, e_p (e_le (Nat.le_refl _) (by omega)) rfl⟩
      · have nle : ¬ nI s ≤ nI t := e_nle (by omega) (by omega)
        have I := ih (t + 1) (by omega) (by omega)
        have hb := hk t (by omega)
        by_cases o : off.testBit t = true
        · rw [if_pos o] at hb
          rcases I with ⟨I1, I2⟩ | ⟨I1, I2⟩
          · exact Or.inl ⟨fun q h1 h2 h3 => by
              by_cases z : q = t
              · subst z; exact absurd o h3
              · exact I1 q (by omega) h2 h3, e_n nle (e_b hb (e_p rfl I2))⟩
          · exact Or.inr ⟨fun h => I1 fun q h1 h2 => h q (by omega) h2, e_n nle (e_b hb (e_p rfl I2))⟩
        · rw [if_neg o] at hb
          rcases q_go (N := N) (y := qY a d e) hE (show t < s by omega) hs (b40 s hs) (b40 t (by omega)) (hy s (Nat.le_refl _) ho) (hy t ht o) with ⟨g1, g2⟩ | ⟨g1, g2⟩
          · rcases I with ⟨I1, I2⟩ | ⟨I1, I2⟩
            · exact Or.inl ⟨fun q h1 h2 h3 => by
                by_cases z : q = t
                · subst z; exact g1
                · exact I1 q (by omega) h2 h3, e_n nle (e_b hb (e_n e_10 (e_b g2 (e_n e_10 I2))))⟩
            · exact Or.inr ⟨fun h => I1 fun q h1 h2 => h q (by omega) h2, e_n nle (e_b hb (e_n e_10 (e_b g2 (e_n e_10 I2))))⟩
          · exact Or.inr ⟨fun h => g1 (h t (Nat.le_refl _) (by omega) o), e_n nle (e_b hb (e_n e_10 (e_b g2 (e_p rfl rfl))))⟩
  unfold q_X3_fits
  rcases L N 0 (Nat.zero_le _) (by omega) with ⟨h1, h2⟩ | ⟨h1, h2⟩
  · exact Or.inl ⟨fun t ht o => h1 t (Nat.zero_le _) ht o, e_b h2 rfl⟩
  · exact Or.inr ⟨fun h => h1 fun q _ hq o => h q hq o, e_b h2 rfl⟩
theorem q_y1 {x : Nat} (hp : p < qP d s) (hx : x ≤ d s) (h10 : ∀ k, k < s → ¬ off.testBit k = true → f10 k = nI (qY a d p k)) : ∀ k, k ≤ s → ¬ off.testBit k = true → upd f10 s (nI (a s + x)) k = nI (qY a d (p + x * qP d s) k) := by
  intro k hk o
  by_cases c : k = s
  · subst c
    rw [pk_us, qcs_s hp hx]
  · rw [pk_un c, h10 k (by omega) o, qcs_k hp (by omega)]
/-- the search for one roll -/
theorem q_rf (hN : 60000 ≤ N) (hE : qE K sp a d Bj f0 f1 f2 f6 f9 f35 f38 f39 f40) (hk : ∀ t, t < K → q_X4_hasBit N kept (nI t) = some (if off.testBit t = true then 0 else 1)) : ∀ (D s p : Nat) (f10 : Nat → Int32), s ≤ K → K - s < D → p < qP d s → (∀ k, k < s → ¬ off.testBit k = true → f10 k = nI (qY a d p k)) → ∃ F : Nat → Int32, (∀ k, k < s → F k = f10 k) ∧ ((qX K sp off a d f35 f38 f39 f40 s p ∧ q_X3_isRollFrom_D N D (nI s) kept (nI K) (nI sp) f0 f1 f2 f6 f9 f10 = some (1, F)) ∨ (¬ qX K sp off a d f35 f38 f39 f40 s p ∧ q_X3_isRollFrom_D N D (nI s) kept (nI K) (nI sp) f0 f1 f2 f6 f9 f10 = some (0, F))) := by
  have hK := hE.1
  intro D
  induction D with
  | zero => intro s p f10 _ h; omega
  | succ D ihD =>
    intro s p f10 hs hD hp h10
    show ∃ F : Nat → Int32, (∀ k, k < s → F k = f10 k) ∧ ((qX K sp off a d f35 f38 f39 f40 s p ∧ q_X3_isRollFrom_B N (q_X3_isRollFrom_D N D) (nI s) kept (nI K) (nI sp) f0 f1 f2 f6 f9 f10 = some (1, F)) ∨ (¬ qX K sp off a d f35 f38 f39 f40 s p ∧ q_X3_isRollFrom_B N (q_X3_isRollFrom_D N D) (nI s) kept (nI K) (nI sp) f0 f1 f2 f6 f9 f10 = some (0, F)))
    unfold q_X3_isRollFrom_B
    by_cases c : s = K
    · subst c
      exact ⟨f10, fun _ _ => rfl, Or.inl ⟨qX_K hp, e_p (e_le (Nat.le_refl _) (by omega)) rfl⟩⟩
    · have sK : s < K := by omega
      have nle : ¬ nI K ≤ nI s := e_nle sK (by omega)
      have l6 : nI s < 6 := e_lt (b := 6) (by omega) (by omega)
      have hin : z_in (nI s) 6 := e_in (by omega) (by omega)
      have hb := hk s sK
      by_cases o : off.testBit s = true
      · rw [if_pos o] at hb
        obtain ⟨F, F1, F2⟩ := ihD (s + 1) p f10 (by omega) (by omega) (Nat.lt_of_lt_of_le hp (qP_mono (Nat.le_succ s))) (fun k hk2 o2 => by
          by_cases z : k = s
          · subst z; exact absurd o o2
          · exact h10 k (by omega) o2)
        refine ⟨F, fun k hk2 => F1 k (by omega), ?_⟩
        rw [qX_o sK o hp, nI_1]
        rcases F2 with ⟨g1, g2⟩ | ⟨g1, g2⟩
        · exact Or.inl ⟨g1, e_n nle (e_p l6 (e_b hb (e_p rfl (e_b g2 rfl))))⟩
        · exact Or.inr ⟨g1, e_n nle (e_p l6 (e_b hb (e_p rfl (e_b g2 rfl))))⟩
      · rw [if_neg o] at hb
        obtain ⟨-, h1, h2, d5, y40⟩ := hE.2.2.1 s sK
        have r1 : f1 (Int32.toNatClampNeg (nI s)) = nI (a s) := by rw [e_cl (n := s) (by omega), h1]
        have r2 : f2 (Int32.toNatClampNeg (nI s)) = nI (a s + d s) := by rw [e_cl (n := s) (by omega), h2]
        have L : ∀ (m x : Nat) (f10 : Nat → Int32), x ≤ d s + 1 → d s + 1 - x < m → (∀ k, k < s → ¬ off.testBit k = true → f10 k = nI (qY a d p k)) → ∃ F : Nat → Int32, (∀ k, k < s → F k = f10 k) ∧ (((∃ x', x ≤ x' ∧ x' ≤ d s ∧ qF sp off a d f35 f38 f39 f40 s (p + x' * qP d s) ∧ qX K sp off a d f35 f38 f39 f40 (s + 1) (p + x' * qP d s)) ∧ q_X3_isRollFrom_L40 N (nI s) kept (nI K) (nI sp) f0 f1 f2 f6 f9 (q_X3_isRollFrom_D N D) m (nI (a s + x)) f10 = some (Sum.inl (1, F))) ∨ ((¬ ∃ x', x ≤ x' ∧ x' ≤ d s ∧ qF sp off a d f35 f38 f39 f40 s (p + x' * qP d s) ∧ qX K sp off a d f35 f38 f39 f40 (s + 1) (p + x' * qP d s)) ∧ q_X3_isRollFrom_L40 N (nI s) kept (nI K) (nI sp) f0 f1 f2 f6 f9 (q_X3_isRollFrom_D N D) m (nI (a s + x)) f10 = some (Sum.inr F))) := by
          intro m
          induction m with
          | zero => intro x f10 _ h; omega
          | succ m ih =>
            intro x f10 hx hm h10
            have hu : ∀ v, upd f10 (Int32.toNatClampNeg (nI s)) v = upd f10 s v := fun v => by rw [e_cl (n := s) (by omega)]
            rw [q_X3_isRollFrom_L40, nI_1, r2, nI_1, hu]
            by_cases cx : x = d s + 1
            · subst cx
              exact ⟨f10, fun _ _ => rfl, Or.inr ⟨fun ⟨x', q1, q2, _⟩ => by omega, e_p hin (e_p (e_lt (by omega) (by omega)) rfl)⟩⟩
            · have hx' : x ≤ d s := by omega
              have nlt : ¬ nI (a s + d s) < nI (a s + x) := e_nlt (by omega) (by omega)
              have hy := q_y1 hp hx' h10
              have kp : ∀ {F : Nat → Int32}, (∀ k, k < s → F k = upd f10 s (nI (a s + x)) k) → ∀ k, k < s → F k = f10 k := fun h k hk2 => by rw [h k hk2, pk_un (by omega)]
              have more : ∀ {Z : Prop} {y : Option (Sum (Int32 × (Nat → Int32)) (Nat → Int32))} {G : Nat → Int32}, (∀ k, k < s → G k = f10 k) → (¬ (qF sp off a d f35 f38 f39 f40 s (p + x * qP d s) ∧ qX K sp off a d f35 f38 f39 f40 (s + 1) (p + x * qP d s))) → (∀ {F : Nat → Int32} {r : Sum (Int32 × (Nat → Int32)) (Nat → Int32)}, q_X3_isRollFrom_L40 N (nI s) kept (nI K) (nI sp) f0 f1 f2 f6 f9 (q_X3_isRollFrom_D N D) m (nI (a s + x + 1)) G = some r → y = some r) → ∃ F : Nat → Int32, (∀ k, k < s → F k = f10 k) ∧ (((∃ x', x ≤ x' ∧ x' ≤ d s ∧ qF sp off a d f35 f38 f39 f40 s (p + x' * qP d s) ∧ qX K sp off a d f35 f38 f39 f40 (s + 1) (p + x' * qP d s)) ∧ y = some (Sum.inl (1, F))) ∨ ((¬ ∃ x', x ≤ x' ∧ x' ≤ d s ∧ qF sp off a d f35 f38 f39 f40 s (p + x' * qP d s) ∧ qX K sp off a d f35 f38 f39 f40 (s + 1) (p + x' * qP d s)) ∧ y = some (Sum.inr F))) := by
                intro Z y G hG hno hy2
                obtain ⟨F, F1, F2⟩ := ih (x + 1) G (by omega) (by omega) (fun k hk2 o2 => by rw [hG k hk2]; exact h10 k hk2 o2)
                refine ⟨F, fun k hk2 => by rw [F1 k hk2, hG k hk2], ?_⟩
                rcases F2 with ⟨⟨x', q1, q2, q3⟩, g2⟩ | ⟨g1, g2⟩
                · exact Or.inl ⟨⟨x', by omega, q2, q3⟩, hy2 (F := F) g2⟩
                · refine Or.inr ⟨fun ⟨x', q1, q2, q3⟩ => ?_, hy2 (F := F) g2⟩
                  by_cases z : x' = x
                  · subst z; exact hno q3
                  · exact g1 ⟨x', by omega, q2, q3⟩
              rcases q_fit (N := N) hN hE hk sK o hy with ⟨t1, t2⟩ | ⟨t1, t2⟩
              · obtain ⟨G, G1, G2⟩ := ihD (s + 1) (p + x * qP d s) (upd f10 s (nI (a s + x))) (by omega) (by omega) (qcs_lt hp hx') (fun k hk2 o2 => hy k (by omega) o2)
                have G1' := kp (fun k hk2 => G1 k (by omega))
                rcases G2 with ⟨g1, g2⟩ | ⟨g1, g2⟩
                · exact ⟨G, G1', Or.inl ⟨⟨x, Nat.le_refl _, hx', t1, g1⟩, e_p hin (e_n nlt (e_b t2 (e_n e_10 (e_b g2 (e_n e_10 rfl)))))⟩⟩
                · exact more (Z := True) G1' (fun q => g1 q.2) (fun h => e_p hin (e_n nlt (e_b t2 (e_n e_10 (e_b g2 (e_p rfl h))))))
              · exact more (Z := True) (kp fun _ _ => rfl) (fun q => t1 q.1) (fun h => e_p hin (e_n nlt (e_b t2 (e_p rfl h))))
        obtain ⟨F, F1, F2⟩ := L N 0 f10 (Nat.zero_le _) (by omega) h10
        refine ⟨F, F1, ?_⟩
        rw [qX_n sK o hp, r1]
        rcases F2 with ⟨⟨x', q1, q2, q3⟩, g2⟩ | ⟨g1, g2⟩
        · exact Or.inl ⟨⟨x', q2, q3⟩, e_n nle (e_p l6 (e_b hb (e_n e_10 (e_p hin (e_b g2 rfl)))))⟩
        · exact Or.inr ⟨fun ⟨x', q2, q3⟩ => g1 ⟨x', Nat.zero_le _, q2, q3⟩, e_n nle (e_p l6 (e_b hb (e_n e_10 (e_p hin (e_b g2 rfl)))))⟩
end

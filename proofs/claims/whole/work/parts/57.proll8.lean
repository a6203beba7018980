/-! ===== pure rows: the reference's codes, years, rolls ===== -/
theorem q_wid {x y : Nat} : nI (x + y) - nI x + 1 = nI (y + 1) := by
  rw [pk_sub (by omega), Nat.add_sub_cancel_left, nI_1]
theorem q_sar : ∀ (B : Fin 64) (j : Fin 6), ((nI B.val >>> (nI j.val &&& 31)) &&& 1) = if B.val.testBit j.val = true then 1 else 0 := by decide +kernel
theorem q_neg : ∀ (x y : Fin 41), x.val < y.val → nI x.val - nI y.val < 0 := by decide +kernel
theorem q_df {x y sp : Nat} (hx : x ≤ 40) (hy : y ≤ 40) (hs : sp ≤ 40) : nI sp < nI x - nI y ↔ y + sp < x := by
  by_cases c : y ≤ x
  · rw [pk_sub c]
    by_cases e : y + sp < x
    · exact ⟨fun _ => e, fun _ => e_lt (by omega) (by omega)⟩
    · exact ⟨fun h => absurd h (e_nlt (by omega) (by omega)), fun h => absurd h e⟩
  · have h := q_neg ⟨x, by omega⟩ ⟨y, by omega⟩ (show x < y by omega)
    refine ⟨fun q => ?_, fun q => by omega⟩
    have h1 := e_ti.mp h
    have h2 := Int32.lt_iff_toInt_lt.mp q
    rw [nI_toInt (by omega)] at h2
    have h3 : (nI x - nI y).toInt < 0 := h1
    omega
theorem q_dl {x y sp : Nat} (hx : x ≤ 40) (hy : y ≤ 40) (hs : sp ≤ 40) : nI x - nI y ≤ nI sp ↔ x ≤ y + sp := by
  by_cases c : y ≤ x
  · rw [pk_sub c]
    by_cases e : x ≤ y + sp
    · exact ⟨fun _ => e, fun _ => e_le (by omega) (by omega)⟩
    · exact ⟨fun h => absurd h (e_nle (by omega) (by omega)), fun h => absurd h e⟩
  · have h := q_neg ⟨x, by omega⟩ ⟨y, by omega⟩ (show x < y by omega)
    exact ⟨fun _ => by omega, fun _ => e_neg_le h (by omega)⟩
/-- the reference's stones -/
def qE5 (K sp : Nat) (a d Bj : Nat → Nat) (f3 f4 f36 f37 f38 f40 : Nat → Int32) : Prop := K ≤ 6 ∧ sp ≤ 40 ∧ (∀ k, k < K → f36 k = nI (a k) ∧ f37 k = nI (a k + d k) ∧ d k ≤ 5 ∧ a k + d k ≤ 40) ∧ qLt K f3 f4 f38 ∧ ∀ t s, t < K → s < K → f40 (6 * t + s) = if (Bj t).testBit s = true then 1 else 0
section
variable {N K sp off : Nat} {a d Bj : Nat → Nat} {f3 f4 f35 f36 f37 f38 f39 f40 : Nat → Int32} {s t e : Nat}
theorem q_cod (hN : 60000 ≤ N) (hE : qE5 K sp a d Bj f3 f4 f36 f37 f38 f40) : q_X5_codes N (nI K) f36 f37 = some (nI (qP d K)) := by
  have hK := hE.1
  have L : ∀ (m j : Nat), j ≤ K → K - j < m → q_X5_codes_L4 N (nI K) f36 f37 m (nI (qP d j)) (nI j) = some (nI (qP d K)) := by
    intro m
    induction m with
    | zero => intro j _ h; omega
    | succ m ih =>
      intro j hj hm
      rw [q_X5_codes_L4]
      by_cases c : j = K
      · subst c
        exact e_p (e_le (Nat.le_refl _) (by omega)) rfl
      · obtain ⟨h1, h2, -, -⟩ := hE.2.2.1 j (by omega)
        refine e_n (e_nle (by omega) (by omega)) (e_p (e_in (by omega) (by omega)) (e_s ?_))
        rw [e_cl (n := j) (by omega), h1, h2, q_wid, pk_mul, nI_1]
        exact ih (j + 1) (by omega) (by omega)
  unfold q_X5_codes
  exact e_b (L N 0 (Nat.zero_le _) (by omega)) rfl
theorem q_yo (hN : 60000 ≤ N) (hE : qE5 K sp a d Bj f3 f4 f36 f37 f38 f40) (he : e < 2 ^ 31) (hs : s < K) : q_X5_yearOf N (nI e) (nI s) f36 f37 = some (nI (qY a d e s)) := by
  have hK := hE.1
  have L : ∀ (m j : Nat), j ≤ s → s - j < m → q_X5_yearOf_L5 N (nI s) f36 f37 m (nI (e / qP d j)) (nI j) = some (nI (e / qP d s)) := by
    intro m
    induction m with
    | zero => intro j _ h; omega
    | succ m ih =>
      intro j hj hm
      rw [q_X5_yearOf_L5]
      by_cases c : j = s
      · subst c
        exact e_p (e_le (Nat.le_refl _) (by omega)) rfl
      · obtain ⟨h1, h2, h3, -⟩ := hE.2.2.1 j (by omega)
        refine e_n (e_nle (by omega) (by omega)) (e_p (e_in (by omega) (by omega)) ?_)
        rw [e_cl (n := j) (by omega), h1, h2, q_wid]
        refine e_n (e_ne (b := 0) (Nat.succ_ne_zero _) (by omega) (by omega)) (e_s ?_)
        rw [e_div (a := e / qP d j) (d := d j + 1) (Nat.lt_of_le_of_lt (Nat.div_le_self _ _) he) (show 0 < d j + 1 by omega) (by omega), Nat.div_div_eq_div_mul, nI_1]
        exact ih (j + 1) (by omega) (by omega)
  have L0 := L N 0 (Nat.zero_le _) (by omega)
  rw [show e / qP d 0 = e from Nat.div_one _] at L0
  obtain ⟨h1, h2, h3, -⟩ := hE.2.2.1 s hs
  unfold q_X5_yearOf
  refine e_b L0 (e_p (e_in (by omega) (by omega)) ?_)
  rw [e_cl (n := s) (by omega), h1, h2, q_wid]
  refine e_n (e_ne (b := 0) (Nat.succ_ne_zero _) (by omega) (by omega)) ?_
  rw [e_rem (a := e / qP d s) (d := d s + 1) (Nat.lt_of_le_of_lt (Nat.div_le_self _ _) he) (show 0 < d s + 1 by omega) (by omega), nI_add]
  rfl
theorem q_b40 (hE : qE5 K sp a d Bj f3 f4 f36 f37 f38 f40) (hs : s < K) : qY a d e s ≤ 40 := by
  have h1 := (hE.2.2.1 s hs).2.2.2
  have h2 := (qY_le (a := a) (d := d) (e := e) (k := s)).2
  omega
theorem q_ir2 (hN : 60000 ≤ N) (hE : qE5 K sp a d Bj f3 f4 f36 f37 f38 f40) (he : e < 2 ^ 31) (ho : off < 64) : ∀ (m k : Nat), k ≤ K → K - k < m → ((∀ q, k ≤ q → q < K → off.testBit q = true → qY a d e q = a q) ∧ q_X5_isRoll_L2 N (nI e) (nI off) (nI K) f36 f37 m (nI k) = some (Sum.inr ())) ∨ ((¬ ∀ q, k ≤ q → q < K → off.testBit q = true → qY a d e q = a q) ∧ q_X5_isRoll_L2 N (nI e) (nI off) (nI K) f36 f37 m (nI k) = some (Sum.inl 0)) := by
  have hK := hE.1
  intro m
  induction m with
  | zero => intro k _ h; omega
  | succ m ih =>
    intro k hk hm
    rw [q_X5_isRoll_L2, nI_1]
    by_cases c : k = K
    · subst c
      exact Or.inl ⟨fun q h1 h2 => by omega, e_p (e_le (Nat.le_refl _) (by omega)) rfl⟩
    · have kK : k < K := by omega
      have nle : ¬ nI K ≤ nI k := e_nle kK (by omega)
      have sb : ((nI off >>> (nI k &&& 31)) &&& 1) = if off.testBit k = true then 1 else 0 := q_sar ⟨off, ho⟩ ⟨k, by omega⟩
      have I := ih (k + 1) (by omega) (by omega)
      obtain ⟨h1, -, h3, h4⟩ := hE.2.2.1 k kK
      by_cases o : off.testBit k = true
      · rw [if_pos o] at sb
        by_cases y : qY a d e k = a k
        · have go : ∀ {r : Option (Sum Int32 Unit)}, q_X5_isRoll_L2 N (nI e) (nI off) (nI K) f36 f37 m (nI (k + 1)) = r → (if nI K ≤ nI k then some (Sum.inr ()) else if ((nI off >>> (nI k &&& 31)) &&& 1) = 1 then Option.bind (q_X5_yearOf N (nI e) (nI k) f36 f37) (fun o3 => if z_in (nI k) 6 then if o3 = f36 (Int32.toNatClampNeg (nI k)) then q_X5_isRoll_L2 N (nI e) (nI off) (nI K) f36 f37 m (nI (k + 1)) else some (Sum.inl 0) else none) else q_X5_isRoll_L2 N (nI e) (nI off) (nI K) f36 f37 m (nI (k + 1))) = r := fun h => e_n nle (e_p sb (e_b (q_yo hN hE he kK) (e_p (e_in (by omega) (by omega)) (e_p (by rw [e_cl (n := k) (by omega), h1, y]) h))))
          rcases I with ⟨I1, I2⟩ | ⟨I1, I2⟩
          · exact Or.inl ⟨fun q h1 h2 h3 => by
              by_cases z : q = k
              · rw [z]; exact y
              · exact I1 q (by omega) h2 h3, go I2⟩
          · exact Or.inr ⟨fun h => I1 fun q h1 h2 => h q (by omega) h2, go I2⟩
        · have yl := q_b40 (e := e) hE kK
          exact Or.inr ⟨fun h => y (h k (Nat.le_refl _) kK o), e_n nle (e_p sb (e_b (q_yo hN hE he kK) (e_p (e_in (by omega) (by omega)) (e_n (by rw [e_cl (n := k) (by omega), h1]; exact e_ne y (by omega) (by omega)) rfl))))⟩
      · rw [if_neg o] at sb
        have sn : ¬ ((nI off >>> (nI k &&& 31)) &&& 1) = 1 := by rw [sb]; decide
        rcases I with ⟨I1, I2⟩ | ⟨I1, I2⟩
        · exact Or.inl ⟨fun q h1 h2 h3 => by
            by_cases z : q = k
            · rw [z] at h3; exact absurd h3 o
            · exact I1 q (by omega) h2 h3, e_n nle (e_n sn I2)⟩
        · exact Or.inr ⟨fun h => I1 fun q h1 h2 => h q (by omega) h2, e_n nle (e_n sn I2)⟩
/-- one pair of stones -/
theorem q_pair (hN : 60000 ≤ N) (hE : qE5 K sp a d Bj f3 f4 f36 f37 f38 f40) (he : e < 2 ^ 31) (ht : t < K) (hs : s < K) {x y : Option (Sum Int32 Unit)} (hx : x = (Option.bind (q_X5_yearOf N (nI e) (nI t) f36 f37) (fun o3 =>
      (Option.bind (q_X5_yearOf N (nI e) (nI s) f36 f37) (fun o4 =>
      (if z_in ((6 * nI t) + nI s) 36 then
      (Option.bind (some ((f40 (Int32.toNatClampNeg ((6 * nI t) + nI s))) : Int32)) (fun n6 =>
      (if n6 = 0 then
       (if z_in (nI t) 6 then
       (if z_in (nI s) 6 then
       (if (f35 (Int32.toNatClampNeg (nI t))) = (f35 (Int32.toNatClampNeg (nI s))) then
        (if o3 = o4 then
         (Option.bind (q_X5_doAgree N (nI t) (nI s) f38 f39) (fun o12 =>
         (if o12 = 0 then
          (some (Sum.inl 0))
         else
          y)))
        else
         y)
       else
        y)
       else none)
       else none)
      else
       (if nI sp < (o3 - o4) then
        (some (Sum.inl 0))
       else
        (if (o4 - o3) ≤ nI sp then
         (Option.bind (q_X5_doAgree N (nI t) (nI s) f38 f39) (fun o16 =>
         (if o16 = 0 then
          (some (Sum.inl 0))
         else
          y)))
        else
         (some (Sum.inl 0)))))))
      else none)))))) : (qG sp f35 f38 f39 f40 (qY a d e) t s ∧ x = y) ∨ (¬ qG sp f35 f38 f39 f40 (qY a d e) t s ∧ x = some (Sum.inl 0)) := by
  have hK := hE.1
  have i6 : z_in (nI (6 * t + s)) 36 := e_in (by omega) (by omega)
  have c6 : Int32.toNatClampNeg (nI (6 * t + s)) = 6 * t + s := e_cl (by omega)
  have in1 : z_in (nI t) 6 := e_in (by omega) (by omega)
  have in2 : z_in (nI s) 6 := e_in (by omega) (by omega)
  have c1 : Int32.toNatClampNeg (nI s) = s := e_cl (by omega)
  have c2 : Int32.toNatClampNeg (nI t) = t := e_cl (by omega)
  have b1 := q_b40 (e := e) hE ht
  have b2 := q_b40 (e := e) hE hs
  have r6 : f40 (Int32.toNatClampNeg (nI (6 * t + s))) = f40 (6 * t + s) := by rw [c6]
  have r1 : f35 (Int32.toNatClampNeg (nI s)) = f35 s := by rw [c1]
  have r2 : f35 (Int32.toNatClampNeg (nI t)) = f35 t := by rw [c2]
  rw [ix6, r6, r1, r2] at hx
  have go : ∀ {r : Option (Sum Int32 Unit)}, (if f40 (6 * t + s) = 0 then (if f35 t = f35 s then (if nI (qY a d e t) = nI (qY a d e s) then Option.bind (q_X5_doAgree N (nI t) (nI s) f38 f39) (fun o12 => if o12 = 0 then some (Sum.inl 0) else y) else y) else y) else if nI sp < nI (qY a d e t) - nI (qY a d e s) then some (Sum.inl 0) else if nI (qY a d e s) - nI (qY a d e t) ≤ nI sp then Option.bind (q_X5_doAgree N (nI t) (nI s) f38 f39) (fun o16 => if o16 = 0 then some (Sum.inl 0) else y) else some (Sum.inl 0)) = r → x = r := by
    intro r h
    rw [hx]
    refine e_b (q_yo hN hE he ht) (e_b (q_yo hN hE he hs) (e_p i6 (e_s ?_)))
    rw [← h]
    by_cases z : f40 (6 * t + s) = 0
    · rw [if_pos z, if_pos z, if_pos in1, if_pos in2]
    · rw [if_neg z, if_neg z]
  unfold qG
  by_cases z : f40 (6 * t + s) = 0
  · by_cases ce : f35 t = f35 s
    · by_cases cy : qY a d e t = qY a d e s
      · rcases q_ag5 (N := N) (f39 := f39) hN hK ht hs hE.2.2.2.1 with ⟨g1, g2⟩ | ⟨g1, g2⟩
        · exact Or.inl ⟨⟨fun h => absurd z h, fun _ _ => g1⟩, go (e_p z (e_p ce (e_p (by rw [cy]) (e_b g2 (e_n e_10 rfl)))))⟩
        · exact Or.inr ⟨fun h => g1 (h.2 ce cy), go (e_p z (e_p ce (e_p (by rw [cy]) (e_b g2 (e_p rfl rfl)))))⟩
      · exact Or.inl ⟨⟨fun h => absurd z h, fun _ h => absurd h cy⟩, go (e_p z (e_p ce (e_n (e_ne cy (by omega) (by omega)) rfl)))⟩
    · exact Or.inl ⟨⟨fun h => absurd z h, fun h => absurd h ce⟩, go (e_p z (e_n ce rfl))⟩
  · by_cases l1 : qY a d e s + sp < qY a d e t
    · exact Or.inr ⟨fun h => by have := (h.1 z).1; omega, go (e_n z (e_p ((q_df b1 b2 hE.2.1).mpr l1) rfl))⟩
    · have n1 : ¬ nI sp < nI (qY a d e t) - nI (qY a d e s) := fun h => l1 ((q_df b1 b2 hE.2.1).mp h)
      by_cases l2 : qY a d e s ≤ qY a d e t + sp
      · rcases q_ag5 (N := N) (f39 := f39) hN hK ht hs hE.2.2.2.1 with ⟨g1, g2⟩ | ⟨g1, g2⟩
        · exact Or.inl ⟨⟨fun _ => ⟨by omega, l2, g1⟩, fun _ _ => g1⟩, go (e_n z (e_n n1 (e_p ((q_dl b2 b1 hE.2.1).mpr l2) (e_b g2 (e_n e_10 rfl)))))⟩
        · exact Or.inr ⟨fun h => g1 (h.1 z).2.2, go (e_n z (e_n n1 (e_p ((q_dl b2 b1 hE.2.1).mpr l2) (e_b g2 (e_p rfl rfl)))))⟩
      · exact Or.inr ⟨fun h => l2 (h.1 z).2.1, go (e_n z (e_n n1 (e_n (fun h => l2 ((q_dl b2 b1 hE.2.1).mp h)) rfl)))⟩
theorem q_ir69 (hN : 60000 ≤ N) (hE : qE5 K sp a d Bj f3 f4 f36 f37 f38 f40) (he : e < 2 ^ 31) (ho : off < 64) (ht : t < K) : ∀ (m s : Nat), s ≤ K → K - s < m → ((∀ q, s ≤ q → q < K → ¬ off.testBit q = true → qG sp f35 f38 f39 f40 (qY a d e) t q) ∧ q_X5_isRoll_L69 N (nI e) (nI off) (nI t) (nI K) (nI sp) f35 f36 f37 f38 f39 f40 m (nI s) = some (Sum.inr ())) ∨ ((¬ ∀ q, s ≤ q → q < K → ¬ off.testBit q = true → qG sp f35 f38 f39 f40 (qY a d e) t q) ∧ q_X5_isRoll_L69 N (nI e) (nI off) (nI t) (nI K) (nI sp) f35 f36 f37 f38 f39 f40 m (nI s) = some (Sum.inl 0)) := by
  have hK := hE.1
  intro m
  induction m with
  | zero => intro s _ h; omega
  | succ m ih =>
    intro s hs hm
    rw [q_X5_isRoll_L69, nI_1]
    by_cases c : s = K
    · subst c
      exact Or.inl ⟨fun q h1 h2 => by omega, e_p (e_le (Nat.le_refl _) (by omega)) rfl⟩
    · have sK : s < K := by omega
      have nle : ¬ nI K ≤ nI s := e_nle sK (by omega)
      have sb : ((nI off >>> (nI s &&& 31)) &&& 1) = if off.testBit s = true then 1 else 0 := q_sar ⟨off, ho⟩ ⟨s, by omega⟩
      have I := ih (s + 1) (by omega) (by omega)
      by_cases o : off.testBit s = true
      · rw [if_pos o] at sb
        rcases I with ⟨I1, I2⟩ | ⟨I1, I2⟩
        · exact Or.inl ⟨fun q h1 h2 h3 => by
            by_cases z : q = s
            · rw [z] at h3; exact absurd o h3
            · exact I1 q (by omega) h2 h3, e_n nle (e_p sb I2)⟩
        · exact Or.inr ⟨fun h => I1 fun q h1 h2 => h q (by omega) h2, e_n nle (e_p sb I2)⟩
      · rw [if_neg o] at sb
        have sn : ¬ ((nI off >>> (nI s &&& 31)) &&& 1) = 1 := by rw [sb]; decide
        rcases q_pair (f35 := f35) (f39 := f39) (y := q_X5_isRoll_L69 N (nI e) (nI off) (nI t) (nI K) (nI sp) f35 f36 f37 f38 f39 f40 m (nI (s + 1))) hN hE he ht sK rfl with ⟨g1, g2⟩ | ⟨g1, g2⟩
        · rcases I with ⟨I1, I2⟩ | ⟨I1, I2⟩
          · exact Or.inl ⟨fun q h1 h2 h3 => by
              by_cases z : q = s
              · rw [z]; exact g1
              · exact I1 q (by omega) h2 h3, e_n nle (e_n sn (g2.trans I2))⟩
          · exact Or.inr ⟨fun h => I1 fun q h1 h2 => h q (by omega) h2, e_n nle (e_n sn (g2.trans I2))⟩
        · exact Or.inr ⟨fun h => g1 (h s (Nat.le_refl _) sK o), e_n nle (e_n sn g2)⟩
theorem q_ir44 (hN : 60000 ≤ N) (hE : qE5 K sp a d Bj f3 f4 f36 f37 f38 f40) (he : e < 2 ^ 31) (ho : off < 64) : ∀ (m t : Nat), t ≤ K → K - t < m → ((∀ r, t ≤ r → r < K → ¬ off.testBit r = true → ∀ q, r + 1 ≤ q → q < K → ¬ off.testBit q = true → qG sp f35 f38 f39 f40 (qY a d e) r q) ∧ q_X5_isRoll_L44 N (nI e) (nI off) (nI K) (nI sp) f35 f36 f37 f38 f39 f40 m (nI t) = some (Sum.inr ())) ∨ ((¬ ∀ r, t ≤ r → r < K → ¬ off.testBit r = true → ∀ q, r + 1 ≤ q → q < K → ¬ off.testBit q = true → qG sp f35 f38 f39 f40 (qY a d e) r q) ∧ q_X5_isRoll_L44 N (nI e) (nI off) (nI K) (nI sp) f35 f36 f37 f38 f39 f40 m (nI t) = some (Sum.inl 0)) := by
  have hK := hE.1
  intro m
  induction m with
  | zero => intro t _ h; omega
  | succ m ih =>
    intro t ht hm
    rw [q_X5_isRoll_L44, nI_1]
    by_cases c : t = K
    · subst c
      exact Or.inl ⟨fun q h1 h2 => by omega, e_p (e_le (Nat.le_refl _) (by omega)) rfl⟩
    · have tK : t < K := by omega
      have nle : ¬ nI K ≤ nI t := e_nle tK (by omega)
      have sb : ((nI off >>> (nI t &&& 31)) &&& 1) = if off.testBit t = true then 1 else 0 := q_sar ⟨off, ho⟩ ⟨t, by omega⟩
      have I := ih (t + 1) (by omega) (by omega)
      by_cases o : off.testBit t = true
      · rw [if_pos o] at sb
        rcases I with ⟨I1, I2⟩ | ⟨I1, I2⟩
        · exact Or.inl ⟨fun r h1 h2 h3 => by
            by_cases z : r = t
            · rw [z] at h3; exact absurd o h3
            · exact I1 r (by omega) h2 h3, e_n nle (e_p sb I2)⟩
        · exact Or.inr ⟨fun h => I1 fun r h1 h2 => h r (by omega) h2, e_n nle (e_p sb I2)⟩
      · rw [if_neg o] at sb
        have sn : ¬ ((nI off >>> (nI t &&& 31)) &&& 1) = 1 := by rw [sb]; decide
        rcases q_ir69 (f35 := f35) (f39 := f39) hN hE he ho tK N (t + 1) (by omega) (by omega) with ⟨g1, g2⟩ | ⟨g1, g2⟩
        · rcases I with ⟨I1, I2⟩ | ⟨I1, I2⟩
          · exact Or.inl ⟨fun r h1 h2 h3 => by
              by_cases z : r = t
              · rw [z]; exact g1
              · exact I1 r (by omega) h2 h3, e_n nle (e_n sn (e_b g2 I2))⟩
          · exact Or.inr ⟨fun h => I1 fun r h1 h2 => h r (by omega) h2, e_n nle (e_n sn (e_b g2 I2))⟩
        · exact Or.inr ⟨fun h => g1 (h t (Nat.le_refl _) tK o), e_n nle (e_n sn (e_b g2 rfl))⟩
theorem q_ir (hN : 60000 ≤ N) (hE : qE5 K sp a d Bj f3 f4 f36 f37 f38 f40) (he : e < 2 ^ 31) (ho : off < 64) : (qR K sp off a d f35 f38 f39 f40 e ∧ q_X5_isRoll N (nI e) (nI off) (nI K) (nI sp) f35 f36 f37 f38 f39 f40 = some 1) ∨ (¬ qR K sp off a d f35 f38 f39 f40 e ∧ q_X5_isRoll N (nI e) (nI off) (nI K) (nI sp) f35 f36 f37 f38 f39 f40 = some 0) := by
  have hK := hE.1
  unfold q_X5_isRoll
  rcases q_ir2 (N := N) hN hE he ho N 0 (Nat.zero_le _) (by omega) with ⟨g1, g2⟩ | ⟨g1, g2⟩
  · rcases q_ir44 (N := N) (f35 := f35) (f39 := f39) hN hE he ho N 0 (Nat.zero_le _) (by omega) with ⟨k1, k2⟩ | ⟨k1, k2⟩
    · exact Or.inl ⟨⟨fun k hk o => g1 k (Nat.zero_le _) hk o, fun t s hts hs o1 o2 => k1 t (Nat.zero_le _) (by omega) o1 s hts hs o2⟩, e_b g2 (e_b k2 rfl)⟩
    · exact Or.inr ⟨fun h => k1 fun r _ hr o1 q hq hqK o2 => h.2 r q hq hqK o1 o2, e_b g2 (e_b k2 rfl)⟩
  · exact Or.inr ⟨fun h => g1 fun q _ hq o => h.1 q hq o, e_b g2 rfl⟩
theorem q_ro5 (hN : 60000 ≤ N) (hE : qE5 K sp a d Bj f3 f4 f36 f37 f38 f40) : q_X5_rolls N (nI K) (nI sp) f35 f36 f37 f38 f39 f40 = some (nI (ct (qRb K sp 0 a d f35 f38 f39 f40) (qP d K))) := by
  have hK := hE.1
  have hb : qP d K ≤ 46656 := qP_b hK (fun k hk => (hE.2.2.1 k hk).2.2.1) (Nat.le_refl _)
  have L : ∀ (m e : Nat), e ≤ qP d K → qP d K - e < m → q_X5_rolls_L4 N (nI K) (nI sp) f35 f36 f37 f38 f39 f40 m (nI (ct (qRb K sp 0 a d f35 f38 f39 f40) e)) (nI e) = some (nI (ct (qRb K sp 0 a d f35 f38 f39 f40) (qP d K))) := by
    intro m
    induction m with
    | zero => intro e _ h; omega
    | succ m ih =>
      intro e he hm
      rw [q_X5_rolls_L4]
      by_cases c : e = qP d K
      · rw [c]
        exact e_b (q_cod hN hE) (e_p (e_le (Nat.le_refl _) (by omega)) rfl)
      · have I := ih (e + 1) (by omega) (by omega)
        rcases q_ir (N := N) (e := e) (off := 0) (f35 := f35) (f39 := f39) hN hE (by omega) (by omega) with ⟨g1, g2⟩ | ⟨g1, g2⟩
        · rw [ct_1 (qRb_t.mpr g1)] at I
          exact e_b (q_cod hN hE) (e_n (e_nle (by omega) (by omega)) (e_b g2 (e_n e_10 (by rw [nI_1, nI_1]; exact I))))
        · rw [ct_0 (fun h => g1 (qRb_t.mp h))] at I
          exact e_b (q_cod hN hE) (e_n (e_nle (by omega) (by omega)) (e_b g2 (e_p rfl (by rw [nI_1]; exact I))))
  unfold q_X5_rolls
  exact e_b (L N 0 (Nat.zero_le _) (by omega)) rfl
end

/-! ===== pure rows: chariots, the loops ===== -/
def ch_e (f g : Nat → Int32) : Prop := ∀ k, k < 8 → f k = g k
def ch_st (x : Int32) : Prop := x = 0 ∨ x = 1 ∨ x = 2 ∨ x = 3
def ch_ok (K T : Nat) (dl : Nat → Nat) (f : Nat → Int32) : Prop := (∀ k, k < 8 → ch_st (f k)) ∧ ∀ k, k < K → f k = 1 → dl k < T
theorem ch_e_up {f g : Nat → Int32} {k : Nat} {x : Int32} (h : ch_e f g) : ch_e (upd f k x) (upd g k x) := fun j hj => by
  by_cases e : j = k
  · rw [e, pk_us, pk_us]
  · rw [pk_un e, pk_un e]
    exact h j hj
theorem ch_ok_up {K T k : Nat} {dl : Nat → Nat} {f : Nat → Int32} {x : Int32} (h : ch_ok K T dl f) (hx : ch_st x) (h1 : x = 1 → dl k < T) : ch_ok K T dl (upd f k x) := by
  refine ⟨fun j hj => ?_, fun j hj => ?_⟩
  · by_cases e : j = k
    · rw [e, pk_us]; exact hx
    · rw [pk_un e]; exact h.1 j hj
  · by_cases e : j = k
    · rw [e, pk_us]; exact h1
    · rw [pk_un e]; exact h.2 j hj
theorem ch_let {N K T : Nat} {dl : Nat → Nat} {d d' : Nat → Int32} (hK : K ≤ 8) (hT : T < 2 ^ 31) (hT1 : 1 ≤ T) (hd : ∀ k, k < 8 → d k = nI (dl k) ∧ dl k ≤ 20) (hdd : ch_e d d') : ∀ (m i : Nat) (f g : Nat → Int32), i ≤ K → K - i < m → ch_e f g → ch_ok K T dl f → ∃ F G : Nat → Int32, q_X2_letIn_L2 N (nI K) (nI T) d m (nI i) f = some F ∧ q_X5_run_L39 N (nI T) (nI K) d' m (nI i) g = some G ∧ ch_e F G ∧ ch_ok K T dl F := by
  intro m
  induction m with
  | zero => intro i f g _ h; omega
  | succ m ih =>
    intro i f g hi hm hfg hok
    rw [q_X2_letIn_L2, q_X5_run_L39, nI_1]
    by_cases h : i = K
    · subst h
      exact ⟨f, g, e_p (e_le (Nat.le_refl _) (by omega)) rfl, e_p (e_le (Nat.le_refl _) (by omega)) rfl, hfg, hok⟩
    · have hin : z_in (nI i) 8 := e_in (by omega) (by omega)
      have e1 := hfg i (by omega)
      have e2 := hdd i (by omega)
      have nle : ¬ nI K ≤ nI i := e_nle (by omega) (by omega)
      by_cases c1 : f i = 0
      · by_cases c2 : d i = nI T - 1
        · have hlt : dl i < T := by
            have h3 := (hd i (by omega)).1
            rw [c2, show nI T - 1 = nI (T - 1) from pk_sub (b := 1) hT1] at h3
            have := (nI_eq (a := T - 1) (b := dl i) (by omega) (by have := (hd i (by omega)).2; omega)).mp h3
            omega
          obtain ⟨F, G, i1, i2, i3, i4⟩ := ih (i + 1) (upd f i 1) (upd g i 1) (by omega) (by omega) (ch_e_up hfg) (ch_ok_up hok (Or.inr (Or.inl rfl)) (fun _ => hlt))
          refine ⟨F, G, e_n nle (e_p hin ?_), e_n nle (e_p hin ?_), i3, i4⟩
          · rw [e_cl (by omega)]; exact e_p c1 (e_p c2 i1)
          · rw [e_cl (by omega)]; exact e_p (e1 ▸ c1) (e_p (e2 ▸ c2) i2)
        · obtain ⟨F, G, i1, i2, i3, i4⟩ := ih (i + 1) f g (by omega) (by omega) hfg hok
          refine ⟨F, G, e_n nle (e_p hin ?_), e_n nle (e_p hin ?_), i3, i4⟩
          · rw [e_cl (by omega)]; exact e_p c1 (e_n c2 i1)
          · rw [e_cl (by omega)]; exact e_p (e1 ▸ c1) (e_n (e2 ▸ c2) i2)
      · obtain ⟨F, G, i1, i2, i3, i4⟩ := ih (i + 1) f g (by omega) (by omega) hfg hok
        refine ⟨F, G, e_n nle (e_p hin ?_), e_n nle (e_p hin ?_), i3, i4⟩
        · rw [e_cl (by omega)]; exact e_n c1 i1
        · rw [e_cl (by omega)]; exact e_n (e1 ▸ c1) i2
/-- the same cell -/
def ch_sh (K : Nat) (st ln ce : Nat → Int32) (k b : Nat) : Prop := b < K ∧ b ≠ k ∧ st b = 1 ∧ ln b = ln k ∧ ce b = ce k
def ch_P (K : Nat) (st ln ce : Nat → Int32) (k : Nat) : Prop := st k = 1 ∧ ∃ b, ch_sh K st ln ce k b
theorem ch_sc_L {N K k : Nat} {st ln ce : Nat → Int32} (hK : K ≤ 8) (hk : k < K) : ∀ (m i : Nat), i ≤ K → K - i < m → (∃ b, i ≤ b ∧ ch_sh K st ln ce k b) ∧ q_X2_sharesCell_L14 N (nI k) (nI K) ln ce st m (nI i) = some (Sum.inl 1) ∨ (¬ ∃ b, i ≤ b ∧ ch_sh K st ln ce k b) ∧ q_X2_sharesCell_L14 N (nI k) (nI K) ln ce st m (nI i) = some (Sum.inr ()) := by
  intro m
  induction m with
  | zero => intro i _ h; omega
  | succ m ih =>
    intro i hi hm
    rw [q_X2_sharesCell_L14, nI_1]
    by_cases h : i = K
    · subst h
      exact Or.inr ⟨fun ⟨b, h1, h2⟩ => by have := h2.1; omega, e_p (e_le (Nat.le_refl _) (by omega)) rfl⟩
    · have hin : z_in (nI i) 8 := e_in (by omega) (by omega)
      have hink : z_in (nI k) 8 := e_in (by omega) (by omega)
      have nle : ¬ nI K ≤ nI i := e_nle (by omega) (by omega)
      have go : ¬ ch_sh K st ln ce k i → (∀ x, q_X2_sharesCell_L14 N (nI k) (nI K) ln ce st m (nI (i + 1)) = x → (if nI K ≤ nI i then some (Sum.inr ()) else if nI i = nI k then q_X2_sharesCell_L14 N (nI k) (nI K) ln ce st m (nI (i + 1)) else if z_in (nI i) 8 then (if st (Int32.toNatClampNeg (nI i)) = 1 then (if z_in (nI k) 8 then (if ln (Int32.toNatClampNeg (nI i)) = ln (Int32.toNatClampNeg (nI k)) then (if ce (Int32.toNatClampNeg (nI i)) = ce (Int32.toNatClampNeg (nI k)) then some (Sum.inl 1) else q_X2_sharesCell_L14 N (nI k) (nI K) ln ce st m (nI (i + 1))) else q_X2_sharesCell_L14 N (nI k) (nI K) ln ce st m (nI (i + 1))) else none) else q_X2_sharesCell_L14 N (nI k) (nI K) ln ce st m (nI (i + 1))) else none) = x) := by
        intro hn x hx
        by_cases c0 : i = k
        · exact e_n nle (e_p (by rw [c0]) hx)
        · refine e_n nle (e_n (e_ne c0 (by omega) (by omega)) (e_p hin ?_))
          rw [if_pos hink, e_cl (n := i) (by omega), e_cl (n := k) (by omega)]
          by_cases c1 : st i = 1
          · refine e_p c1 ?_
            by_cases c2 : ln i = ln k
            · refine e_p c2 ?_
              by_cases c3 : ce i = ce k
              · exact absurd ⟨by omega, c0, c1, c2, c3⟩ hn
              · exact e_n c3 hx
            · exact e_n c2 hx
          · exact e_n c1 hx
      by_cases hs : ch_sh K st ln ce k i
      · refine Or.inl ⟨⟨i, Nat.le_refl _, hs⟩, ?_⟩
        obtain ⟨-, s2, s3, s4, s5⟩ := hs
        refine e_n nle (e_n (e_ne s2 (by omega) (by omega)) (e_p hin ?_))
        rw [if_pos hink, e_cl (n := i) (by omega), e_cl (n := k) (by omega)]
        exact e_p s3 (e_p s4 (e_p s5 rfl))
      · rcases ih (i + 1) (by omega) (by omega) with ⟨⟨b, b1, b2⟩, r⟩ | ⟨b1, r⟩
        · exact Or.inl ⟨⟨b, by omega, b2⟩, go hs _ r⟩
        · refine Or.inr ⟨fun ⟨b, h1, h2⟩ => ?_, go hs _ r⟩
          by_cases e : b = i
          · exact hs (e ▸ h2)
          · exact b1 ⟨b, by omega, h2⟩
theorem ch_sc {N K k : Nat} {st ln ce : Nat → Int32} (hN : 60 ≤ N) (hK : K ≤ 8) (hk : k < K) : (ch_P K st ln ce k ∧ q_X2_sharesCell N (nI k) (nI K) ln ce st = some 1) ∨ (¬ ch_P K st ln ce k ∧ q_X2_sharesCell N (nI k) (nI K) ln ce st = some 0) := by
  unfold q_X2_sharesCell
  have hink : z_in (nI k) 8 := e_in (by omega) (by omega)
  rw [if_pos hink, e_cl (by omega)]
  by_cases c : st k = 1
  · rcases ch_sc_L (N := N) (st := st) (ln := ln) (ce := ce) hK hk N 0 (Nat.zero_le _) (by omega) with ⟨⟨b, -, b2⟩, r⟩ | ⟨b1, r⟩
    · exact Or.inl ⟨⟨c, b, b2⟩, e_p c (e_b r rfl)⟩
    · exact Or.inr ⟨fun q => b1 (q.2.elim fun b hb => ⟨b, Nat.zero_le _, hb⟩), e_p c (e_b r rfl)⟩
  · exact Or.inr ⟨fun q => c q.1, e_n c rfl⟩
/-! bits -/
theorem bt_s1 : ∀ k : Fin 31, (((nI k.val).toUInt32 &&& Int32.toUInt32 31).toBitVec % 32).toNat = k.val := by decide +kernel
theorem bt_s2 : ∀ k : Fin 31, ((nI k.val &&& 31).toBitVec.smod 32).toNat = k.val := by decide +kernel
theorem bt_has {B k : Nat} (hB : B < 2 ^ 31) (hk : k < 31) : (z_ushr (nI B) (nI k) &&& 1) = nI (B / 2 ^ k % 2) := by
  have h1 : z_ushr (nI B) (nI k) = nI (B / 2 ^ k) := pk_ushrN (by omega) (nI k) k (bt_s1 ⟨k, hk⟩)
  have h2 : B / 2 ^ k ≤ B := Nat.div_le_self _ _
  rw [h1, pk_andN (by omega) (m := 1) 1 (by decide)]
theorem bt_shl {k : Nat} (hk : k < 31) : ((1 : Int32) <<< (nI k &&& 31)) = nI (2 ^ k) := by
  have h := pk_shlN (n := 1) (nI k &&& 31) k (bt_s2 ⟨k, hk⟩) (by have := Nat.pow_lt_pow_right (a := 2) (by omega) (show k < 32 by omega); omega)
  rw [Nat.one_mul] at h
  exact h
theorem bt_or {a b : Nat} (ha : a < 2 ^ 31) (hb : b < 2 ^ 31) : nI a ||| nI b = nI (a ||| b) := by
  apply Int32.toBitVec_inj.mp
  show (Int32.ofNat a ||| Int32.ofNat b).toBitVec = (Int32.ofNat (a ||| b)).toBitVec
  simp [Int32.toBitVec_or, Int32.toBitVec_ofNat', BitVec.ofNat_or]
theorem bt_hasBit {N B k : Nat} (hB : B < 2 ^ 31) (hk : k < 31) : q_X4_hasBit N (nI B) (nI k) = some (if B.testBit k then 1 else 0) := by
  have h := bt_has hB hk
  have ht : B.testBit k = decide (B / 2 ^ k % 2 = 1) := Nat.testBit_eq_decide_div_mod_eq
  by_cases c : B / 2 ^ k % 2 = 1
  · rw [ht, decide_eq_true c, if_pos rfl]
    exact q_hasBit_1 (by rw [h, c]; decide)
  · rw [ht, decide_eq_false c, if_neg (by decide)]
    exact q_hasBit_0 (by rw [h, show B / 2 ^ k % 2 = 0 by omega]; rfl)

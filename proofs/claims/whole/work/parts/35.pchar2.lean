/-! ===== pure rows: chariots, the crash ===== -/
theorem ch_cr4 {N K : Nat} {st ln ce : Nat → Int32} (hN : 60 ≤ N) (hK : K ≤ 8) : ∀ (m i B : Nat), i ≤ K → K - i < m → B < 2 ^ i → (∀ k, k < i → (B.testBit k = true ↔ ch_P K st ln ce k)) → ∃ B' : Nat, B' < 2 ^ 8 ∧ (∀ k, k < K → (B'.testBit k = true ↔ ch_P K st ln ce k)) ∧ q_X2_crash_L4 N (nI K) ln ce st m (nI B) (nI i) = some (nI B') := by
  intro m
  induction m with
  | zero => intro i B _ h; omega
  | succ m ih =>
    intro i B hi hm hB hb
    have h28 : 2 ^ i ≤ 2 ^ 8 := Nat.pow_le_pow_right (by omega) (by omega)
    rw [q_X2_crash_L4, nI_1]
    by_cases h : i = K
    · subst h
      exact ⟨B, by omega, hb, e_p (e_le (Nat.le_refl _) (by omega)) rfl⟩
    · have nle : ¬ nI K ≤ nI i := e_nle (by omega) (by omega)
      have h2i : 2 ^ (i + 1) = 2 * 2 ^ i := by rw [Nat.pow_succ]; omega
      have h2K : 2 ^ i ≤ 128 := by
        have : 2 ^ i ≤ 2 ^ 7 := Nat.pow_le_pow_right (by omega) (by omega)
        omega
      rcases ch_sc (N := N) (st := st) (ln := ln) (ce := ce) (k := i) hN hK (by omega) with ⟨p, r⟩ | ⟨p, r⟩
      · obtain ⟨B', b1, b2, b3⟩ := ih (i + 1) (B ||| 2 ^ i) (by omega) (by omega) (Nat.or_lt_two_pow (by omega) (by omega)) (fun k hk => by
          rw [Nat.testBit_or, Nat.testBit_two_pow]
          by_cases e : k = i
          · subst e
            simp [p]
          · have e2 : ¬ i = k := fun q => e q.symm
            simp only [e2, decide_false, Bool.or_false]
            exact hb k (by omega))
        refine ⟨B', b1, b2, e_n nle (e_b r (e_n e_10 ?_))⟩
        rw [bt_shl (by omega), bt_or (by omega) (by omega)]
        exact b3
      · obtain ⟨B', b1, b2, b3⟩ := ih (i + 1) B (by omega) (by omega) (by omega) (fun k hk => by
          by_cases e : k = i
          · subst e
            have : B.testBit k = false := Nat.testBit_lt_two_pow hB
            rw [this]
            exact ⟨fun q => Bool.noConfusion q, fun q => absurd q p⟩
          · exact hb k (by omega))
        exact ⟨B', b1, b2, e_n nle (e_b r (e_p rfl b3))⟩
theorem ch_cr34 {N K T B : Nat} (hK : K ≤ 8) (hB : B < 2 ^ 8) : ∀ (m i : Nat) (f4 f5 : Nat → Int32), i ≤ K → K - i < m → ∃ F4 F5 : Nat → Int32, q_X2_crash_L34 N (nI B) (nI K) (nI T) m (nI i) f4 f5 = some (F4, F5) ∧ ∀ k, (i ≤ k ∧ k < K ∧ B.testBit k = true → F4 k = 3 ∧ F5 k = nI T) ∧ (¬ (i ≤ k ∧ k < K ∧ B.testBit k = true) → F4 k = f4 k ∧ F5 k = f5 k) := by
  intro m
  induction m with
  | zero => intro i f4 f5 _ h; omega
  | succ m ih =>
    intro i f4 f5 hi hm
    rw [q_X2_crash_L34, nI_1]
    by_cases h : i = K
    · subst h
      exact ⟨f4, f5, e_p (e_le (Nat.le_refl _) (by omega)) rfl, fun k => ⟨fun q => by omega, fun _ => ⟨rfl, rfl⟩⟩⟩
    · have nle : ¬ nI K ≤ nI i := e_nle (by omega) (by omega)
      have hin : z_in (nI i) 8 := e_in (by omega) (by omega)
      have hb := bt_hasBit (N := N) (B := B) (k := i) (by omega) (by omega)
      by_cases c : B.testBit i = true
      · rw [c, if_pos rfl] at hb
        obtain ⟨F4, F5, i1, i2⟩ := ih (i + 1) (upd f4 i 3) (upd f5 i (nI T)) (by omega) (by omega)
        refine ⟨F4, F5, e_n nle (e_b hb (e_n e_10 (e_p hin ?_))), fun k => ⟨fun q => ?_, fun q => ?_⟩⟩
        · rw [e_cl (by omega)]; exact i1
        · by_cases e : k = i
          · subst e
            have := (i2 k).2 (by omega)
            rw [this.1, this.2]
            exact ⟨pk_us, pk_us⟩
          · exact (i2 k).1 ⟨by omega, q.2⟩
        · have hne : k ≠ i := fun e => q (by subst e; exact ⟨Nat.le_refl _, by omega, c⟩)
          have := (i2 k).2 (fun z => q ⟨by omega, z.2⟩)
          rw [this.1, this.2]
          exact ⟨pk_un hne, pk_un hne⟩
      · rw [if_neg c] at hb
        obtain ⟨F4, F5, i1, i2⟩ := ih (i + 1) f4 f5 (by omega) (by omega)
        refine ⟨F4, F5, e_n nle (e_b hb (e_p rfl i1)), fun k => ⟨fun q => ?_, fun q => ?_⟩⟩
        · have hne : k ≠ i := fun e => c (by rw [← e]; exact q.2.2)
          exact (i2 k).1 ⟨by omega, q.2⟩
        · exact (i2 k).2 (fun z => q ⟨by omega, z.2⟩)
/-- what a crash makes of the states and ticks -/
def ch_cs (K T : Nat) (st ln ce en F4 F5 : Nat → Int32) : Prop := ∀ k, k < 8 → (k < K ∧ ch_P K st ln ce k → F4 k = 3 ∧ F5 k = nI T) ∧ (¬ (k < K ∧ ch_P K st ln ce k) → F4 k = st k ∧ F5 k = en k)
theorem ch_crash1 {N K T : Nat} {st ln ce en : Nat → Int32} (hN : 60 ≤ N) (hK : K ≤ 8) : ∃ F4 F5 : Nat → Int32, q_X2_crash N (nI K) (nI T) ln ce st en = some (F4, F5) ∧ ch_cs K T st ln ce en F4 F5 := by
  obtain ⟨B, b1, b2, b3⟩ := ch_cr4 (N := N) (st := st) (ln := ln) (ce := ce) hN hK N 0 0 (Nat.zero_le _) (by omega) (by decide) (fun k hk => by omega)
  obtain ⟨F4, F5, c1, c2⟩ := ch_cr34 (N := N) (T := T) hK b1 N 0 st en (Nat.zero_le _) (by omega)
  refine ⟨F4, F5, ?_, fun k hk => ⟨fun q => (c2 k).1 ⟨Nat.zero_le _, q.1, (b2 k q.1).mpr q.2⟩, fun q => (c2 k).2 (fun z => q ⟨z.2.1, (b2 k z.2.1).mp z.2.2⟩)⟩⟩
  unfold q_X2_crash
  exact e_b b3 (e_b c1 rfl)
theorem ch_m27_1 {N K k : Nat} {g ln ce : Nat → Int32} (hK : K ≤ 8) : ∀ (m i : Nat), i ≤ K → K - i < m → q_X5_crash_L27 N (nI k) (nI K) g ln ce m 1 (nI i) = some 1 := by
  intro m
  induction m with
  | zero => intro i _ h; omega
  | succ m ih =>
    intro i hi hm
    rw [q_X5_crash_L27, nI_1]
    by_cases h : i = K
    · subst h
      exact e_p (e_le (Nat.le_refl _) (by omega)) rfl
    · exact e_n (e_nle (by omega) (by omega)) (e_n e_10 (ih (i + 1) (by omega) (by omega)))
theorem ch_m27_0 {N K k : Nat} {g st ln ce : Nat → Int32} (hK : K ≤ 8) (hk : k < K) (hg : ∀ b, b < 8 → (st b = 1 ∧ (g b = 1 ∨ g b = 4)) ∨ (st b ≠ 1 ∧ g b ≠ 1 ∧ g b ≠ 4)) : ∀ (m i : Nat), i ≤ K → K - i < m → (∃ b, i ≤ b ∧ ch_sh K st ln ce k b) ∧ q_X5_crash_L27 N (nI k) (nI K) g ln ce m 0 (nI i) = some 1 ∨ (¬ ∃ b, i ≤ b ∧ ch_sh K st ln ce k b) ∧ q_X5_crash_L27 N (nI k) (nI K) g ln ce m 0 (nI i) = some 0 := by
  intro m
  induction m with
  | zero => intro i _ h; omega
  | succ m ih =>
    intro i hi hm
    rw [q_X5_crash_L27, nI_1]
    by_cases h : i = K
    · subst h
      exact Or.inr ⟨fun ⟨b, h1, h2⟩ => by have := h2.1; omega, e_p (e_le (Nat.le_refl _) (by omega)) rfl⟩
    · have hin : z_in (nI i) 8 := e_in (by omega) (by omega)
      have hink : z_in (nI k) 8 := e_in (by omega) (by omega)
      have nle : ¬ nI K ≤ nI i := e_nle (by omega) (by omega)
      have h1K := ch_m27_1 (N := N) (k := k) (g := g) (ln := ln) (ce := ce) hK m (i + 1) (by omega) (by omega)
      rw [if_pos hink, e_cl (n := k) (by omega)]
      by_cases c0 : i = k
      · have hs : ¬ ch_sh K st ln ce k i := fun q => q.2.1 c0
        rcases ih (i + 1) (by omega) (by omega) with ⟨⟨b, b1, b2⟩, r⟩ | ⟨b1, r⟩
        · exact Or.inl ⟨⟨b, by omega, b2⟩, e_n nle (e_p rfl (e_p (by rw [c0]) r))⟩
        · refine Or.inr ⟨fun ⟨b, h1, h2⟩ => ?_, e_n nle (e_p rfl (e_p (by rw [c0]) r))⟩
          by_cases e : b = i
          · exact hs (e ▸ h2)
          · exact b1 ⟨b, by omega, h2⟩
      · have hne : ¬ nI i = nI k := e_ne c0 (by omega) (by omega)
        rw [if_neg nle, if_pos rfl, if_neg hne, if_pos hin, e_cl (n := i) (by omega)]
        have fin : ∀ (X : Option Int32), (ch_sh K st ln ce k i ∧ X = some 1) ∨ (¬ ch_sh K st ln ce k i ∧ X = q_X5_crash_L27 N (nI k) (nI K) g ln ce m 0 (nI (i + 1))) → (∃ b, i ≤ b ∧ ch_sh K st ln ce k b) ∧ X = some 1 ∨ (¬ ∃ b, i ≤ b ∧ ch_sh K st ln ce k b) ∧ X = some 0 := by
          intro X hX
          rcases hX with ⟨x1, x2⟩ | ⟨x1, x2⟩
          · exact Or.inl ⟨⟨i, Nat.le_refl _, x1⟩, x2⟩
          · rcases ih (i + 1) (by omega) (by omega) with ⟨⟨b, b1, b2⟩, r⟩ | ⟨b1, r⟩
            · exact Or.inl ⟨⟨b, by omega, b2⟩, x2.trans r⟩
            · refine Or.inr ⟨fun ⟨b, h1, h2⟩ => ?_, x2.trans r⟩
              by_cases e : b = i
              · exact x1 (e ▸ h2)
              · exact b1 ⟨b, by omega, h2⟩
        apply fin
        rcases hg i (by omega) with ⟨s1, s2⟩ | ⟨s1, s2, s3⟩
        · have tail : (ch_sh K st ln ce k i ∧ (if ln i = ln k then (if ce i = ce k then q_X5_crash_L27 N (nI k) (nI K) g ln ce m 1 (nI (i + 1)) else q_X5_crash_L27 N (nI k) (nI K) g ln ce m 0 (nI (i + 1))) else q_X5_crash_L27 N (nI k) (nI K) g ln ce m 0 (nI (i + 1))) = some 1) ∨ (¬ ch_sh K st ln ce k i ∧ (if ln i = ln k then (if ce i = ce k then q_X5_crash_L27 N (nI k) (nI K) g ln ce m 1 (nI (i + 1)) else q_X5_crash_L27 N (nI k) (nI K) g ln ce m 0 (nI (i + 1))) else q_X5_crash_L27 N (nI k) (nI K) g ln ce m 0 (nI (i + 1))) = q_X5_crash_L27 N (nI k) (nI K) g ln ce m 0 (nI (i + 1))) := by
            by_cases c2 : ln i = ln k
            · by_cases c3 : ce i = ce k
              · exact Or.inl ⟨⟨by omega, c0, s1, c2, c3⟩, e_p c2 (e_p c3 h1K)⟩
              · exact Or.inr ⟨fun q => c3 q.2.2.2.2, e_p c2 (e_n c3 rfl)⟩
            · exact Or.inr ⟨fun q => c2 q.2.2.2.1, e_n c2 rfl⟩
          rcases s2 with s2 | s2
          · rw [if_pos s2]; exact tail
          · have : ¬ g i = 1 := by rw [s2]; decide
            rw [if_neg this, if_pos s2]; exact tail
        · exact Or.inr ⟨fun q => s1 q.2.2.1, e_n s2 (e_n s3 rfl)⟩
/-- the marks of the first i -/
def ch_mk (K i : Nat) (st ln ce g : Nat → Int32) : Prop := ∀ b, b < 8 → (b < i ∧ ch_P K st ln ce b → g b = 4) ∧ (¬ (b < i ∧ ch_P K st ln ce b) → g b = st b)
theorem ch_st4 {x : Int32} (h : ch_st x) : x ≠ 4 := by
  rcases h with rfl | rfl | rfl | rfl <;> decide
theorem ch_m2 {N K : Nat} {st ln ce : Nat → Int32} (hN : 60 ≤ N) (hK : K ≤ 8) (hst : ∀ k, k < 8 → ch_st (st k)) : ∀ (m i : Nat) (g : Nat → Int32), i ≤ K → K - i < m → ch_mk K i st ln ce g → ∃ G : Nat → Int32, q_X5_crash_L2 N (nI K) ln ce m (nI i) g = some G ∧ ch_mk K K st ln ce G := by
  intro m
  induction m with
  | zero => intro i g _ h; omega
  | succ m ih =>
    intro i g hi hm hg
    rw [q_X5_crash_L2, nI_1]
    by_cases h : i = K
    · subst h
      exact ⟨g, e_p (e_le (Nat.le_refl _) (by omega)) rfl, hg⟩
    · have hin : z_in (nI i) 8 := e_in (by omega) (by omega)
      have nle : ¬ nI K ≤ nI i := e_nle (by omega) (by omega)
      have gi : g i = st i := (hg i (by omega)).2 (fun q => by omega)
      have stay : ¬ ch_P K st ln ce i → ch_mk K (i + 1) st ln ce g := fun hp b hb => by
        refine ⟨fun q => ?_, fun q => ?_⟩
        · have hne : b ≠ i := fun e => hp (e ▸ q.2)
          exact (hg b hb).1 ⟨by omega, q.2⟩
        · exact (hg b hb).2 (fun z => q ⟨by omega, z.2⟩)
      rw [if_neg nle, if_pos hin, e_cl (by omega)]
      by_cases c1 : st i = 1
      · have hrel : ∀ b, b < 8 → (st b = 1 ∧ (g b = 1 ∨ g b = 4)) ∨ (st b ≠ 1 ∧ g b ≠ 1 ∧ g b ≠ 4) := fun b hb => by
          by_cases s1 : st b = 1
          · refine Or.inl ⟨s1, ?_⟩
            by_cases q : b < i ∧ ch_P K st ln ce b
            · exact Or.inr ((hg b hb).1 q)
            · exact Or.inl ((hg b hb).2 q ▸ s1)
          · have hq : ¬ (b < i ∧ ch_P K st ln ce b) := fun q => s1 q.2.1
            have e := (hg b hb).2 hq
            refine Or.inr ⟨s1, ?_, ?_⟩
            · rw [e]; exact s1
            · rw [e]; exact ch_st4 (hst b hb)
        rw [if_pos (gi.trans c1)]
        rcases ch_m27_0 (N := N) (g := g) (ln := ln) (ce := ce) (k := i) hK (by omega) hrel N 0 (Nat.zero_le _) (by omega) with ⟨⟨b, -, b2⟩, r⟩ | ⟨b1, r⟩
        · have hp : ch_P K st ln ce i := ⟨c1, b, b2⟩
          obtain ⟨G, g1, g2⟩ := ih (i + 1) (upd g i 4) (by omega) (by omega) (fun b hb => by
            refine ⟨fun q => ?_, fun q => ?_⟩
            · by_cases e : b = i
              · rw [e, pk_us]
              · rw [pk_un e]; exact (hg b hb).1 ⟨by omega, q.2⟩
            · have hne : b ≠ i := fun e => q ⟨by omega, e ▸ hp⟩
              rw [pk_un hne]
              exact (hg b hb).2 (fun z => q ⟨by omega, z.2⟩))
          exact ⟨G, e_b r (e_n e_10 g1), g2⟩
        · have hp : ¬ ch_P K st ln ce i := fun q => b1 (q.2.elim fun b hb => ⟨b, Nat.zero_le _, hb⟩)
          obtain ⟨G, g1, g2⟩ := ih (i + 1) g (by omega) (by omega) (stay hp)
          exact ⟨G, e_b r (e_p rfl g1), g2⟩
      · obtain ⟨G, g1, g2⟩ := ih (i + 1) g (by omega) (by omega) (stay (fun q => c1 q.1))
        exact ⟨G, e_n (fun q => c1 (gi ▸ q)) g1, g2⟩
theorem ch_m125 {N K T : Nat} (hK : K ≤ 8) : ∀ (m i : Nat) (g h5 : Nat → Int32), i ≤ K → K - i < m → ∃ G H5 : Nat → Int32, q_X5_crash_L125 N (nI T) (nI K) m (nI i) g h5 = some (G, H5) ∧ ∀ k, (i ≤ k ∧ k < K ∧ g k = 4 → G k = 3 ∧ H5 k = nI T) ∧ (¬ (i ≤ k ∧ k < K ∧ g k = 4) → G k = g k ∧ H5 k = h5 k) := by
  intro m
  induction m with
  | zero => intro i g h5 _ h; omega
  | succ m ih =>
    intro i g h5 hi hm
    rw [q_X5_crash_L125, nI_1]
    by_cases h : i = K
    · subst h
      exact ⟨g, h5, e_p (e_le (Nat.le_refl _) (by omega)) rfl, fun k => ⟨fun q => by omega, fun _ => ⟨rfl, rfl⟩⟩⟩
    · have nle : ¬ nI K ≤ nI i := e_nle (by omega) (by omega)
      have hin : z_in (nI i) 8 := e_in (by omega) (by omega)
      rw [if_neg nle, if_pos hin, e_cl (by omega)]
      by_cases c : g i = 4
      · obtain ⟨G, H5, i1, i2⟩ := ih (i + 1) (upd g i 3) (upd h5 i (nI T)) (by omega) (by omega)
        refine ⟨G, H5, e_p c i1, fun k => ⟨fun q => ?_, fun q => ?_⟩⟩
        · by_cases e : k = i
          · subst e
            have := (i2 k).2 (fun z => by omega)
            rw [this.1, this.2]
            exact ⟨pk_us, pk_us⟩
          · exact (i2 k).1 ⟨by omega, q.2.1, by rw [pk_un e]; exact q.2.2⟩
        · have hne : k ≠ i := fun e => q (by subst e; exact ⟨Nat.le_refl _, by omega, c⟩)
          have := (i2 k).2 (fun z => q ⟨by omega, z.2.1, by have := z.2.2; rw [pk_un hne] at this; exact this⟩)
          rw [this.1, this.2]
          exact ⟨pk_un hne, pk_un hne⟩
      · obtain ⟨G, H5, i1, i2⟩ := ih (i + 1) g h5 (by omega) (by omega)
        refine ⟨G, H5, e_n c i1, fun k => ⟨fun q => ?_, fun q => ?_⟩⟩
        · have hne : k ≠ i := fun e => c (by rw [← e]; exact q.2.2)
          exact (i2 k).1 ⟨by omega, q.2⟩
        · exact (i2 k).2 (fun z => q ⟨by omega, z.2⟩)
theorem ch_crash2 {N K T : Nat} {st ln ce en : Nat → Int32} (hN : 60 ≤ N) (hK : K ≤ 8) (hst : ∀ k, k < 8 → ch_st (st k)) : ∃ G H5 : Nat → Int32, q_X5_crash N (nI T) (nI K) st ln ce en = some (G, H5) ∧ ch_cs K T st ln ce en G H5 := by
  obtain ⟨g, g1, g2⟩ := ch_m2 (N := N) (ln := ln) (ce := ce) hN hK hst N 0 st (Nat.zero_le _) (by omega) (fun b _ => ⟨fun q => by omega, fun _ => rfl⟩)
  obtain ⟨G, H5, h1, h2⟩ := ch_m125 (N := N) (T := T) hK N 0 g en (Nat.zero_le _) (by omega)
  refine ⟨G, H5, ?_, fun k hk => ⟨fun q => (h2 k).1 ⟨Nat.zero_le _, q.1, (g2 k hk).1 q⟩, fun q => ?_⟩⟩
  · unfold q_X5_crash
    exact e_b g1 (e_b h1 rfl)
  · have e := (g2 k hk).2 q
    have := (h2 k).2 (fun z => ch_st4 (hst k hk) (e ▸ z.2.2))
    rw [this.1, this.2]
    exact ⟨e, rfl⟩
theorem ch_P_e {K k : Nat} {st ln ce st' ln' ce' : Nat → Int32} (hK : K ≤ 8) (hk : k < K) (h1 : ch_e st st') (h2 : ch_e ln ln') (h3 : ch_e ce ce') (h : ch_P K st ln ce k) : ch_P K st' ln' ce' k := by
  obtain ⟨p1, b, b1, b2, b3, b4, b5⟩ := h
  exact ⟨(h1 k (by omega)) ▸ p1, b, b1, b2, (h1 b (by omega)) ▸ b3, by rw [← h2 b (by omega), ← h2 k (by omega)]; exact b4, by rw [← h3 b (by omega), ← h3 k (by omega)]; exact b5⟩
theorem ch_e_s {f g : Nat → Int32} (h : ch_e f g) : ch_e g f := fun k hk => (h k hk).symm
/-- both crash alike -/
theorem ch_crash {N K T : Nat} {dl : Nat → Nat} {st ln ce en st' ln' ce' en' : Nat → Int32} (hN : 60 ≤ N) (hK : K ≤ 8) (hok : ch_ok K T dl st) (h1 : ch_e st st') (h2 : ch_e ln ln') (h3 : ch_e ce ce') (h4 : ch_e en en') : ∃ F4 F5 G4 G5 : Nat → Int32, q_X2_crash N (nI K) (nI T) ln ce st en = some (F4, F5) ∧ q_X5_crash N (nI T) (nI K) st' ln' ce' en' = some (G4, G5) ∧ ch_e F4 G4 ∧ ch_e F5 G5 ∧ ch_ok K T dl F4 := by
  obtain ⟨F4, F5, f1, f2⟩ := ch_crash1 (N := N) (T := T) (st := st) (ln := ln) (ce := ce) (en := en) hN hK
  obtain ⟨G4, G5, g1, g2⟩ := ch_crash2 (N := N) (T := T) (st := st') (ln := ln') (ce := ce') (en := en') hN hK (fun k hk => h1 k hk ▸ hok.1 k hk)
  have tr : ∀ k, k < 8 → (k < K ∧ ch_P K st ln ce k) → (k < K ∧ ch_P K st' ln' ce' k) := fun k _ q => ⟨q.1, ch_P_e hK q.1 h1 h2 h3 q.2⟩
  have rt : ∀ k, k < 8 → (k < K ∧ ch_P K st' ln' ce' k) → (k < K ∧ ch_P K st ln ce k) := fun k _ q => ⟨q.1, ch_P_e hK q.1 (ch_e_s h1) (ch_e_s h2) (ch_e_s h3) q.2⟩
  refine ⟨F4, F5, G4, G5, f1, g1, fun k hk => ?_, fun k hk => ?_, fun k hk => ?_, fun k hk h => ?_⟩
  · by_cases q : k < K ∧ ch_P K st ln ce k
    · rw [((f2 k hk).1 q).1, ((g2 k hk).1 (tr k hk q)).1]
    · rw [((f2 k hk).2 q).1, ((g2 k hk).2 (fun z => q (rt k hk z))).1]
      exact h1 k hk
  · by_cases q : k < K ∧ ch_P K st ln ce k
    · rw [((f2 k hk).1 q).2, ((g2 k hk).1 (tr k hk q)).2]
    · rw [((f2 k hk).2 q).2, ((g2 k hk).2 (fun z => q (rt k hk z))).2]
      exact h4 k hk
  · by_cases q : k < K ∧ ch_P K st ln ce k
    · rw [((f2 k hk).1 q).1]
      exact Or.inr (Or.inr (Or.inr rfl))
    · rw [((f2 k hk).2 q).1]
      exact hok.1 k hk
  · by_cases q : k < K ∧ ch_P K st ln ce k
    · rw [((f2 k (by omega)).1 q).1] at h
      exact absurd h (by decide)
    · rw [((f2 k (by omega)).2 q).1] at h
      exact hok.2 k hk h

/-! ===== pure rows: five in one, an event ===== -/
theorem fv_bit : ∀ S : Fin 16, ∀ d : Fin 4, (((z_ushr (nI S.val) (nI d.val) &&& 1) = 0 ∧ ((nI S.val >>> (nI d.val &&& 31)) &&& 1) = 0) ∨ ((z_ushr (nI S.val) (nI d.val) &&& 1) = 1 ∧ ((nI S.val >>> (nI d.val &&& 31)) &&& 1) = 1)) ∧ (Int32.toNatClampNeg (nI S.val ||| ((1 : Int32) <<< (nI d.val &&& 31)))) < 16 ∧ nI (Int32.toNatClampNeg (nI S.val ||| ((1 : Int32) <<< (nI d.val &&& 31)))) = (nI S.val ||| ((1 : Int32) <<< (nI d.val &&& 31))) := by decide +kernel
def fv_dg (n : Nat) : Nat → Nat → Prop
  | 0, _ => True
  | c + 1, V => V % 10 < n ∧ fv_dg n c (V / 10)
theorem q_hasBit_0 {N : Nat} {x y : Int32} (h : (z_ushr x y &&& 1) = 0) : q_X4_hasBit N x y = some 0 := by
  unfold q_X4_hasBit
  exact e_p h rfl
theorem q_hasBit_1 {N : Nat} {x y : Int32} (h : ¬ (z_ushr x y &&& 1) = 0) : q_X4_hasBit N x y = some 1 := by
  unfold q_X4_hasBit
  exact e_n h rfl
theorem q_hasBit_t {N : Nat} (x y : Int32) : q_X4_hasBit N x y = some 0 ∨ q_X4_hasBit N x y = some 1 := by
  by_cases h : (z_ushr x y &&& 1) = 0
  · exact Or.inl (q_hasBit_0 h)
  · exact Or.inr (q_hasBit_1 h)
theorem fv_ord_L {N n : Nat} {x16 : Int32} {f17 f18 : Nat → Int32} (hn : n ≤ 4) : ∀ (m i S V : Nat), i ≤ n → n - i < m → S < 16 → V < 2 ^ 31 → (∃ Z : Nat, Z < 2 ^ 31 ∧ q_X0_isOrder_L7 N (nI n) m (nI V) (nI S) (nI i) = some (Sum.inr (nI Z)) ∧ q_X5_event_L28 N (nI n) x16 f17 f18 m (nI V) (nI S) (nI i) = some (Sum.inr (nI Z)) ∧ fv_dg n (n - i) V) ∨ (q_X0_isOrder_L7 N (nI n) m (nI V) (nI S) (nI i) = some (Sum.inl 0) ∧ q_X5_event_L28 N (nI n) x16 f17 f18 m (nI V) (nI S) (nI i) = some (Sum.inl ((-1), x16, f17, f18))) := by
  intro m
  induction m with
  | zero => intro i S V _ h; omega
  | succ m ih =>
    intro i S V hi hm hS hV
    have hr : z_rem (nI V) 10 = nI (V % 10) := e_rem (d := 10) hV (by omega) (by omega)
    have hq : nI V / 10 = nI (V / 10) := e_div (d := 10) hV (by omega) (by omega)
    rw [q_X0_isOrder_L7, q_X5_event_L28, hr, hq, nI_1]
    by_cases h : i = n
    · subst h
      refine Or.inl ⟨V, hV, e_p (e_le (Nat.le_refl _) (by omega)) rfl, e_p (e_le (Nat.le_refl _) (by omega)) rfl, ?_⟩
      rw [Nat.sub_self]
      exact trivial
    · by_cases d : n ≤ V % 10
      · refine Or.inr ⟨?_, ?_⟩
        · exact e_n (e_nle (by omega) (by omega)) (e_n (nI_pos (by omega)) (e_p (e_le d (by omega)) rfl))
        · exact e_n (e_nle (by omega) (by omega)) (e_p (e_le d (by omega)) rfl)
      · obtain ⟨b1, b2, b3⟩ := fv_bit ⟨S, hS⟩ ⟨V % 10, by omega⟩
        generalize hT : Int32.toNatClampNeg (nI S ||| ((1 : Int32) <<< (nI (V % 10) &&& 31))) = T at b2 b3
        have b3 : nI T = (nI S ||| ((1 : Int32) <<< (nI (V % 10) &&& 31))) := b3
        rw [← b3]
        rcases b1 with ⟨c1, c2⟩ | ⟨c1, c2⟩
        · have c1 : (z_ushr (nI S) (nI (V % 10)) &&& 1) = 0 := c1
          have c2 : ((nI S >>> (nI (V % 10) &&& 31)) &&& 1) = 0 := c2
          have hc2 : ¬ ((nI S >>> (nI (V % 10) &&& 31)) &&& 1) = 1 := by rw [c2]; decide
          rcases ih (i + 1) T (V / 10) (by omega) (by omega) b2 (by omega) with ⟨Z, z1, z2, z3, z4⟩ | ⟨z1, z2⟩
          · refine Or.inl ⟨Z, z1, ?_, ?_, ?_⟩
            · exact e_n (e_nle (by omega) (by omega)) (e_n (nI_pos (by omega)) (e_n (e_nle (by omega) (by omega)) (e_b (q_hasBit_0 c1) (e_p rfl z2))))
            · exact e_n (e_nle (by omega) (by omega)) (e_n (e_nle (by omega) (by omega)) (e_n hc2 z3))
            · rw [show n - i = (n - (i + 1)) + 1 by omega]
              exact ⟨by omega, z4⟩
          · refine Or.inr ⟨?_, ?_⟩
            · exact e_n (e_nle (by omega) (by omega)) (e_n (nI_pos (by omega)) (e_n (e_nle (by omega) (by omega)) (e_b (q_hasBit_0 c1) (e_p rfl z1))))
            · exact e_n (e_nle (by omega) (by omega)) (e_n (e_nle (by omega) (by omega)) (e_n hc2 z2))
        · have c1 : (z_ushr (nI S) (nI (V % 10)) &&& 1) = 1 := c1
          have c2 : ((nI S >>> (nI (V % 10) &&& 31)) &&& 1) = 1 := c2
          have hc1 : ¬ (z_ushr (nI S) (nI (V % 10)) &&& 1) = 0 := by rw [c1]; decide
          refine Or.inr ⟨?_, ?_⟩
          · exact e_n (e_nle (by omega) (by omega)) (e_n (nI_pos (by omega)) (e_n (e_nle (by omega) (by omega)) (e_b (q_hasBit_1 hc1) (e_n e_10 rfl))))
          · exact e_n (e_nle (by omega) (by omega)) (e_n (e_nle (by omega) (by omega)) (e_p c2 rfl))
theorem fv_ord_T {N n : Nat} (hn : n ≤ 4) : ∀ (m i : Nat) (v2 v3 : Int32), i ≤ n → n - i < m → ∃ r : Sum Int32 Int32, q_X0_isOrder_L7 N (nI n) m v2 v3 (nI i) = some r ∧ ∀ t, r = Sum.inl t → t = 0 := by
  intro m
  induction m with
  | zero => intro i v2 v3 _ h; omega
  | succ m ih =>
    intro i v2 v3 hi hm
    rw [q_X0_isOrder_L7, nI_1]
    by_cases h : i = n
    · subst h
      exact ⟨Sum.inr v2, e_p (e_le (Nat.le_refl _) (by omega)) rfl, fun t ht => by cases ht⟩
    · by_cases c1 : z_rem v2 10 < 0
      · exact ⟨Sum.inl 0, e_n (e_nle (by omega) (by omega)) (e_p c1 rfl), fun t ht => by cases ht; rfl⟩
      · by_cases c2 : nI n ≤ z_rem v2 10
        · exact ⟨Sum.inl 0, e_n (e_nle (by omega) (by omega)) (e_n c1 (e_p c2 rfl)), fun t ht => by cases ht; rfl⟩
        · rcases q_hasBit_t (N := N) v3 (z_rem v2 10) with hb | hb
          · obtain ⟨r, r1, r2⟩ := ih (i + 1) (v2 / 10) (v3 ||| ((1 : Int32) <<< ((z_rem v2 10) &&& 31))) (by omega) (by omega)
            exact ⟨r, e_n (e_nle (by omega) (by omega)) (e_n c1 (e_n c2 (e_b hb (e_p rfl r1)))), r2⟩
          · exact ⟨Sum.inl 0, e_n (e_nle (by omega) (by omega)) (e_n c1 (e_n c2 (e_b hb (e_n e_10 rfl)))), fun t ht => by cases ht; rfl⟩
theorem fv_num_up {n d p : Nat} {w s : Nat → Nat} {f g : Nat → Int32} (hf : fv_num n w s f g) : fv_num n w (fun j => if j = d then s j + p else s j) f (upd g d (nI (s d + p))) := fun k hk => by
  refine ⟨(hf k hk).1, ?_⟩
  by_cases e : k = d
  · subst e
    rw [pk_us]
    exact congrArg nI (if_pos rfl).symm
  · rw [pk_un e, (hf k hk).2]
    exact congrArg nI (if_neg e).symm
theorem fv_num_upw {n d : Nat} {w s : Nat → Nat} {f g : Nat → Int32} (hf : fv_num n w s f g) : fv_num n (fun j => if j = d then w j + 1 else w j) s (upd f d (nI (w d + 1))) g := fun k hk => by
  refine ⟨?_, (hf k hk).2⟩
  by_cases e : k = d
  · subst e
    rw [pk_us]
    exact congrArg nI (if_pos rfl).symm
  · rw [pk_un e, (hf k hk).1]
    exact congrArg nI (if_neg e).symm
theorem fv_ev_L {N n : Nat} (hn : n ≤ 4) : ∀ (m c k V : Nat) (f0 f1 f17 f18 : Nat → Int32) (w s : Nat → Nat), k + c = n → c < m → V < 2 ^ 31 → fv_dg n c V → fv_num n w s f0 f1 → fv_num n w s f17 f18 → ∃ (F0 F1 F17 F18 : Nat → Int32) (w' s' : Nat → Nat), q_X0_tellOrder_L29 N (nI n) m (nI V) (nI (k + 1)) f0 f1 = some (F0, F1) ∧ q_X5_event_L93 N (nI n) m (nI V) (nI k) f17 f18 = some (F17, F18) ∧ fv_num n w' s' F0 F1 ∧ fv_num n w' s' F17 F18 ∧ (∀ j, j < n → s' j ≤ s j + 4 * c) ∧ fv_sw w' n = fv_sw w n + (if k = 0 ∧ 0 < c then 1 else 0) := by
  intro m
  induction m with
  | zero => intro c k V f0 f1 f17 f18 w s _ h; omega
  | succ m ih =>
    intro c k V f0 f1 f17 f18 w s hkc hm hV hd hf hg
    have hr : z_rem (nI V) 10 = nI (V % 10) := e_rem (d := 10) hV (by omega) (by omega)
    have hq : nI V / 10 = nI (V / 10) := e_div (d := 10) hV (by omega) (by omega)
    rw [q_X0_tellOrder_L29, q_X5_event_L93, hr, hq, nI_1, nI_1]
    cases c with
    | zero =>
      refine ⟨f0, f1, f17, f18, w, s, e_p (e_lt (by omega) (by omega)) rfl, e_p (e_le (by omega) (by omega)) rfl, hf, hg, fun j _ => by omega, ?_⟩
      rw [if_neg (by omega)]
      rfl
    | succ c =>
      obtain ⟨hd1, hd2⟩ := hd
      have hin : z_in (nI (V % 10)) 4 := e_in (by omega) (by omega)
      rw [if_pos hin, if_pos hin, if_pos hin, e_cl (n := V % 10) (by omega)]
      have e1 : f1 (V % 10) + nI (k + 1) = nI (s (V % 10) + (k + 1)) := by rw [(hf _ hd1).2, nI_add]
      have e2 : f18 (V % 10) + nI (k + 1) = nI (s (V % 10) + (k + 1)) := by rw [(hg _ hd1).2, nI_add]
      have e3 : f0 (V % 10) + 1 = nI (w (V % 10) + 1) := by rw [(hf _ hd1).1, nI_1]
      have e4 : f17 (V % 10) + 1 = nI (w (V % 10) + 1) := by rw [(hg _ hd1).1, nI_1]
      rw [e1, e2, e3, e4]
      by_cases k0 : k = 0
      · subst k0
        obtain ⟨F0, F1, F17, F18, w', s', i1, i2, i3, i4, i5, i6⟩ := ih c 1 (V / 10) _ _ _ _ _ _ (by omega) (by omega) (by omega) hd2 (fv_num_up (d := V % 10) (p := 0 + 1) (fv_num_upw (d := V % 10) hf)) (fv_num_up (d := V % 10) (p := 0 + 1) (fv_num_upw (d := V % 10) hg))
        refine ⟨F0, F1, F17, F18, w', s', ?_, ?_, i3, i4, fun j hj => ?_, ?_⟩
        · exact e_n (e_nlt (by omega) (by omega)) (e_s (e_p rfl (e_s i1)))
        · exact e_n (e_nle (by omega) (by omega)) (e_p rfl (e_s (e_s i2)))
        · have h5 := i5 j hj
          by_cases e : j = V % 10
          · rw [if_pos e] at h5
            omega
          · rw [if_neg e] at h5
            omega
        · rw [i6, fv_sw_up, if_pos hd1, if_neg (by omega), if_pos (by omega)]
      · obtain ⟨F0, F1, F17, F18, w', s', i1, i2, i3, i4, i5, i6⟩ := ih c (k + 1) (V / 10) _ _ _ _ _ _ (by omega) (by omega) (by omega) hd2 (fv_num_up (d := V % 10) (p := k + 1) hf) (fv_num_up (d := V % 10) (p := k + 1) hg)
        refine ⟨F0, F1, F17, F18, w', s', ?_, ?_, i3, i4, fun j hj => ?_, ?_⟩
        · exact e_n (e_nlt (by omega) (by omega)) (e_s (e_n (e_ne (b := 1) (by omega) (by omega) (by omega)) i1))
        · exact e_n (e_nle (by omega) (by omega)) (e_n (e_ne (b := 0) k0 (by omega) (by omega)) (e_s i2))
        · have h5 := i5 j hj
          by_cases e : j = V % 10
          · rw [if_pos e] at h5
            omega
          · rw [if_neg e] at h5
            omega
        · rw [i6, if_neg (by omega), if_neg (by omega)]
theorem P_event {N : Nat} (hN : 60000 ≤ N) {x0_2 x0_3 x0_4 : Int32} {f0_0 f0_1 : Nat → Int32} {x5_15 x5_16 : Int32} {f5_17 f5_18 : Nat → Int32} (h : i_F x0_2 x0_3 x0_4 f0_0 f0_1 x5_15 x5_16 f5_17 f5_18) (v1 : Int32) : ∃ (o1 : (Int32 × Int32 × Int32 × (Nat → Int32) × (Nat → Int32))) (o2 : (Int32 × Int32 × (Nat → Int32) × (Nat → Int32))), q_X0_tellOrder N v1 x0_2 x0_3 x0_4 f0_0 f0_1 = some o1 ∧ q_X5_event N v1 x5_15 x5_16 f5_17 f5_18 = some o2 ∧ o1.1 = o2.1 ∧ i_F x0_2 o1.2.1 o1.2.2.1 o1.2.2.2.1 o1.2.2.2.2 x5_15 o2.2.1 o2.2.2.1 o2.2.2.2 := by
  have h' := h
  obtain ⟨n, e, w, s, hn, he, h0, rfl, rfl, rfl, rfl, hf, hg, hs, hsw, rfl⟩ := h
  have hwon := fv_won (N := N) (by omega) hn he h0 hg hs hsw
  by_cases n0 : n = 0
  · subst n0
    refine ⟨((-1), nI e, fv_ch 0 e w s, f0_0, f0_1), ((-1), nI e, f5_17, f5_18), ?_, ?_, rfl, h'⟩
    · unfold q_X0_tellOrder
      exact e_p rfl rfl
    · unfold q_X5_event
      exact e_p rfl rfl
  · have hn0 : ¬ nI n = 0 := e_ne (b := 0) n0 (by omega) (by omega)
    by_cases c : fv_ch n e w s = -1
    · have e5 : e < 5 := by
        have := (fv_neg1 (w := w) (s := s) hn h0).1.mp c
        omega
      rcases e_or v1 with hv | ⟨V, hV, rfl⟩
      · obtain ⟨r, r1, r2⟩ := fv_ord_T (N := N) hn N 0 v1 0 (Nat.zero_le _) (by omega)
        have hio : q_X0_isOrder N v1 (nI n) = some 0 := by
          unfold q_X0_isOrder
          refine e_b r1 ?_
          cases r with
          | inl t => rw [r2 t rfl]; rfl
          | inr z => exact e_p hv rfl
        refine ⟨((-1), nI e, fv_ch n e w s, f0_0, f0_1), ((-1), nI e, f5_17, f5_18), ?_, ?_, rfl, h'⟩
        · unfold q_X0_tellOrder
          exact e_n hn0 (e_p c (e_b hio (e_p rfl rfl)))
        · unfold q_X5_event
          exact e_n hn0 (e_b hwon (e_p c (e_n (e_neg_nle (n := 0) hv (by omega)) rfl)))
      · have hv0 : ¬ nI V < 0 := nI_pos hV
        have hv1 : (0 : Int32) ≤ nI V := e_le (a := 0) (Nat.zero_le _) hV
        rcases fv_ord_L (N := N) (x16 := nI e) (f17 := f5_17) (f18 := f5_18) hn N 0 0 V (Nat.zero_le _) (by omega) (by omega) hV with ⟨Z, z1, z2, z3, z4⟩ | ⟨z1, z2⟩
        · by_cases Z0 : Z = 0
          · subst Z0
            obtain ⟨F0, F1, F17, F18, w', s', i1, i2, i3, i4, i5, i6⟩ := fv_ev_L (N := N) hn N n 0 V f0_0 f0_1 f5_17 f5_18 w s (by omega) (by omega) hV z4 hf hg
            rw [hsw n0, if_pos ⟨rfl, by omega⟩] at i6
            have hs' : ∀ k, k < n → s' k ≤ 16 * (e + 1) := fun k hk => by
              have := hs k hk
              have := i5 k hk
              omega
            have hw' : ∀ k, k < n → w' k < 2 ^ 31 := fun k hk => by
              have := fv_sw_ge (w := w') hk
              omega
            have hio : q_X0_isOrder N (nI V) (nI n) = some 1 := by
              unfold q_X0_isOrder
              exact e_b z2 (e_n hv0 (e_p rfl rfl))
            have hch := fv_champ (N := N) (e := e + 1) (by omega) hn (by omega) (by omega) i3 hw' (fun k hk => by have := hs' k hk; omega)
            rw [← nI_1] at hch
            refine ⟨(nI e + 1, nI e + 1, fv_ch n (e + 1) w' s', F0, F1), (nI e + 1, nI e + 1, F17, F18), ?_, ?_, rfl, ?_⟩
            · unfold q_X0_tellOrder
              exact e_n hn0 (e_p c (e_b hio (e_n e_10 (e_b i1 (e_b hch rfl)))))
            · unfold q_X5_event
              refine e_n hn0 (e_b hwon (e_p c (e_p hv1 (e_b z3 ?_))))
              exact e_b i2 rfl
            · exact ⟨n, e + 1, w', s', hn, by omega, fun q => absurd q n0, rfl, rfl, nI_1 e, nI_1 e, i3, i4, hs', fun _ => i6, rfl⟩
          · have hio : q_X0_isOrder N (nI V) (nI n) = some 0 := by
              unfold q_X0_isOrder
              exact e_b z2 (e_n hv0 (e_n (e_ne (b := 0) Z0 z1 (by omega)) rfl))
            refine ⟨((-1), nI e, fv_ch n e w s, f0_0, f0_1), ((-1), nI e, f5_17, f5_18), ?_, ?_, rfl, h'⟩
            · unfold q_X0_tellOrder
              exact e_n hn0 (e_p c (e_b hio (e_p rfl rfl)))
            · unfold q_X5_event
              exact e_n hn0 (e_b hwon (e_p c (e_p hv1 (e_b z3 (e_n (e_nle (b := 0) (by omega) z1) rfl)))))
        · have hio : q_X0_isOrder N (nI V) (nI n) = some 0 := by
            unfold q_X0_isOrder
            exact e_b z1 rfl
          refine ⟨((-1), nI e, fv_ch n e w s, f0_0, f0_1), ((-1), nI e, f5_17, f5_18), ?_, ?_, rfl, h'⟩
          · unfold q_X0_tellOrder
            exact e_n hn0 (e_p c (e_b hio (e_p rfl rfl)))
          · unfold q_X5_event
            exact e_n hn0 (e_b hwon (e_p c (e_p hv1 (e_b z2 rfl))))
    · refine ⟨((-1), nI e, fv_ch n e w s, f0_0, f0_1), ((-1), nI e, f5_17, f5_18), ?_, ?_, rfl, h'⟩
      · unfold q_X0_tellOrder
        exact e_n hn0 (e_n c rfl)
      · unfold q_X5_event
        exact e_n hn0 (e_b hwon (e_n c rfl))

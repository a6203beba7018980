/-! ===== pure rows: chariots, a tick ===== -/
theorem bt_xor {a b : Nat} : nI a ^^^ nI b = nI (a ^^^ b) := by
  apply Int32.toBitVec_inj.mp
  show (Int32.ofNat a ^^^ Int32.ofNat b).toBitVec = (Int32.ofNat (a ^^^ b)).toBitVec
  simp [Int32.toBitVec_xor, Int32.toBitVec_ofNat', BitVec.ofNat_xor]
theorem q_fm {N a b : Nat} (ha : a < 2 ^ 31) (hb : b < 2 ^ 31) (h0 : 0 < b) : q_J9_floorMod_7cf53 N (nI a) (nI b) = some (nI (a % b)) := by
  unfold q_J9_floorMod_7cf53
  have hx : (0 : Int32) ≤ nI a ^^^ nI b := by
    rw [bt_xor]
    exact e_le (a := 0) (Nat.zero_le _) (Nat.xor_lt_two_pow ha hb)
  rw [if_neg (show ¬ nI b = (0 : Int32) from e_ne (b := 0) (by omega) hb (by omega)), if_pos hx, e_rem ha h0 hb]
theorem q_fm_t {N : Nat} {x y : Int32} (h : ¬ y = 0) : ∃ z, q_J9_floorMod_7cf53 N x y = some z := by
  unfold q_J9_floorMod_7cf53
  rw [if_neg h]
  by_cases c1 : 0 ≤ x ^^^ y
  · exact ⟨_, e_p c1 rfl⟩
  · by_cases c2 : z_rem x y = 0
    · exact ⟨_, e_n c1 (e_p c2 rfl)⟩
    · exact ⟨_, e_n c1 (e_n c2 rfl)⟩
/-- delays and numbers of acts -/
def ch_d (dl na : Nat → Nat) (d a : Nat → Int32) : Prop := ∀ k, k < 8 → d k = nI (dl k) ∧ dl k ≤ 20 ∧ a k = nI (na k) ∧ na k ≤ 12
def ch_V (V : Nat → Nat → Int32) (f : Nat → Int32) : Prop := ∀ k j, k < 8 → j < 12 → V k j = f (12 * k + j)
theorem ch_act1 {N T k : Nat} {dl na : Nat → Nat} {d a : Nat → Int32} (hT : T < 2 ^ 31) (hk : k < 8) (h : ch_d dl na d a) : ∃ x, q_X2_actOf N (nI k) (nI T) d a = some x ∧ (na k = 0 → x = -1) ∧ (0 < na k → dl k < T → x = nI ((T - 1 - dl k) % na k)) := by
  obtain ⟨h1, h2, h3, h4⟩ := h k hk
  unfold q_X2_actOf
  rw [if_pos (e_in hk (by omega)), e_cl (by omega), h1, h3]
  by_cases c : na k = 0
  · refine ⟨-1, e_p (by rw [c]; decide) rfl, fun _ => rfl, fun q => by omega⟩
  · have hn : ¬ nI (na k) ≤ (0 : Int32) := e_nle (b := 0) (by omega) (by omega)
    by_cases c2 : dl k < T
    · have e1 : nI T - 1 - nI (dl k) = nI (T - 1 - dl k) := by
        rw [show nI T - 1 = nI (T - 1) from pk_sub (b := 1) (by omega), pk_sub (by omega)]
      rw [e1]
      exact ⟨_, e_n hn (e_b (q_fm (by omega) (by omega) (by omega)) rfl), fun q => absurd q c, fun _ _ => rfl⟩
    · obtain ⟨z, hz⟩ := q_fm_t (N := N) (x := nI T - 1 - nI (dl k)) (y := nI (na k)) (e_ne (b := 0) c (by omega) (by omega))
      exact ⟨z, e_n hn (e_b hz rfl), fun q => absurd q c, fun _ q => absurd q c2⟩
theorem ch_act2 {N T k : Nat} {dl na : Nat → Nat} {d a : Nat → Int32} (hT : T < 2 ^ 31) (hk : k < 8) (h : ch_d dl na d a) (hd : dl k < T) : (na k = 0 → q_X5_actOf N (nI k) (nI T) d a = some (-1)) ∧ (0 < na k → q_X5_actOf N (nI k) (nI T) d a = some (nI (12 * k + (T - 1 - dl k) % na k))) := by
  obtain ⟨h1, h2, h3, h4⟩ := h k hk
  unfold q_X5_actOf
  rw [if_pos (e_in hk (by omega)), e_cl (by omega), h1, h3]
  refine ⟨fun c => e_p (by rw [c]; rfl) rfl, fun c => ?_⟩
  have hne : ¬ nI (na k) = 0 := e_ne (b := 0) (by omega) (by omega) (by omega)
  have e1 : nI T - 1 - nI (dl k) = nI (T - 1 - dl k) := by
    rw [show nI T - 1 = nI (T - 1) from pk_sub (b := 1) (by omega), pk_sub (by omega)]
  rw [e1, e_rem (by omega) c (by omega), show (12 : Int32) * nI k = nI (12 * k) from pk_mul 12 k, nI_add]
  exact e_n hne (e_n hne rfl)
theorem ch_d_e {dl na : Nat → Nat} {d a d' a' : Nat → Int32} (h : ch_d dl na d a) (h1 : ch_e d d') (h2 : ch_e a a') : ch_d dl na d' a' := fun k hk => by
  rw [← h1 k hk, ← h2 k hk]
  exact h k hk
theorem ch_go {N K T : Nat} {dl na : Nat → Nat} {d a d' a' st st' f33 : Nat → Int32} {V8 : Nat → Nat → Int32} {v1 x11 : Int32} (hK : K ≤ 8) (hT : T < 2 ^ 31) (hd : ch_d dl na d a) (hd' : ch_d dl na d' a') (hst : ch_e st st') (hok : ch_ok K T dl st) (hV : ch_V V8 f33) : ∀ (m i : Nat) (f2 f3 g2 g3 : Nat → Int32), i ≤ K → K - i < m → ch_e f2 g2 → ch_e f3 g3 → ∃ F2 F3 G2 G3 : Nat → Int32, q_X2_goForward_L2 N v1 x11 (nI K) (nI T) d st a V8 m (nI i) f2 f3 = some (F2, F3) ∧ q_X5_step_L2 N v1 x11 (nI T) (nI K) st' d' a' f33 m (nI i) g2 g3 = some (G2, G3) ∧ ch_e F2 G2 ∧ ch_e F3 G3 := by
  intro m
  induction m with
  | zero => intro i f2 f3 g2 g3 _ h; omega
  | succ m ih =>
    intro i f2 f3 g2 g3 hi hm h2 h3
    rw [q_X2_goForward_L2, q_X5_step_L2, nI_1]
    by_cases h : i = K
    · subst h
      exact ⟨f2, f3, g2, g3, e_p (e_le (Nat.le_refl _) (by omega)) rfl, e_p (e_le (Nat.le_refl _) (by omega)) rfl, h2, h3⟩
    · have hin : z_in (nI i) 8 := e_in (by omega) (by omega)
      have nle : ¬ nI K ≤ nI i := e_nle (by omega) (by omega)
      obtain ⟨x, x1, x2, x3⟩ := ch_act1 (N := N) (T := T) (k := i) hT (by omega) hd
      have es := hst i (by omega)
      simp only [if_pos hin]
      rw [if_neg nle, if_neg nle, e_cl (n := i) (by omega)]
      obtain ⟨F2, F3, G2, G3, i1, i2, i3, i4⟩ := ih (i + 1) f2 f3 g2 g3 (by omega) (by omega) h2 h3
      by_cases c1 : st i = 1
      · have hlt := hok.2 i (by omega) c1
        obtain ⟨y1, y2⟩ := ch_act2 (N := N) (T := T) (k := i) hT (by omega) hd' hlt
        by_cases c2 : na i = 0
        · refine ⟨F2, F3, G2, G3, e_b x1 ?_, e_p (es ▸ c1) (e_b (y1 c2) (e_p rfl i2)), i3, i4⟩
          rw [x2 c2]
          exact e_p c1 (e_p (by decide) i1)
        · have hnn := (hd i (by omega)).2.2.2
          have hr : (T - 1 - dl i) % na i < na i := Nat.mod_lt _ (by omega)
          have hxx := x3 (by omega) hlt
          have hyy := y2 (by omega)
          generalize (T - 1 - dl i) % na i = r at hr hxx hyy
          have hv := hV i r (by omega) (by omega)
          have hin2 : z_in (nI r) 12 := e_in (by omega) (by omega)
          have hin3 : z_in (nI (12 * i + r)) 96 := e_in (by omega) (by omega)
          have e2 := h2 i (by omega)
          have e3 := h3 i (by omega)
          have hnm : ¬ nI (12 * i + r) = -1 := e_m1 (by omega)
          by_cases c3 : V8 i r < v1
          · refine ⟨F2, F3, G2, G3, e_b x1 ?_, e_p (es ▸ c1) (e_b hyy (e_n hnm (e_b hyy (e_p hin3 ?_)))), i3, i4⟩
            · rw [hxx, if_pos hin2, e_cl (n := r) (by omega)]
              exact e_p c1 (e_n (nI_pos (by omega)) (e_p c3 i1))
            · rw [e_cl (n := 12 * i + r) (by omega), ← hv]
              exact e_n (fun q => absurd c3 (Int32.not_lt.mpr q)) i2
          · by_cases c4 : f2 i + 1 < x11
            · obtain ⟨F2, F3, G2, G3, i1, i2, i3, i4⟩ := ih (i + 1) (upd f2 i (f2 i + 1)) f3 (upd g2 i (g2 i + 1)) g3 (by omega) (by omega) (by rw [e2]; exact ch_e_up h2) h3
              refine ⟨F2, F3, G2, G3, e_b x1 ?_, e_p (es ▸ c1) (e_b hyy (e_n hnm (e_b hyy (e_p hin3 ?_)))), i3, i4⟩
              · rw [hxx, if_pos hin2, e_cl (n := r) (by omega)]
                refine e_p c1 (e_n (nI_pos (by omega)) (e_n c3 ?_))
                rw [pk_us]
                exact e_p c4 i1
              · rw [e_cl (n := 12 * i + r) (by omega), ← hv]
                refine e_p (Int32.not_lt.mp c3) ?_
                rw [pk_us]
                exact e_n (fun q => absurd (e2 ▸ c4) (Int32.not_lt.mpr q)) i2
            · obtain ⟨F2, F3, G2, G3, i1, i2, i3, i4⟩ := ih (i + 1) (upd (upd f2 i (f2 i + 1)) i 0) (upd f3 i (f3 i + 1)) (upd (upd g2 i (g2 i + 1)) i 0) (upd g3 i (g3 i + 1)) (by omega) (by omega) (by rw [e2]; exact ch_e_up (ch_e_up h2)) (by rw [e3]; exact ch_e_up h3)
              refine ⟨F2, F3, G2, G3, e_b x1 ?_, e_p (es ▸ c1) (e_b hyy (e_n hnm (e_b hyy (e_p hin3 ?_)))), i3, i4⟩
              · rw [hxx, if_pos hin2, e_cl (n := r) (by omega)]
                refine e_p c1 (e_n (nI_pos (by omega)) (e_n c3 ?_))
                refine e_n ?_ i1
                rw [pk_us]
                exact c4
              · rw [e_cl (n := 12 * i + r) (by omega), ← hv]
                refine e_p (Int32.not_lt.mp c3) (e_p ?_ i2)
                rw [pk_us, ← e2]
                exact Int32.not_lt.mp c4
      · refine ⟨F2, F3, G2, G3, e_b x1 ?_, e_n (es ▸ c1) i2, i3, i4⟩
        exact e_n c1 i1
theorem ch_bh1 {N K T : Nat} {dl : Nat → Nat} {ln la ln' la' : Nat → Int32} {v1 x12 : Int32} (hK : K ≤ 8) (h1 : ch_e ln ln') (h2 : ch_e la la') : ∀ (m i : Nat) (c : Int32) (f4 f5 f6 g4 g5 g6 : Nat → Int32), i ≤ K → K - i < m → ch_e f4 g4 → ch_e f5 g5 → ch_e f6 g6 → ch_ok K T dl f4 → ∃ (C : Int32) (F4 F5 F6 G4 G5 G6 : Nat → Int32), q_X2_bringHome_L12 N v1 x12 (nI K) (nI T) ln la m (nI i) c f4 f5 f6 = some (C, F4, F5, F6) ∧ q_X5_step_L107 N v1 x12 (nI T) (nI K) ln' la' m (nI i) c g4 g5 g6 = some (C, G4, G5, G6) ∧ ch_e F4 G4 ∧ ch_e F5 G5 ∧ ch_e F6 G6 ∧ ch_ok K T dl F4 := by
  intro m
  induction m with
  | zero => intro i c f4 f5 f6 g4 g5 g6 _ h; omega
  | succ m ih =>
    intro i c f4 f5 f6 g4 g5 g6 hi hm h4 h5 h6 hok
    rw [q_X2_bringHome_L12, q_X5_step_L107, nI_1]
    by_cases h : i = K
    · subst h
      exact ⟨c, f4, f5, f6, g4, g5, g6, e_p (e_le (Nat.le_refl _) (by omega)) rfl, e_p (e_le (Nat.le_refl _) (by omega)) rfl, h4, h5, h6, hok⟩
    · have hin : z_in (nI i) 8 := e_in (by omega) (by omega)
      have nle : ¬ nI K ≤ nI i := e_nle (by omega) (by omega)
      have es := h4 i (by omega)
      have el := h1 i (by omega)
      have ea := h2 i (by omega)
      rw [if_neg nle, if_neg nle, if_pos hin, if_pos hin, e_cl (n := i) (by omega)]
      obtain ⟨C, F4, F5, F6, G4, G5, G6, i1, i2, i3⟩ := ih (i + 1) c f4 f5 f6 g4 g5 g6 (by omega) (by omega) h4 h5 h6 hok
      by_cases c1 : f4 i = 1
      · by_cases c2 : ln i = v1
        · by_cases c3 : la i < x12
          · exact ⟨C, F4, F5, F6, G4, G5, G6, e_p c1 (e_p c2 (e_p c3 i1)), e_p (es ▸ c1) (e_p (el ▸ c2) (e_n (fun q => absurd (ea ▸ c3) (Int32.not_lt.mpr q)) i2)), i3⟩
          · obtain ⟨C, F4, F5, F6, G4, G5, G6, i1, i2, i3⟩ := ih (i + 1) (c + 1) (upd f4 i 2) (upd f5 i (nI T)) (upd f6 i (c + 1)) (upd g4 i 2) (upd g5 i (nI T)) (upd g6 i (c + 1)) (by omega) (by omega) (ch_e_up h4) (ch_e_up h5) (ch_e_up h6) (ch_ok_up hok (Or.inr (Or.inr (Or.inl rfl))) (fun q => absurd q (by decide)))
            exact ⟨C, F4, F5, F6, G4, G5, G6, e_p c1 (e_p c2 (e_n c3 i1)), e_p (es ▸ c1) (e_p (el ▸ c2) (e_p (ea ▸ Int32.not_lt.mp c3) i2)), i3⟩
        · exact ⟨C, F4, F5, F6, G4, G5, G6, e_p c1 (e_n c2 i1), e_p (es ▸ c1) (e_n (el ▸ c2) i2), i3⟩
      · exact ⟨C, F4, F5, F6, G4, G5, G6, e_n c1 i1, e_n (es ▸ c1) i2, i3⟩
theorem ch_bh2 {N K L T : Nat} {dl : Nat → Nat} {ln la ln' la' : Nat → Int32} {x12 : Int32} (hN : 60 ≤ N) (hK : K ≤ 8) (hL : L ≤ 8) (h1 : ch_e ln ln') (h2 : ch_e la la') : ∀ (m i : Nat) (c : Int32) (f4 f5 f6 g4 g5 g6 : Nat → Int32), i ≤ L → L - i < m → ch_e f4 g4 → ch_e f5 g5 → ch_e f6 g6 → ch_ok K T dl f4 → ∃ (C : Int32) (F4 F5 F6 G4 G5 G6 : Nat → Int32), q_X2_bringHome_L2 N (nI L) x12 (nI K) (nI T) ln la m (nI i) c f4 f5 f6 = some (C, F4, F5, F6) ∧ q_X5_step_L97 N (nI L) x12 (nI T) (nI K) ln' la' m (nI i) c g4 g5 g6 = some (C, G4, G5, G6) ∧ ch_e F4 G4 ∧ ch_e F5 G5 ∧ ch_e F6 G6 ∧ ch_ok K T dl F4 := by
  intro m
  induction m with
  | zero => intro i c f4 f5 f6 g4 g5 g6 _ h; omega
  | succ m ih =>
    intro i c f4 f5 f6 g4 g5 g6 hi hm h4 h5 h6 hok
    rw [q_X2_bringHome_L2, q_X5_step_L97, nI_1]
    by_cases h : i = L
    · subst h
      exact ⟨c, f4, f5, f6, g4, g5, g6, e_p (e_le (Nat.le_refl _) (by omega)) rfl, e_p (e_le (Nat.le_refl _) (by omega)) rfl, h4, h5, h6, hok⟩
    · have nle : ¬ nI L ≤ nI i := e_nle (by omega) (by omega)
      obtain ⟨C1, A4, A5, A6, B4, B5, B6, j1, j2, j3, j4, j5, j6⟩ := ch_bh1 (N := N) (T := T) (v1 := nI i) (x12 := x12) hK h1 h2 N 0 c f4 f5 f6 g4 g5 g6 (Nat.zero_le _) (by omega) h4 h5 h6 hok
      obtain ⟨C, F4, F5, F6, G4, G5, G6, i1, i2, i3⟩ := ih (i + 1) C1 A4 A5 A6 B4 B5 B6 (by omega) (by omega) j3 j4 j5 j6
      exact ⟨C, F4, F5, F6, G4, G5, G6, e_n nle (e_b j1 i1), e_n nle (e_b j2 i2), i3⟩
theorem ch_cl {N K L T : Nat} {dl na : Nat → Nat} {d a d' a' st st' f34 : Nat → Int32} {V9 : Nat → Nat → Int32} (hK : K ≤ 8) (hL : L ≤ 8) (hL0 : 0 < L) (hT : T < 2 ^ 31) (hd : ch_d dl na d a) (hd' : ch_d dl na d' a') (hst : ch_e st st') (hok : ch_ok K T dl st) (hV : ch_V V9 f34) : ∀ (m i : Nat) (f1 g1 : Nat → Int32), i ≤ K → K - i < m → ch_e f1 g1 → ∃ F1 G1 : Nat → Int32, q_X2_changeLanes_L2 N (nI L) (nI K) (nI T) d st a V9 m (nI i) f1 = some F1 ∧ q_X5_run_L108 N (nI L) (nI T) (nI K) st' d' a' f34 m (nI i) g1 = some G1 ∧ ch_e F1 G1 := by
  intro m
  induction m with
  | zero => intro i f1 g1 _ h; omega
  | succ m ih =>
    intro i f1 g1 hi hm h1
    rw [q_X2_changeLanes_L2, q_X5_run_L108, nI_1]
    by_cases h : i = K
    · subst h
      exact ⟨f1, g1, e_p (e_le (Nat.le_refl _) (by omega)) rfl, e_p (e_le (Nat.le_refl _) (by omega)) rfl, h1⟩
    · have hin : z_in (nI i) 8 := e_in (by omega) (by omega)
      have nle : ¬ nI K ≤ nI i := e_nle (by omega) (by omega)
      obtain ⟨x, x1, x2, x3⟩ := ch_act1 (N := N) (T := T) (k := i) hT (by omega) hd
      have es := hst i (by omega)
      have e1 := h1 i (by omega)
      simp only [if_pos hin]
      rw [if_neg nle, if_neg nle, e_cl (n := i) (by omega)]
      obtain ⟨F1, G1, i1, i2, i3⟩ := ih (i + 1) f1 g1 (by omega) (by omega) h1
      by_cases c1 : st i = 1
      · have hlt := hok.2 i (by omega) c1
        obtain ⟨y1, y2⟩ := ch_act2 (N := N) (T := T) (k := i) hT (by omega) hd' hlt
        by_cases c2 : na i = 0
        · refine ⟨F1, G1, e_b x1 ?_, e_p (es ▸ c1) (e_b (y1 c2) (e_p rfl i2)), i3⟩
          rw [x2 c2]
          exact e_p c1 (e_p (by decide) i1)
        · have hnn := (hd i (by omega)).2.2.2
          have hr : (T - 1 - dl i) % na i < na i := Nat.mod_lt _ (by omega)
          have hxx := x3 (by omega) hlt
          have hyy := y2 (by omega)
          generalize (T - 1 - dl i) % na i = r at hr hxx hyy
          have hv := hV i r (by omega) (by omega)
          have hin2 : z_in (nI r) 12 := e_in (by omega) (by omega)
          have hin3 : z_in (nI (12 * i + r)) 96 := e_in (by omega) (by omega)
          have hnm : ¬ nI (12 * i + r) = -1 := e_m1 (by omega)
          have stay : ch_e (upd f1 i (f1 i)) g1 := fun k hk => by
            by_cases e : k = i
            · rw [e, pk_us]; exact h1 i (by omega)
            · rw [pk_un e]; exact h1 k hk
          obtain ⟨A1, B1, j1, j2, j3⟩ := ih (i + 1) (upd f1 i (f1 i)) g1 (by omega) (by omega) stay
          obtain ⟨w, hw⟩ : ∃ w, w = f1 i + V9 i r := ⟨_, rfl⟩
          have hw2 : g1 i + f34 (12 * i + r) = w := by rw [hw, ← e1, ← hv]
          have hLm : nI L - 1 = nI (L - 1) := pk_sub (b := 1) (by omega)
          have M : ∀ (z : Int32) (X : Option (Nat → Int32)), q_X5_in N w 0 (nI L - 1) = some z → (if z = 0 then q_X5_run_L108 N (nI L) (nI T) (nI K) st' d' a' f34 m (nI (i + 1)) g1 else q_X5_run_L108 N (nI L) (nI T) (nI K) st' d' a' f34 m (nI (i + 1)) (upd g1 i w)) = X → (if st' i = 1 then Option.bind (q_X5_actOf N (nI i) (nI T) d' a') (fun o4 => if o4 = -1 then q_X5_run_L108 N (nI L) (nI T) (nI K) st' d' a' f34 m (nI (i + 1)) g1 else Option.bind (q_X5_actOf N (nI i) (nI T) d' a') (fun o6 => if z_in o6 96 then Option.bind (some (g1 i + f34 (Int32.toNatClampNeg o6))) (fun n8 => Option.bind (q_X5_in N n8 0 (nI L - 1)) (fun o9 => if o9 = 0 then q_X5_run_L108 N (nI L) (nI T) (nI K) st' d' a' f34 m (nI (i + 1)) g1 else q_X5_run_L108 N (nI L) (nI T) (nI K) st' d' a' f34 m (nI (i + 1)) (upd g1 i n8))) else none)) else q_X5_run_L108 N (nI L) (nI T) (nI K) st' d' a' f34 m (nI (i + 1)) g1) = X := by
            intro z X hz hX
            refine e_p (es ▸ c1) (e_b hyy (e_n hnm (e_b hyy (e_p hin3 ?_))))
            rw [e_cl (n := 12 * i + r) (by omega), hw2]
            exact e_s (e_b hz hX)
          have C : ∀ (X : Option (Nat → Int32)), (if w < 0 then q_X2_changeLanes_L2 N (nI L) (nI K) (nI T) d st a V9 m (nI (i + 1)) (upd f1 i (f1 i)) else if nI L ≤ w then q_X2_changeLanes_L2 N (nI L) (nI K) (nI T) d st a V9 m (nI (i + 1)) (upd f1 i (f1 i)) else q_X2_changeLanes_L2 N (nI L) (nI K) (nI T) d st a V9 m (nI (i + 1)) (upd f1 i w)) = X → (if st i = 1 then (if nI r < 0 then q_X2_changeLanes_L2 N (nI L) (nI K) (nI T) d st a V9 m (nI (i + 1)) f1 else if z_in (nI r) 12 then Option.bind (some (f1 i + V9 i (Int32.toNatClampNeg (nI r)))) (fun n7 => if n7 < 0 then q_X2_changeLanes_L2 N (nI L) (nI K) (nI T) d st a V9 m (nI (i + 1)) (upd f1 i (f1 i)) else if nI L ≤ n7 then q_X2_changeLanes_L2 N (nI L) (nI K) (nI T) d st a V9 m (nI (i + 1)) (upd f1 i (f1 i)) else q_X2_changeLanes_L2 N (nI L) (nI K) (nI T) d st a V9 m (nI (i + 1)) (upd f1 i n7)) else none) else q_X2_changeLanes_L2 N (nI L) (nI K) (nI T) d st a V9 m (nI (i + 1)) f1) = X := by
            intro X hX
            refine e_p c1 (e_n (nI_pos (by omega)) (e_p hin2 ?_))
            rw [e_cl (n := r) (by omega), ← hw]
            exact e_s hX
          rcases e_or w with hwn | ⟨q, hq, hwq⟩
          · refine ⟨A1, B1, e_b x1 ?_, M 0 _ (q_in_n (lo := 0) hwn (by omega)) (e_p rfl j2), j3⟩
            rw [hxx]
            exact C _ (e_p hwn j1)
          · rw [hwq] at C M
            by_cases c5 : L ≤ q
            · refine ⟨A1, B1, e_b x1 ?_, M 0 _ (by rw [hLm]; exact q_in_0 (lo := 0) (by omega) hq (by omega)) (e_p rfl j2), j3⟩
              rw [hxx]
              exact C _ (e_n (nI_pos hq) (e_p (e_le c5 hq) j1))
            · obtain ⟨A1, B1, j1, j2, j3⟩ := ih (i + 1) (upd f1 i (nI q)) (upd g1 i (nI q)) (by omega) (by omega) (ch_e_up h1)
              refine ⟨A1, B1, e_b x1 ?_, M 1 _ (by rw [hLm]; exact q_in_1 (lo := 0) (by omega) (by omega) hq (by omega)) (e_n e_10 j2), j3⟩
              rw [hxx]
              exact C _ (e_n (nI_pos hq) (e_n (e_nle (by omega) (by omega)) j1))
      · refine ⟨F1, G1, e_b x1 ?_, e_n (es ▸ c1) i2, i3⟩
        exact e_n c1 i1

/-! ===== pure rows: chariots, the other calls ===== -/
theorem ch_tk {N K : Nat} {v x23 : Int32} {ln ln' f25 f27 f28 f29 f30 f31 f32 : Nat → Int32} (hK : K ≤ 8) (h : ch_e ln ln') : ∀ (m i : Nat), i ≤ K → K - i < m → (q_X2_isTaken_L2 N v (nI K) ln m (nI i) = some (Sum.inl 1) ∧ q_X5_chariot_L51 N v (nI K) f25 ln' f27 f28 f29 f30 f31 f32 m (nI i) = some (Sum.inl ((-1), nI K, f25, ln', f27, f28, f29, f30, f31, f32))) ∨ (q_X2_isTaken_L2 N v (nI K) ln m (nI i) = some (Sum.inr ()) ∧ q_X5_chariot_L51 N v (nI K) f25 ln' f27 f28 f29 f30 f31 f32 m (nI i) = some (Sum.inr ())) := by
  intro m
  induction m with
  | zero => intro i _ h; omega
  | succ m ih =>
    intro i hi hm
    rw [q_X2_isTaken_L2, q_X5_chariot_L51, nI_1]
    by_cases hh : i = K
    · subst hh
      exact Or.inr ⟨e_p (e_le (Nat.le_refl _) (by omega)) rfl, e_p (e_le (Nat.le_refl _) (by omega)) rfl⟩
    · have hin : z_in (nI i) 8 := e_in (by omega) (by omega)
      have nle : ¬ nI K ≤ nI i := e_nle (by omega) (by omega)
      have es := h i (by omega)
      rw [if_neg nle, if_neg nle, if_pos hin, if_pos hin, e_cl (n := i) (by omega)]
      by_cases c : ln i = v
      · exact Or.inl ⟨e_p c rfl, e_p (es ▸ c) rfl⟩
      · rcases ih (i + 1) (by omega) (by omega) with ⟨a, b⟩ | ⟨a, b⟩
        · exact Or.inl ⟨e_n c a, e_n (es ▸ c) b⟩
        · exact Or.inr ⟨e_n c a, e_n (es ▸ c) b⟩
theorem ch_V_up {V : Nat → Nat → Int32} {f : Nat → Int32} {k j : Nat} {x : Int32} (h : ch_V V f) (hk : k < 8) (hj : j < 12) : ch_V (z_up2 V k j x) (upd f (12 * k + j) x) := fun k' j' hk' hj' => by
  unfold z_up2
  by_cases e1 : k' = k
  · rw [if_pos e1]
    by_cases e2 : j' = j
    · rw [e1, e2, pk_us, pk_us]
    · rw [pk_un e2, pk_un (by omega), e1]
      exact h k j' hk hj'
  · rw [if_neg e1, pk_un (by omega)]
    exact h k' j' hk' hj'
section ZPE
variable {N : Nat} {x2_10 x2_11 x2_12 x2_13 x2_14 x2_15 : Int32} {f2_0 f2_1 f2_2 f2_3 f2_4 f2_5 f2_6 f2_7 : Nat → Int32} {V2_8 V2_9 : Nat → Nat → Int32} {x5_19 x5_20 x5_21 x5_22 x5_23 x5_24 : Int32} {f5_25 f5_26 f5_27 f5_28 f5_29 f5_30 f5_31 f5_32 f5_33 f5_34 : Nat → Int32} {i : Nat}
theorem P_chariot (hN : 60000 ≤ N) (hi : i ≤ 4000) (h : i_C i x2_10 x2_11 x2_12 x2_13 x2_14 x2_15 f2_0 f2_1 f2_2 f2_3 f2_4 f2_5 f2_6 f2_7 V2_8 V2_9 x5_19 x5_20 x5_21 x5_22 x5_23 x5_24 f5_25 f5_26 f5_27 f5_28 f5_29 f5_30 f5_31 f5_32 f5_33 f5_34) (v1 v2 : Int32) : ∃ (o1 : (Int32 × Int32 × (Nat → Int32) × (Nat → Int32) × (Nat → Int32) × (Nat → Int32) × (Nat → Int32) × (Nat → Int32) × (Nat → Int32) × (Nat → Int32))) (o2 : (Int32 × Int32 × (Nat → Int32) × (Nat → Int32) × (Nat → Int32) × (Nat → Int32) × (Nat → Int32) × (Nat → Int32) × (Nat → Int32) × (Nat → Int32))), q_X2_addChariot N v1 v2 x2_10 x2_13 x2_14 f2_0 f2_1 f2_2 f2_3 f2_4 f2_5 f2_6 f2_7 = some o1 ∧ q_X5_chariot N v1 v2 x5_19 x5_22 x5_23 f5_25 f5_26 f5_27 f5_28 f5_29 f5_30 f5_31 f5_32 = some o2 ∧ o1.1 = o2.1 ∧ i_C (i + 7) x2_10 x2_11 x2_12 o1.2.1 x2_14 x2_15 o1.2.2.1 o1.2.2.2.1 o1.2.2.2.2.1 o1.2.2.2.2.2.1 o1.2.2.2.2.2.2.1 o1.2.2.2.2.2.2.2.1 o1.2.2.2.2.2.2.2.2.1 o1.2.2.2.2.2.2.2.2.2 V2_8 V2_9 x5_19 x5_20 x5_21 x5_22 o2.2.1 x5_24 o2.2.2.1 o2.2.2.2.1 o2.2.2.2.2.1 o2.2.2.2.2.2.1 o2.2.2.2.2.2.2.1 o2.2.2.2.2.2.2.2.1 o2.2.2.2.2.2.2.2.2.1 o2.2.2.2.2.2.2.2.2.2 f5_33 f5_34 := by
  have h' := i_C_mono (i' := i + 7) (by omega) h
  obtain ⟨L, K, T, dl, na, hL, hK, hT, hLK, rfl, rfl, rfl, rfl, rfl, rfl, rfl, rfl, rfl, hd, e0, e7, e1, e2, e3, e4, e5, e6, V8, V9, hok⟩ := h
  have no : (q_X2_addChariot N v1 v2 (nI L) (nI K) (nI T) f2_0 f2_1 f2_2 f2_3 f2_4 f2_5 f2_6 f2_7 = some ((-1), nI K, f2_0, f2_1, f2_2, f2_3, f2_4, f2_5, f2_6, f2_7) ∧ q_X5_chariot N v1 v2 (nI L) (nI T) (nI K) f5_25 f5_26 f5_27 f5_28 f5_29 f5_30 f5_31 f5_32 = some ((-1), nI K, f5_25, f5_26, f5_27, f5_28, f5_29, f5_30, f5_31, f5_32)) → ∃ (o1 : (Int32 × Int32 × (Nat → Int32) × (Nat → Int32) × (Nat → Int32) × (Nat → Int32) × (Nat → Int32) × (Nat → Int32) × (Nat → Int32) × (Nat → Int32))) (o2 : (Int32 × Int32 × (Nat → Int32) × (Nat → Int32) × (Nat → Int32) × (Nat → Int32) × (Nat → Int32) × (Nat → Int32) × (Nat → Int32) × (Nat → Int32))), q_X2_addChariot N v1 v2 (nI L) (nI K) (nI T) f2_0 f2_1 f2_2 f2_3 f2_4 f2_5 f2_6 f2_7 = some o1 ∧ q_X5_chariot N v1 v2 (nI L) (nI T) (nI K) f5_25 f5_26 f5_27 f5_28 f5_29 f5_30 f5_31 f5_32 = some o2 ∧ o1.1 = o2.1 ∧ i_C (i + 7) (nI L) x2_11 x2_12 o1.2.1 (nI T) x2_15 o1.2.2.1 o1.2.2.2.1 o1.2.2.2.2.1 o1.2.2.2.2.2.1 o1.2.2.2.2.2.2.1 o1.2.2.2.2.2.2.2.1 o1.2.2.2.2.2.2.2.2.1 o1.2.2.2.2.2.2.2.2.2 V2_8 V2_9 (nI L) x2_11 x2_12 (nI T) o2.2.1 x2_15 o2.2.2.1 o2.2.2.2.1 o2.2.2.2.2.1 o2.2.2.2.2.2.1 o2.2.2.2.2.2.2.1 o2.2.2.2.2.2.2.2.1 o2.2.2.2.2.2.2.2.2.1 o2.2.2.2.2.2.2.2.2.2 f5_33 f5_34 := fun q => ⟨_, _, q.1, q.2, rfl, h'⟩
  by_cases l0 : L = 0
  · subst l0
    have mo : q_X5_chariot N v1 v2 (nI 0) (nI T) (nI K) f5_25 f5_26 f5_27 f5_28 f5_29 f5_30 f5_31 f5_32 = some ((-1), nI K, f5_25, f5_26, f5_27, f5_28, f5_29, f5_30, f5_31, f5_32) := by
      unfold q_X5_chariot
      exact e_p rfl rfl
    refine no ⟨?_, mo⟩
    unfold q_X2_addChariot
    rcases e_or v1 with hv | ⟨v, hv, rfl⟩
    · exact e_p hv rfl
    · exact e_n (nI_pos hv) (e_p (e_le (a := 0) (Nat.zero_le _) hv) rfl)
  have hL0 : ¬ nI L = 0 := e_ne (b := 0) l0 (by omega) (by omega)
  have hLm : nI L - 1 = nI (L - 1) := pk_sub (b := 1) (by omega)
  rcases e_or v1 with hv | ⟨v, hv, rfl⟩
  · exact no ⟨by unfold q_X2_addChariot; exact e_p hv rfl, by unfold q_X5_chariot; exact e_n hL0 (e_b (q_in_n (lo := 0) hv (by omega)) (e_p rfl rfl))⟩
  have v0 := nI_pos hv
  by_cases a1 : L ≤ v
  · exact no ⟨by unfold q_X2_addChariot; exact e_n v0 (e_p (e_le a1 hv) rfl), by unfold q_X5_chariot; exact e_n hL0 (e_b (by rw [hLm]; exact q_in_0 (lo := 0) (by omega) hv (by omega)) (e_p rfl rfl))⟩
  have a1' : ¬ nI L ≤ nI v := e_nle (by omega) (by omega)
  have a2 : q_X5_in N (nI v) 0 (nI L - 1) = some 1 := by rw [hLm]; exact q_in_1 (lo := 0) (by omega) (by omega) hv (by omega)
  rcases e_or v2 with hw | ⟨w, hw, rfl⟩
  · exact no ⟨by unfold q_X2_addChariot; exact e_n v0 (e_n a1' (e_p hw rfl)), by unfold q_X5_chariot; exact e_n hL0 (e_b a2 (e_n e_10 (e_b (q_in_n (lo := 0) hw (by omega)) (e_p rfl rfl))))⟩
  have w0 := nI_pos hw
  by_cases b1 : 20 < w
  · exact no ⟨by unfold q_X2_addChariot; exact e_n v0 (e_n a1' (e_n w0 (e_p (e_lt (a := 20) b1 hw) rfl))), by unfold q_X5_chariot; exact e_n hL0 (e_b a2 (e_n e_10 (e_b (q_in_0 (lo := 0) (hi := 20) (by omega) hw (by omega)) (e_p rfl rfl))))⟩
  have b1' : ¬ 20 < nI w := e_nlt (a := 20) (by omega) (by omega)
  have b2 : q_X5_in N (nI w) 0 20 = some 1 := q_in_1 (lo := 0) (hi := 20) (by omega) (by omega) hw (by omega)
  have tk := ch_tk (N := N) (v := nI v) (x23 := nI K) (f25 := f5_25) (f27 := f5_27) (f28 := f5_28) (f29 := f5_29) (f30 := f5_30) (f31 := f5_31) (f32 := f5_32) hK e1 N 0 (Nat.zero_le _) (by omega)
  have MO : ∀ X, (if nI K = 8 then some ((-1), nI K, f5_25, f5_26, f5_27, f5_28, f5_29, f5_30, f5_31, f5_32) else if nI T ≤ 0 then Option.bind (q_X5_chariot_L51 N (nI v) (nI K) f5_25 f5_26 f5_27 f5_28 f5_29 f5_30 f5_31 f5_32 N 0) (Sum.elim (fun r10 => some r10) (fun s9 => if z_in (nI K) 8 then some (((nI K + 1) - 1), (nI K + 1), (upd f5_25 (Int32.toNatClampNeg (nI K)) 0), (upd f5_26 (Int32.toNatClampNeg (nI K)) (nI v)), (upd f5_27 (Int32.toNatClampNeg (nI K)) 0), (upd f5_28 (Int32.toNatClampNeg (nI K)) 0), (upd f5_29 (Int32.toNatClampNeg (nI K)) 0), (upd f5_30 (Int32.toNatClampNeg (nI K)) 0), (upd f5_31 (Int32.toNatClampNeg (nI K)) (nI w)), (upd f5_32 (Int32.toNatClampNeg (nI K)) 0)) else none)) else some ((-1), nI K, f5_25, f5_26, f5_27, f5_28, f5_29, f5_30, f5_31, f5_32)) = X → q_X5_chariot N (nI v) (nI w) (nI L) (nI T) (nI K) f5_25 f5_26 f5_27 f5_28 f5_29 f5_30 f5_31 f5_32 = X := by
    intro X hX
    unfold q_X5_chariot
    exact e_n hL0 (e_b a2 (e_n e_10 (e_b b2 (e_n e_10 hX))))
  have CL : ∀ (z : Int32) X, q_X2_isTaken N (nI v) (nI K) f2_1 = some z → (if z = 0 then (if 8 ≤ nI K then some ((-1), nI K, f2_0, f2_1, f2_2, f2_3, f2_4, f2_5, f2_6, f2_7) else if nI T = 0 then (if z_in (nI K) 8 then some (nI K, (nI K + 1), (upd f2_0 (Int32.toNatClampNeg (nI K)) (nI w)), (upd f2_1 (Int32.toNatClampNeg (nI K)) (nI v)), (upd f2_2 (Int32.toNatClampNeg (nI K)) 0), (upd f2_3 (Int32.toNatClampNeg (nI K)) 0), (upd f2_4 (Int32.toNatClampNeg (nI K)) 0), (upd f2_5 (Int32.toNatClampNeg (nI K)) 0), (upd f2_6 (Int32.toNatClampNeg (nI K)) 0), (upd f2_7 (Int32.toNatClampNeg (nI K)) 0)) else none) else some ((-1), nI K, f2_0, f2_1, f2_2, f2_3, f2_4, f2_5, f2_6, f2_7)) else some ((-1), nI K, f2_0, f2_1, f2_2, f2_3, f2_4, f2_5, f2_6, f2_7)) = X → q_X2_addChariot N (nI v) (nI w) (nI L) (nI K) (nI T) f2_0 f2_1 f2_2 f2_3 f2_4 f2_5 f2_6 f2_7 = X := by
    intro z X hz hX
    unfold q_X2_addChariot
    exact e_n v0 (e_n a1' (e_n w0 (e_n b1' (e_b hz hX))))
  have T0 : T = 0 ∨ (¬ nI T = 0 ∧ ¬ nI T ≤ 0) := by
    by_cases t : T = 0
    · exact Or.inl t
    · exact Or.inr ⟨e_ne (b := 0) t (by omega) (by omega), e_nle (b := 0) (by omega) (by omega)⟩
  by_cases k8 : K = 8
  · refine no ⟨?_, MO _ (e_p (by rw [k8]; rfl) rfl)⟩
    rcases tk with ⟨t1, -⟩ | ⟨t1, -⟩
    · exact CL 1 _ (by unfold q_X2_isTaken; exact e_b t1 rfl) (e_n e_10 rfl)
    · exact CL 0 _ (by unfold q_X2_isTaken; exact e_b t1 rfl) (e_p rfl (e_p (e_le (a := 8) (by omega) (by omega)) rfl))
  have k8' : ¬ nI K = 8 := e_ne (b := 8) k8 (by omega) (by omega)
  have k8'' : ¬ 8 ≤ nI K := e_nle (a := 8) (by omega) (by omega)
  rcases T0 with rfl | ⟨t1, t2⟩
  · have tz : nI 0 ≤ (0 : Int32) := by decide
    rcases tk with ⟨u1, u2⟩ | ⟨u1, u2⟩
    · exact no ⟨CL 1 _ (by unfold q_X2_isTaken; exact e_b u1 rfl) (e_n e_10 rfl), MO _ (e_n k8' (e_p tz (e_b u2 rfl)))⟩
    · have hin : z_in (nI K) 8 := e_in (by omega) (by omega)
      refine ⟨(nI K, nI (K + 1), upd f2_0 K (nI w), upd f2_1 K (nI v), upd f2_2 K 0, upd f2_3 K 0, upd f2_4 K 0, upd f2_5 K 0, upd f2_6 K 0, upd f2_7 K 0), (nI K, nI (K + 1), upd f5_25 K 0, upd f5_26 K (nI v), upd f5_27 K 0, upd f5_28 K 0, upd f5_29 K 0, upd f5_30 K 0, upd f5_31 K (nI w), upd f5_32 K 0), CL 0 _ (by unfold q_X2_isTaken; exact e_b u1 rfl) (e_p rfl (e_n k8'' (e_p rfl (e_p hin ?_)))), MO _ (e_n k8' (e_p tz (e_b u2 ?_))), rfl, ?_⟩
      · rw [e_cl (by omega), nI_1]
      · show (if z_in (nI K) 8 then _ else none) = _
        rw [if_pos hin, e_cl (by omega), nI_1, nI_pred]
      · refine ⟨L, K + 1, 0, fun k => if k = K then w else dl k, fun k => if k = K then 0 else na k, hL, by omega, by omega, fun q => absurd q l0, rfl, rfl, rfl, rfl, rfl, rfl, rfl, rfl, rfl, fun k hk => ?_, ch_e_up e0, ch_e_up e7, ch_e_up e1, ch_e_up e2, ch_e_up e3, ch_e_up e4, ch_e_up e5, ch_e_up e6, V8, V9, ?_⟩
        · show upd f2_0 K (nI w) k = nI (if k = K then w else dl k) ∧ (if k = K then w else dl k) ≤ 20 ∧ upd f2_7 K 0 k = nI (if k = K then 0 else na k) ∧ (if k = K then 0 else na k) ≤ 12
          by_cases e : k = K
          · rw [e, pk_us, pk_us, if_pos rfl, if_pos rfl]
            exact ⟨rfl, by omega, rfl, by omega⟩
          · rw [pk_un e, pk_un e, if_neg e, if_neg e]
            exact hd k hk
        · have okk : ch_ok (K + 1) 0 (fun k => if k = K then w else dl k) (upd f2_4 K 0) := by
            refine ⟨fun k hk => ?_, fun k hk h1 => ?_⟩
            · by_cases e : k = K
              · rw [e, pk_us]; exact Or.inl rfl
              · rw [pk_un e]; exact hok.1 k hk
            · by_cases e : k = K
              · rw [e, pk_us] at h1; exact absurd h1 (by decide)
              · rw [pk_un e] at h1
                have := hok.2 k (by omega) h1
                omega
          exact okk
  · rcases tk with ⟨u1, u2⟩ | ⟨u1, u2⟩
    · exact no ⟨CL 1 _ (by unfold q_X2_isTaken; exact e_b u1 rfl) (e_n e_10 rfl), MO _ (e_n k8' (e_n t2 rfl))⟩
    · exact no ⟨CL 0 _ (by unfold q_X2_isTaken; exact e_b u1 rfl) (e_p rfl (e_n k8'' (e_n t1 rfl))), MO _ (e_n k8' (e_n t2 rfl))⟩
theorem P_at (hN : 60000 ≤ N) (hi : i ≤ 4000) (h : i_C i x2_10 x2_11 x2_12 x2_13 x2_14 x2_15 f2_0 f2_1 f2_2 f2_3 f2_4 f2_5 f2_6 f2_7 V2_8 V2_9 x5_19 x5_20 x5_21 x5_22 x5_23 x5_24 f5_25 f5_26 f5_27 f5_28 f5_29 f5_30 f5_31 f5_32 f5_33 f5_34) (v1 v2 : Int32) : ∃ (o1 : Int32) (o2 : Int32), q_X2_tell N v1 v2 x2_13 f2_1 f2_2 f2_3 f2_4 f2_5 f2_6 = some o1 ∧ q_X5_at N v1 v2 x5_23 f5_25 f5_26 f5_27 f5_28 f5_29 f5_30 = some o2 ∧ o1 = o2 ∧ i_C (i + 7) x2_10 x2_11 x2_12 x2_13 x2_14 x2_15 f2_0 f2_1 f2_2 f2_3 f2_4 f2_5 f2_6 f2_7 V2_8 V2_9 x5_19 x5_20 x5_21 x5_22 x5_23 x5_24 f5_25 f5_26 f5_27 f5_28 f5_29 f5_30 f5_31 f5_32 f5_33 f5_34 := by
  have h' := i_C_mono (i' := i + 7) (by omega) h
  obtain ⟨L, K, T, dl, na, hL, hK, hT, hLK, rfl, rfl, rfl, rfl, rfl, rfl, rfl, rfl, rfl, hd, e0, e7, e1, e2, e3, e4, e5, e6, V8, V9, hok⟩ := h
  rcases e_or v1 with hv | ⟨v, hv, rfl⟩
  · refine ⟨-1, -1, ?_, ?_, rfl, h'⟩
    · unfold q_X2_tell q_X2_isChariot
      exact e_b (e_p hv rfl) (e_p rfl rfl)
    · unfold q_X5_at
      exact e_b (q_in_n (lo := 0) hv (by omega)) (e_p rfl rfl)
  · by_cases c : v < K
    · have hin : z_in (nI v) 8 := e_in (by omega) (by omega)
      have hci : q_X2_isChariot N (nI v) (nI K) = some 1 := by
        unfold q_X2_isChariot
        exact e_n (nI_pos hv) (e_n (e_nle (by omega) (by omega)) rfl)
      have hmi : q_X5_in N (nI v) 0 (nI K - 1) = some 1 := by
        rw [show nI K - 1 = nI (K - 1) from pk_sub (b := 1) (by omega)]
        exact q_in_1 (lo := 0) (by omega) (by omega) hv (by omega)
      have K1 : ∀ X, (if v2 = 0 then some (f2_4 v) else if v2 = 1 then some (f2_1 v) else if v2 = 2 then some (f2_2 v) else if v2 = 3 then some (f2_3 v) else if v2 = 4 then some (f2_5 v) else if v2 = 5 then some (f2_6 v) else some (-1)) = X → q_X2_tell N (nI v) v2 (nI K) f2_1 f2_2 f2_3 f2_4 f2_5 f2_6 = X := by
        intro X hX
        unfold q_X2_tell
        refine e_b hci (e_n e_10 ?_)
        simp only [if_pos hin]
        rw [e_cl (by omega)]
        exact hX
      have K2 : ∀ X, (if v2 = 0 then some (f5_25 v) else if v2 = 1 then some (f5_26 v) else if v2 = 2 then some (f5_27 v) else if v2 = 3 then some (f5_28 v) else if v2 = 4 then some (f5_29 v) else if v2 = 5 then some (f5_30 v) else some (-1)) = X → q_X5_at N (nI v) v2 (nI K) f5_25 f5_26 f5_27 f5_28 f5_29 f5_30 = X := by
        intro X hX
        unfold q_X5_at
        refine e_b hmi (e_n e_10 ?_)
        simp only [if_pos hin]
        rw [e_cl (by omega)]
        exact hX
      have hv8 : v < 8 := by omega
      rw [← e4 v hv8, ← e1 v hv8, ← e2 v hv8, ← e3 v hv8, ← e5 v hv8, ← e6 v hv8] at K2
      obtain ⟨X, hX⟩ : ∃ X, (if v2 = 0 then some (f2_4 v) else if v2 = 1 then some (f2_1 v) else if v2 = 2 then some (f2_2 v) else if v2 = 3 then some (f2_3 v) else if v2 = 4 then some (f2_5 v) else if v2 = 5 then some (f2_6 v) else some (-1)) = some X := by
        by_cases c0 : v2 = 0
        · exact ⟨_, e_p c0 rfl⟩
        · by_cases c1 : v2 = 1
          · exact ⟨_, e_n c0 (e_p c1 rfl)⟩
          · by_cases c2 : v2 = 2
            · exact ⟨_, e_n c0 (e_n c1 (e_p c2 rfl))⟩
            · by_cases c3 : v2 = 3
              · exact ⟨_, e_n c0 (e_n c1 (e_n c2 (e_p c3 rfl)))⟩
              · by_cases c4 : v2 = 4
                · exact ⟨_, e_n c0 (e_n c1 (e_n c2 (e_n c3 (e_p c4 rfl))))⟩
                · by_cases c5 : v2 = 5
                  · exact ⟨_, e_n c0 (e_n c1 (e_n c2 (e_n c3 (e_n c4 (e_p c5 rfl)))))⟩
                  · exact ⟨_, e_n c0 (e_n c1 (e_n c2 (e_n c3 (e_n c4 (e_n c5 rfl)))))⟩
      exact ⟨X, X, K1 _ hX, K2 _ hX, rfl, h'⟩
    · refine ⟨-1, -1, ?_, ?_, rfl, h'⟩
      · unfold q_X2_tell q_X2_isChariot
        exact e_b (e_n (nI_pos hv) (e_p (e_le (by omega) hv) rfl)) (e_p rfl rfl)
      · unfold q_X5_at
        by_cases k0 : K = 0
        · subst k0
          have hmi : q_X5_in N (nI v) 0 (nI 0 - 1) = some 0 := by
            unfold q_X5_in
            exact e_n (nI_pos hv) (e_p (e_neg_lt (by decide) hv) rfl)
          exact e_b hmi (e_p rfl rfl)
        · have hmi : q_X5_in N (nI v) 0 (nI K - 1) = some 0 := by
            rw [show nI K - 1 = nI (K - 1) from pk_sub (b := 1) (by omega)]
            exact q_in_0 (lo := 0) (by omega) hv (by omega)
          exact e_b hmi (e_p rfl rfl)
theorem P_drive (hN : 60000 ≤ N) (hi : i ≤ 4000) (h : i_C i x2_10 x2_11 x2_12 x2_13 x2_14 x2_15 f2_0 f2_1 f2_2 f2_3 f2_4 f2_5 f2_6 f2_7 V2_8 V2_9 x5_19 x5_20 x5_21 x5_22 x5_23 x5_24 f5_25 f5_26 f5_27 f5_28 f5_29 f5_30 f5_31 f5_32 f5_33 f5_34) (v1 v2 v3 : Int32) : ∃ (o1 : (Int32 × (Nat → Int32) × (Nat → Nat → Int32) × (Nat → Nat → Int32))) (o2 : (Int32 × (Nat → Int32) × (Nat → Int32) × (Nat → Int32))), q_X2_addAct N v1 v2 v3 x2_13 x2_14 f2_7 V2_8 V2_9 = some o1 ∧ q_X5_drive N v1 v2 v3 x5_22 x5_23 f5_32 f5_33 f5_34 = some o2 ∧ o1.1 = o2.1 ∧ i_C (i + 7) x2_10 x2_11 x2_12 x2_13 x2_14 x2_15 f2_0 f2_1 f2_2 f2_3 f2_4 f2_5 f2_6 o1.2.1 o1.2.2.1 o1.2.2.2 x5_19 x5_20 x5_21 x5_22 x5_23 x5_24 f5_25 f5_26 f5_27 f5_28 f5_29 f5_30 f5_31 o2.2.1 o2.2.2.1 o2.2.2.2 := by
  have h' := i_C_mono (i' := i + 7) (by omega) h
  obtain ⟨L, K, T, dl, na, hL, hK, hT, hLK, rfl, rfl, rfl, rfl, rfl, rfl, rfl, rfl, rfl, hd, e0, e7, e1, e2, e3, e4, e5, e6, V8, V9, hok⟩ := h
  have no : (q_X2_addAct N v1 v2 v3 (nI K) (nI T) f2_7 V2_8 V2_9 = some ((-1), f2_7, V2_8, V2_9) ∧ q_X5_drive N v1 v2 v3 (nI T) (nI K) f5_32 f5_33 f5_34 = some ((-1), f5_32, f5_33, f5_34)) → ∃ (o1 : (Int32 × (Nat → Int32) × (Nat → Nat → Int32) × (Nat → Nat → Int32))) (o2 : (Int32 × (Nat → Int32) × (Nat → Int32) × (Nat → Int32))), q_X2_addAct N v1 v2 v3 (nI K) (nI T) f2_7 V2_8 V2_9 = some o1 ∧ q_X5_drive N v1 v2 v3 (nI T) (nI K) f5_32 f5_33 f5_34 = some o2 ∧ o1.1 = o2.1 ∧ i_C (i + 7) (nI L) x2_11 x2_12 (nI K) (nI T) x2_15 f2_0 f2_1 f2_2 f2_3 f2_4 f2_5 f2_6 o1.2.1 o1.2.2.1 o1.2.2.2 (nI L) x2_11 x2_12 (nI T) (nI K) x2_15 f5_25 f5_26 f5_27 f5_28 f5_29 f5_30 f5_31 o2.2.1 o2.2.2.1 o2.2.2.2 := fun q => ⟨_, _, q.1, q.2, rfl, h'⟩
  have ci0 : (q_X2_isChariot N v1 (nI K) = some 0 ∧ q_X5_in N v1 0 (nI K - 1) = some 0) ∨ ∃ v, v < K ∧ v1 = nI v ∧ q_X2_isChariot N v1 (nI K) = some 1 ∧ q_X5_in N v1 0 (nI K - 1) = some 1 := by
    unfold q_X2_isChariot
    rcases e_or v1 with hv | ⟨v, hv, rfl⟩
    · exact Or.inl ⟨e_p hv rfl, q_in_n (lo := 0) hv (by omega)⟩
    · by_cases c : v < K
      · refine Or.inr ⟨v, c, rfl, e_n (nI_pos hv) (e_n (e_nle (by omega) (by omega)) rfl), ?_⟩
        rw [show nI K - 1 = nI (K - 1) from pk_sub (b := 1) (by omega)]
        exact q_in_1 (lo := 0) (by omega) (by omega) hv (by omega)
      · refine Or.inl ⟨e_n (nI_pos hv) (e_p (e_le (by omega) hv) rfl), ?_⟩
        by_cases k0 : K = 0
        · subst k0
          unfold q_X5_in
          exact e_n (nI_pos hv) (e_p (e_neg_lt (by decide) hv) rfl)
        · rw [show nI K - 1 = nI (K - 1) from pk_sub (b := 1) (by omega)]
          exact q_in_0 (lo := 0) (by omega) hv (by omega)
  rcases ci0 with ⟨c1, c2⟩ | ⟨v, hv, rfl, c1, c2⟩
  · exact no ⟨by unfold q_X2_addAct; exact e_b c1 (e_p rfl rfl), by unfold q_X5_drive; exact e_b c2 (e_p rfl rfl)⟩
  rcases e_or v2 with hw | ⟨w, hw, rfl⟩
  · exact no ⟨by unfold q_X2_addAct; exact e_b c1 (e_n e_10 (e_p hw rfl)), by unfold q_X5_drive; exact e_b c2 (e_n e_10 (e_b (q_in_n (lo := 0) hw (by omega)) (e_p rfl rfl)))⟩
  have w0 := nI_pos hw
  by_cases b1 : 4 < w
  · exact no ⟨by unfold q_X2_addAct; exact e_b c1 (e_n e_10 (e_n w0 (e_p (e_lt (a := 4) b1 hw) rfl))), by unfold q_X5_drive; exact e_b c2 (e_n e_10 (e_b (q_in_0 (lo := 0) (hi := 4) (by omega) hw (by omega)) (e_p rfl rfl)))⟩
  have b1' : ¬ 4 < nI w := e_nlt (a := 4) (by omega) (by omega)
  have b2 : q_X5_in N (nI w) 0 4 = some 1 := q_in_1 (lo := 0) (hi := 4) (by omega) (by omega) hw (by omega)
  by_cases d1 : v3 < -1
  · exact no ⟨by unfold q_X2_addAct; exact e_b c1 (e_n e_10 (e_n w0 (e_n b1' (e_p d1 rfl)))), by unfold q_X5_drive; exact e_b c2 (e_n e_10 (e_b b2 (e_n e_10 (e_b (by unfold q_X5_in; exact e_p d1 rfl) (e_p rfl rfl)))))⟩
  by_cases d2 : 1 < v3
  · exact no ⟨by unfold q_X2_addAct; exact e_b c1 (e_n e_10 (e_n w0 (e_n b1' (e_n d1 (e_p d2 rfl))))), by unfold q_X5_drive; exact e_b c2 (e_n e_10 (e_b b2 (e_n e_10 (e_b (by unfold q_X5_in; exact e_n d1 (e_p d2 rfl)) (e_p rfl rfl)))))⟩
  have d3 : q_X5_in N v3 (-1) 1 = some 1 := by unfold q_X5_in; exact e_n d1 (e_n d2 rfl)
  have hin : z_in (nI v) 8 := e_in (by omega) (by omega)
  obtain ⟨-, -, hn1, hn2⟩ := hd v (by omega)
  have hm1 : f5_32 v = nI (na v) := by rw [← e7 v (by omega)]; exact hn1
  have CA : ∀ X, (if 12 ≤ nI (na v) then some ((-1), f2_7, V2_8, V2_9) else if nI T = 0 then (if z_in (nI (na v)) 12 then some (nI (na v) + 1, upd f2_7 v (nI (na v) + 1), z_up2 V2_8 v (Int32.toNatClampNeg (nI (na v))) (nI w), z_up2 V2_9 v (Int32.toNatClampNeg (nI (na v))) v3) else none) else some ((-1), f2_7, V2_8, V2_9)) = X → q_X2_addAct N (nI v) (nI w) v3 (nI K) (nI T) f2_7 V2_8 V2_9 = X := by
    intro X hX
    unfold q_X2_addAct
    refine e_b c1 (e_n e_10 (e_n w0 (e_n b1' (e_n d1 (e_n d2 (e_p hin ?_))))))
    rw [e_cl (n := v) (by omega), pk_us, hn1]
    exact hX
  have MA : ∀ X, (if nI (na v) = 12 then some ((-1), f5_32, f5_33, f5_34) else if nI T ≤ 0 then (if z_in (nI (12 * v + na v)) 96 then some (nI (na v) + 1, upd f5_32 v (nI (na v) + 1), upd f5_33 (Int32.toNatClampNeg (nI (12 * v + na v))) (nI w), upd f5_34 (Int32.toNatClampNeg (nI (12 * v + na v))) v3) else none) else some ((-1), f5_32, f5_33, f5_34)) = X → q_X5_drive N (nI v) (nI w) v3 (nI T) (nI K) f5_32 f5_33 f5_34 = X := by
    intro X hX
    unfold q_X5_drive
    refine e_b c2 (e_n e_10 (e_b b2 (e_n e_10 (e_b d3 (e_n e_10 (e_p hin ?_))))))
    rw [e_cl (n := v) (by omega), pk_us, hm1, show (12 : Int32) * nI v = nI (12 * v) from pk_mul 12 v, nI_add]
    exact hX
  by_cases g1 : na v = 12
  · exact no ⟨CA _ (e_p (e_le (a := 12) (by omega) (by omega)) rfl), MA _ (e_p (by rw [g1]; rfl) rfl)⟩
  have g2 : ¬ 12 ≤ nI (na v) := e_nle (a := 12) (by omega) (by omega)
  have g3 : ¬ nI (na v) = 12 := e_ne (b := 12) g1 (by omega) (by omega)
  by_cases t : T = 0
  · subst t
    have tz : nI 0 ≤ (0 : Int32) := by decide
    refine ⟨(nI (na v + 1), upd f2_7 v (nI (na v + 1)), z_up2 V2_8 v (na v) (nI w), z_up2 V2_9 v (na v) v3), (nI (na v + 1), upd f5_32 v (nI (na v + 1)), upd f5_33 (12 * v + na v) (nI w), upd f5_34 (12 * v + na v) v3), CA _ (e_n g2 (e_p rfl (e_p (e_in (by omega) (by omega)) ?_))), MA _ (e_n g3 (e_p tz (e_p (e_in (by omega) (by omega)) ?_))), rfl, ?_⟩
    · rw [e_cl (by omega), nI_1]
    · rw [e_cl (by omega), nI_1]
    · refine ⟨L, K, 0, dl, fun k => if k = v then na v + 1 else na k, hL, hK, by omega, hLK, rfl, rfl, rfl, rfl, rfl, rfl, rfl, rfl, rfl, fun k hk => ?_, e0, ch_e_up e7, e1, e2, e3, e4, e5, e6, ch_V_up V8 (by omega) (by omega), ch_V_up V9 (by omega) (by omega), hok⟩
      show f2_0 k = nI (dl k) ∧ dl k ≤ 20 ∧ upd f2_7 v (nI (na v + 1)) k = nI (if k = v then na v + 1 else na k) ∧ (if k = v then na v + 1 else na k) ≤ 12
      by_cases e : k = v
      · rw [e, pk_us, if_pos rfl]
        exact ⟨(hd v (by omega)).1, (hd v (by omega)).2.1, rfl, by omega⟩
      · rw [pk_un e, if_neg e]
        exact hd k hk
  · exact no ⟨CA _ (e_n g2 (e_n (e_ne (b := 0) t (by omega) (by omega)) rfl)), MA _ (e_n g3 (e_n (e_nle (b := 0) (by omega) (by omega)) rfl))⟩
end ZPE

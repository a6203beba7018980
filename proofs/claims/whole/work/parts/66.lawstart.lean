theorem i_H0 : i_H 0 0 0 0 2 0 0 (-1) 0 (-1) 0 (fun _ => 0) (fun _ => 0) (fun _ => 0) (fun _ => 0) (fun _ _ => 0) 0 0 0 0 0 0 0 (-1) (-1) (fun _ => 0) (fun _ => 0) (fun _ => 0) (fun _ => 0) (fun _ => 0) (fun _ => 0) (fun _ => 0) := ⟨0, 0, Nat.zero_le _, Nat.zero_le _, rfl, rfl, rfl, rfl, fun k hk => absurd hk (Nat.not_lt_zero _), fun k hk => absurd hk (Nat.not_lt_zero _), rfl, rfl, rfl, Or.inl ⟨rfl, rfl, rfl, rfl, rfl⟩⟩
theorem i_F0 : i_F 0 0 (-1) (fun _ => 0) (fun _ => 0) 0 0 (fun _ => 0) (fun _ => 0) := ⟨0, 0, fun _ => 0, fun _ => 0, Nat.zero_le _, Nat.zero_le _, fun _ => rfl, rfl, rfl, rfl, rfl, fun k hk => absurd hk (Nat.not_lt_zero _), fun k hk => absurd hk (Nat.not_lt_zero _), fun k hk => absurd hk (Nat.not_lt_zero _), fun h => absurd rfl h, (if_pos rfl).symm⟩
theorem i_C0 : i_C 0 0 0 0 0 0 0 (fun _ => 0) (fun _ => 0) (fun _ => 0) (fun _ => 0) (fun _ => 0) (fun _ => 0) (fun _ => 0) (fun _ => 0) (fun _ _ => 0) (fun _ _ => 0) 0 0 0 0 0 0 (fun _ => 0) (fun _ => 0) (fun _ => 0) (fun _ => 0) (fun _ => 0) (fun _ => 0) (fun _ => 0) (fun _ => 0) (fun _ => 0) (fun _ => 0) := ⟨0, 0, 0, fun _ => 0, fun _ => 0, Nat.zero_le _, Nat.zero_le _, Nat.zero_le _, fun _ => rfl, rfl, rfl, rfl, rfl, rfl, rfl, rfl, rfl, rfl, fun k _ => ⟨rfl, Nat.zero_le _, rfl, Nat.zero_le _⟩, fun _ _ => rfl, fun _ _ => rfl, fun _ _ => rfl, fun _ _ => rfl, fun _ _ => rfl, fun _ _ => rfl, fun _ _ => rfl, fun _ _ => rfl, fun _ _ _ _ => rfl, fun _ _ _ _ => rfl, fun k _ => Or.inl rfl, fun k hk => absurd hk (Nat.not_lt_zero _)⟩
theorem i_Q0 : i_Q 0 12 (-1) (-1) (fun _ => 0) (fun _ => 0) (fun _ => 0) (fun _ => 0) (fun _ => 0) (fun _ => 0) (fun _ => 0) (fun _ => 0) (fun _ => 0) (fun _ => 0) 0 12 (fun _ => 0) (fun _ => 0) (fun _ => 0) (fun _ => 0) (fun _ => 0) (fun _ => 0) := ⟨0, 12, fun _ => 0, fun _ => 0, fun _ => 0, Nat.zero_le _, by omega, rfl, rfl, rfl, rfl, fun k hk => absurd hk (Nat.not_lt_zero _), fun k hk => absurd hk (Nat.not_lt_zero _), fun k hk => absurd hk (Nat.not_lt_zero _), Or.inl rfl, Or.inl rfl⟩
theorem z_arrK {s : State} {args : Array Value} {ty : FieldType} (hp : ∀ C, ty ≠ .object C) (h : (Cond.arrayClass ty).before args s = true) : ∃ cT, ArrOfT s cT ty ∧ va_RA s cT ty := by
  obtain ⟨cA, kA, comp, h1, h2, h3⟩ := Cond.arrayClass_spec h
  refine ⟨cA, fun n z => ⟨fun k h => (by cases h), kA, h2, comp, h3⟩, ?_⟩
  cases ty with
  | object C => exact absurd rfl (hp C)
  | _ => exact h1
theorem z_arrA {s : State} {args : Array Value} {t : FieldType} (h : (Cond.arrayOver (.array t)).before args s = true) : ∃ cT, ArrOfT s cT (.array t) ∧ va_RA s cT (.array t) := by
  obtain ⟨comp, cA, kA, h0, h2, h3, h1⟩ := Cond.arrayOver_specA h
  exact ⟨cA, fun n z => ⟨fun k h => (by cases h), kA, h2, comp, h3⟩, h1⟩
set_option maxHeartbeats 4000000 in
set_option maxRecDepth 100000 in
theorem whole_start {p : Program} {e : Env} {s : State} {m : MethodId} {below : List Frame} {meth : Method} {c : Code} (l : Launch) (hflags : l.flags = flags0) {b L : Nat} {xs : Nat → Int32} (hL : L ≤ 3584) (C0 : lw_At p s m meth c b L xs) : W p l e room_1 s m #[Value.ref b] below meth c s.heap [] 0 0 (lw_Z below #[Value.ref b] s) (entryFrame m ([Value.ref b] : List Value).toArray 4) := by
  obtain ⟨hx9, hb, hr, hml, hown, hts, hX, hbl, hlocks, hgv⟩ := C0
  replace hown : s.vm.findClass RL = some m.cls := hown
  replace hb : c.code = cL_law := hb
  have hA : ∀ q : Nat, s.heap.size ≤ q → (fun q : Nat => s.heap.size ≤ q) q := fun _ h => h
  obtain ⟨c0, iS0, hKn0⟩ := u_known (C := RX0) (T := TX0) (N := 5) (n := 5) hts mt_wsX00 (hts (Cond.instantiable RX0 5 : Cond) (List.mem_of_getElem? (i := 129) (by decide +kernel)))
  obtain ⟨c1, iS1, hKn1⟩ := u_known (C := RX1) (T := TX1) (N := 16) (n := 16) hts mt_wsX10 (hts (Cond.instantiable RX1 16 : Cond) (List.mem_of_getElem? (i := 71) (by decide +kernel)))
  obtain ⟨c2, iS2, hKn2⟩ := u_known (C := RX2) (T := TX2) (N := 16) (n := 16) hts mt_wsX20 (hts (Cond.instantiable RX2 16 : Cond) (List.mem_of_getElem? (i := 151) (by decide +kernel)))
  obtain ⟨c3, iS3, hKn3⟩ := u_known (C := RX3) (T := TX3) (N := 14) (n := 14) hts mt_wsX30 (hts (Cond.instantiable RX3 14 : Cond) (List.mem_of_getElem? (i := 207) (by decide +kernel)))
  obtain ⟨c4, iS4, hKn4⟩ := u_known (C := RX4) (T := TX4) (N := 4) (n := 4) hts mt_wsX40 (hts (Cond.instantiable RX4 4 : Cond) (List.mem_of_getElem? (i := 63) (by decide +kernel)))
  obtain ⟨c5, iS5, hKn5⟩ := u_known (C := RX5) (T := TX5) (N := 44) (n := 44) hts mt_wsX50 (hts (Cond.instantiable RX5 44 : Cond) (List.mem_of_getElem? (i := 686) (by decide +kernel)))
  obtain ⟨cI, kI⟩ := z_arrK (ty := .int) (fun C h => by cases h) (hts (Cond.arrayClass .int : Cond) (List.mem_of_getElem? (i := 127) (by decide +kernel)))
  obtain ⟨cZ, kZ⟩ := z_arrK (ty := .boolean) (fun C h => by cases h) (hts (Cond.arrayClass .boolean : Cond) (List.mem_of_getElem? (i := 824) (by decide +kernel)))
  obtain ⟨cJ, kJ⟩ := z_arrK (ty := .long) (fun C h => by cases h) (hts (Cond.arrayClass .long : Cond) (List.mem_of_getElem? (i := 255) (by decide +kernel)))
  obtain ⟨cA, kA⟩ := z_arrA (t := .int) (hts (Cond.arrayOver (.array .int) : Cond) (List.mem_of_getElem? (i := 77) (by decide +kernel)))
  obtain ⟨dC, dI, hKc⟩ : ∃ (dC : Nat → ClassId) (dI : Nat → Nat → Nat), ∀ (k : Nat) (q : vw_C), vwCl[k]? = some q → u_Kn s q.1 q.2.1 q.2.2 (dC k) (dI k) := by
    refine ⟨fun k => if k = 0 then c0 else if k = 1 then c1 else if k = 2 then c2 else if k = 3 then c3 else if k = 4 then c4 else c5, fun k => if k = 0 then iS0 else if k = 1 then iS1 else if k = 2 then iS2 else if k = 3 then iS3 else if k = 4 then iS4 else iS5, ?_⟩
    intro k q hq
    match k, hq with
    | 0, hq => cases hq; exact hKn0
    | 1, hq => cases hq; exact hKn1
    | 2, hq => cases hq; exact hKn2
    | 3, hq => cases hq; exact hKn3
    | 4, hq => cases hq; exact hKn4
    | 5, hq => cases hq; exact hKn5
    | k + 6, hq => simp [vwCl] at hq
  have hK : va_K (dC, dI) vwCl (z_ty cI cZ cJ cA) s := by
    refine ⟨hKc, fun k q hq => ?_⟩
    match k, hq with
    | 0, hq => cases hq; exact kI
    | 1, hq => cases hq; exact kZ
    | 2, hq => cases hq; exact kJ
    | 3, hq => cases hq; exact kA
    | k + 4, hq => simp [z_ty] at hq
  have hO : va_AOA .int s := (hts (Cond.arrayOver (.array .int) : Cond) (List.mem_of_getElem? (i := 77) (by decide +kernel)))
  have hN : z_nw s := by
    intro w hw
    simp only [z_nws, List.mem_cons, List.not_mem_nil, or_false] at hw
    rcases hw with rfl | rfl | rfl | rfl | rfl | rfl | rfl | rfl | rfl | rfl
    · exact va_Nw.of rfl (hts (Cond.methodLinkNest RX4 9 yX1_init RX4 : Cond) (List.mem_of_getElem? (i := 72) (by decide +kernel)))
    · exact va_Nw.of rfl (hts (Cond.methodLinkNest RX4 18 yX0_init RX4 : Cond) (List.mem_of_getElem? (i := 130) (by decide +kernel)))
    · exact va_Nw.of rfl (hts (Cond.methodLinkNest RX4 25 yX2_init RX4 : Cond) (List.mem_of_getElem? (i := 152) (by decide +kernel)))
    · exact va_Nw.of rfl (hts (Cond.methodLinkNest RX4 32 yX3_init RX4 : Cond) (List.mem_of_getElem? (i := 208) (by decide +kernel)))
    · exact va_Nw.of rfl (hts (Cond.methodLinkNest RX1 64 yX4_isTown RX4 : Cond) (List.mem_of_getElem? (i := 277) (by decide +kernel)))
    · exact va_Nw.of rfl (hts (Cond.methodLinkNest RX1 76 yX4_hasBit RX4 : Cond) (List.mem_of_getElem? (i := 300) (by decide +kernel)))
    · exact va_Nw.of rfl (hts (Cond.methodLinkNest RX0 42 yX4_hasBit RX4 : Cond) (List.mem_of_getElem? (i := 436) (by decide +kernel)))
    · exact va_Nw.of rfl (hts (Cond.methodLinkNest RX2 102 yX4_hasBit RX4 : Cond) (List.mem_of_getElem? (i := 520) (by decide +kernel)))
    · exact va_Nw.of rfl (hts (Cond.methodLinkNest RX3 64 yX4_isTown RX4 : Cond) (List.mem_of_getElem? (i := 565) (by decide +kernel)))
    · exact va_Nw.of rfl (hts (Cond.methodLinkNest RX3 86 yX4_hasBit RX4 : Cond) (List.mem_of_getElem? (i := 639) (by decide +kernel)))
  have hS : va_S (fun q : Nat => s.heap.size ≤ q) s.heap s.heap [] := va_S.rf
  have hP : va_P (dC, dI) vwCl [] s.heap := z_noP
  have hD : va_D (fun q : Nat => s.heap.size ≤ q) [] := z_noD
  have hl := lv_entry ([.ref b]) (n := 4) (Nat.le_of_ble_eq_true rfl)
  rw [lg_entry_eq]
  generalize (lg_sl ([.ref b]) ++ List.replicate (4 - (lg_sl ([.ref b])).length) Slot.unset).toArray = ls at hl ⊢
  have hl : lv_has ls 4 [(0, .ref b)] := hl
  refine va_new (ci := 4) (fs := [.null, .null, .null, .null]) (C := RX4) (T := TX4) (N := 4) hx9 hb hts mt_wsX40 tyX4 tyX4_ok hown (hts (Cond.classLink RL 7 RX4 : Cond) (List.mem_of_getElem? (i := 62) (by decide +kernel))) (hts (Cond.instantiable RX4 4 : Cond) (List.mem_of_getElem? (i := 63) (by decide +kernel))) (hts (Cond.initialized RX4 : Cond) (List.mem_of_getElem? (i := 51) (by decide +kernel))) hK hP hD hS hA rfl (fun j hj => by match j, hj with | 0, _ => exact rfl | 1, _ => exact rfl | 2, _ => exact rfl | 3, _ => exact rfl | n + 4, h => exact absurd h (by omega)) (Nat.le_of_ble_eq_true rfl) (Nat.le_of_ble_eq_true rfl) dL_law_0 (fun hx H hP hD hS => ?_)
  refine lv_dup hx9 hb dL_law_3 rfl ?_
  refine z_II (pre := []) (e0 := .inr (4, [.null, .null, .null, .null])) (rest := [.ref hx]) (PW := fun w1 => ∃ (h1 : Nat) (a1 : Nat → Nat) (r1_4 : Nat → Nat) (h0 : Nat) (a0 : Nat → Nat) (h2 : Nat) (a2 : Nat → Nat) (r2_8 : Nat → Nat) (r2_9 : Nat → Nat) (h3 : Nat) (a3 : Nat → Nat), w1 = (w4 cI cZ cJ cA hx h1 a1 r1_4 h0 a0 h2 a2 r2_8 r2_9 h3 a3 0 0 0 0 2 0 0 (-1) 0 (-1) 0 (fun _ => 0) (fun _ => 0) (fun _ => 0) (fun _ => 0) (fun _ _ => 0) 0 0 (-1) (fun _ => 0) (fun _ => 0) 0 0 0 0 0 0 (fun _ => 0) (fun _ => 0) (fun _ => 0) (fun _ => 0) (fun _ => 0) (fun _ => 0) (fun _ => 0) (fun _ => 0) (fun _ _ => 0) (fun _ _ => 0) 0 12 (-1) (-1) (fun _ => 0) (fun _ => 0) (fun _ => 0) (fun _ => 0) (fun _ => 0) (fun _ => 0) (fun _ => 0) (fun _ => 0) (fun _ => 0) (fun _ => 0))) ⟨hx9, hb, hml, hown, hts⟩ (k_X4_init l dC dI cI cZ cJ cA hx H.size) (cwI 0 hts gm_X4_init rfl rfl rfl (hts (Cond.initialized RX4 : Cond) (List.mem_of_getElem? (i := 51) (by decide +kernel))) (hts (Cond.methodLink RL 9 yX4_init : Cond) (List.mem_of_getElem? (i := 64) (by decide +kernel))) (hts (Cond.instanceMethod yX4_init : Cond) (List.mem_of_getElem? (i := 65) (by decide +kernel))) rfl (by decide +kernel) ⟨Nat.le_of_ble_eq_true rfl, Nat.le_of_ble_eq_true rfl⟩) (fun t ⟨h1, a1, r1_4, h0, a0, h2, a2, r2_8, r2_9, h3, a3, q1, q2⟩ => ⟨_, ⟨h1, a1, r1_4, h0, a0, h2, a2, r2_8, r2_9, h3, a3, rfl⟩, q1, q2⟩) hK hP hD hS hA hN hO hl.1 (Nat.le_of_ble_eq_true rfl) dL_law_4 ⟨Nat.le_of_ble_eq_true rfl, Nat.le_of_ble_eq_true rfl⟩ (fun w1 H locs pw hP hD hS => ?_)
  obtain ⟨h1, a1, r1_4, h0, a0, h2, a2, r2_8, r2_9, h3, a3, rfl⟩ := pw
  replace hP : va_P (dC, dI) vwCl (w4 cI cZ cJ cA hx h1 a1 r1_4 h0 a0 h2 a2 r2_8 r2_9 h3 a3 0 0 0 0 2 0 0 (-1) 0 (-1) 0 (fun _ => 0) (fun _ => 0) (fun _ => 0) (fun _ => 0) (fun _ _ => 0) 0 0 (-1) (fun _ => 0) (fun _ => 0) 0 0 0 0 0 0 (fun _ => 0) (fun _ => 0) (fun _ => 0) (fun _ => 0) (fun _ => 0) (fun _ => 0) (fun _ => 0) (fun _ => 0) (fun _ _ => 0) (fun _ _ => 0) 0 12 (-1) (-1) (fun _ => 0) (fun _ => 0) (fun _ => 0) (fun _ => 0) (fun _ => 0) (fun _ => 0) (fun _ => 0) (fun _ => 0) (fun _ => 0) (fun _ => 0)) H := hP
  replace hD : va_D (fun q : Nat => s.heap.size ≤ q) (w4 cI cZ cJ cA hx h1 a1 r1_4 h0 a0 h2 a2 r2_8 r2_9 h3 a3 0 0 0 0 2 0 0 (-1) 0 (-1) 0 (fun _ => 0) (fun _ => 0) (fun _ => 0) (fun _ => 0) (fun _ _ => 0) 0 0 (-1) (fun _ => 0) (fun _ => 0) 0 0 0 0 0 0 (fun _ => 0) (fun _ => 0) (fun _ => 0) (fun _ => 0) (fun _ => 0) (fun _ => 0) (fun _ => 0) (fun _ => 0) (fun _ _ => 0) (fun _ _ => 0) 0 12 (-1) (-1) (fun _ => 0) (fun _ => 0) (fun _ => 0) (fun _ => 0) (fun _ => 0) (fun _ => 0) (fun _ => 0) (fun _ => 0) (fun _ => 0) (fun _ => 0)) := hD
  refine lv_astore_n (lv' := [(1, .ref hx), (0, .ref b)]) hx9 hb dL_law_7 rfl hl (by decide) rfl (fun ls hl => ?_)
  refine va_new (ci := 5) (fs := [.null, .int 0, .null, .int 0, .int 0, .int 0, .int 0, .int 0, .null, .int 0, .int 0, .null, .null, .null, .int 0, .int 0, .int 0, .null, .null, .int 0, .int 0, .int 0, .int 0, .int 0, .int 0, .null, .null, .null, .null, .null, .null, .null, .null, .null, .null, .null, .null, .null, .null, .null, .null, .int 0, .int 0, .null]) (C := RX5) (T := TX5) (N := 44) hx9 hb hts mt_wsX50 tyX5 tyX5_ok hown (hts (Cond.classLink RL 10 RX5 : Cond) (List.mem_of_getElem? (i := 685) (by decide +kernel))) (hts (Cond.instantiable RX5 44 : Cond) (List.mem_of_getElem? (i := 686) (by decide +kernel))) (hts (Cond.initialized RX5 : Cond) (List.mem_of_getElem? (i := 56) (by decide +kernel))) hK hP hD hS hA rfl (fun j hj => by match j, hj with | 0, _ => exact rfl | 1, _ => exact rfl | 2, _ => exact rfl | 3, _ => exact rfl | 4, _ => exact rfl | 5, _ => exact rfl | 6, _ => exact rfl | 7, _ => exact rfl | 8, _ => exact rfl | 9, _ => exact rfl | 10, _ => exact rfl | 11, _ => exact rfl | 12, _ => exact rfl | 13, _ => exact rfl | 14, _ => exact rfl | 15, _ => exact rfl | 16, _ => exact rfl | 17, _ => exact rfl | 18, _ => exact rfl | 19, _ => exact rfl | 20, _ => exact rfl | 21, _ => exact rfl | 22, _ => exact rfl | 23, _ => exact rfl | 24, _ => exact rfl | 25, _ => exact rfl | 26, _ => exact rfl | 27, _ => exact rfl | 28, _ => exact rfl | 29, _ => exact rfl | 30, _ => exact rfl | 31, _ => exact rfl | 32, _ => exact rfl | 33, _ => exact rfl | 34, _ => exact rfl | 35, _ => exact rfl | 36, _ => exact rfl | 37, _ => exact rfl | 38, _ => exact rfl | 39, _ => exact rfl | 40, _ => exact rfl | 41, _ => exact rfl | 42, _ => exact rfl | 43, _ => exact rfl | n + 44, h => exact absurd h (by omega)) (Nat.le_of_ble_eq_true rfl) (Nat.le_of_ble_eq_true rfl) dL_law_8 (fun h5 H hP hD hS => ?_)
  refine lv_dup hx9 hb dL_law_11 rfl ?_
  refine z_II (pre := (w4 cI cZ cJ cA hx h1 a1 r1_4 h0 a0 h2 a2 r2_8 r2_9 h3 a3 0 0 0 0 2 0 0 (-1) 0 (-1) 0 (fun _ => 0) (fun _ => 0) (fun _ => 0) (fun _ => 0) (fun _ _ => 0) 0 0 (-1) (fun _ => 0) (fun _ => 0) 0 0 0 0 0 0 (fun _ => 0) (fun _ => 0) (fun _ => 0) (fun _ => 0) (fun _ => 0) (fun _ => 0) (fun _ => 0) (fun _ => 0) (fun _ _ => 0) (fun _ _ => 0) 0 12 (-1) (-1) (fun _ => 0) (fun _ => 0) (fun _ => 0) (fun _ => 0) (fun _ => 0) (fun _ => 0) (fun _ => 0) (fun _ => 0) (fun _ => 0) (fun _ => 0))) (e0 := .inr (5, [.null, .int 0, .null, .int 0, .int 0, .int 0, .int 0, .int 0, .null, .int 0, .int 0, .null, .null, .null, .int 0, .int 0, .int 0, .null, .null, .int 0, .int 0, .int 0, .int 0, .int 0, .int 0, .null, .null, .null, .null, .null, .null, .null, .null, .null, .null, .null, .null, .null, .null, .null, .null, .int 0, .int 0, .null])) (rest := [.ref h5]) (PW := fun w1 => ∃ (a5 : Nat → Nat), w1 = (wX5 cI cZ cJ cA h5 a5 0 0 0 0 0 0 0 (-1) (-1) 0 0 0 0 0 0 0 0 0 12 (fun _ => 0) (fun _ => 0) (fun _ => 0) (fun _ => 0) (fun _ => 0) (fun _ => 0) (fun _ => 0) (fun _ => 0) (fun _ => 0) (fun _ => 0) (fun _ => 0) (fun _ => 0) (fun _ => 0) (fun _ => 0) (fun _ => 0) (fun _ => 0) (fun _ => 0) (fun _ => 0) (fun _ => 0) (fun _ => 0) (fun _ => 0) (fun _ => 0) (fun _ => 0) (fun _ => 0) (fun _ => 0))) ⟨hx9, hb, hml, hown, hts⟩ (k_X5_init l dC dI cI cZ cJ cA h5 H.size) (cwI 0 hts gm_X5_init rfl rfl rfl (hts (Cond.initialized RX5 : Cond) (List.mem_of_getElem? (i := 56) (by decide +kernel))) (hts (Cond.methodLink RL 12 yX5_init : Cond) (List.mem_of_getElem? (i := 687) (by decide +kernel))) (hts (Cond.instanceMethod yX5_init : Cond) (List.mem_of_getElem? (i := 688) (by decide +kernel))) rfl (by decide +kernel) ⟨Nat.le_of_ble_eq_true rfl, Nat.le_of_ble_eq_true rfl⟩) (fun t ⟨a5, q1, q2⟩ => ⟨_, ⟨a5, rfl⟩, q1, q2⟩) hK hP hD hS hA hN hO hl.1 (Nat.le_of_ble_eq_true rfl) dL_law_12 ⟨Nat.le_of_ble_eq_true rfl, Nat.le_of_ble_eq_true rfl⟩ (fun w1 H locs pw hP hD hS => ?_)
  obtain ⟨a5, rfl⟩ := pw
  refine lv_astore_n (lv' := [(2, .ref h5), (1, .ref hx), (0, .ref b)]) hx9 hb dL_law_15 rfl hl (by decide) rfl (fun ls hl => ?_)
  refine lv_iconst (v := nI 0) hx9 hb dL_law_16 (by decide) ?_
  refine lv_istore_n (lv' := [(3, .int (nI 0)), (2, .ref h5), (1, .ref hx), (0, .ref b)]) hx9 hb dL_law_17 rfl hl (by decide) rfl (fun ls hl => ?_)
  exact law_loop ⟨⟨hx9, hb, hml, hown, hts⟩, hX, hbl, hN, hK, hL⟩ hr hlocks (L + 1) 0 _ H locs ls (Nat.zero_le _) (by omega) ⟨_, _, _, _, _, _, _, _, _, _, _, _, _, _, _, _, _, _, _, _, _, _, _, _, _, _, _, _, _, _, _, _, _, _, _, _, _, _, _, _, _, _, _, _, _, _, _, _, _, _, _, _, _, _, _, _, _, _, _, _, _, _, _, _, _, _, _, _, _, _, _, _, _, _, _, _, _, _, _, _, _, _, _, _, _, _, _, _, _, _, _, _, _, _, _, rfl, i_H0, i_F0, i_C0, i_Q0⟩ hP hD hS (lv_sub hl [3, 2, 1, 0] rfl)

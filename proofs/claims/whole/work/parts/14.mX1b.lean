def q_X1_beginRound_L101 (N : Nat) : Nat → Int32 → (Nat → Nat → Int32) → Option (Nat → Nat → Int32)
  | 0, _, _ => none
  | n + 1, v2, V4 =>
    (if 9 ≤ v2 then
     (some V4)
    else
     (if z_in v2 9 then
     (Option.bind (q_J7_fill_53178 N 12 (-1) (V4 (Int32.toNatClampNeg v2))) (fun o3 =>
     (q_X1_beginRound_L101 N n (v2 + 1) (z_upR V4 (Int32.toNatClampNeg v2) o3))))
     else none))
set_option maxHeartbeats 4000000 in
set_option maxRecDepth 100000 in
theorem b_X1_beginRound_L101 {p : Program} {l : Launch} {e : Env} {R : Room} {s : State} {m : MethodId} {args : Array Value} {below : List Frame} {meth : Method} {c : Code} {Q : State → Prop} {A : Nat → Prop} {dC : Nat → ClassId} {dI : Nat → Nat → Nat} {cI cZ cJ cA : ClassId} {h0 : Nat} {a : Nat → Nat} {r4 : Nat → Nat} (N : Nat) (C0 : z_Cx p s m args c cX1_beginRound 3 wsX1_beginRound RX1 R 3 64 A dC dI (z_ty cI cZ cJ cA)) : ∀ (n : Nat) {v2 : Int32} {x5 : Int32} {x6 : Int32} {x7 : Int32} {x8 : Int32} {x9 : Int32} {x10 : Int32} {x11 : Int32} {x12 : Int32} {x13 : Int32} {x14 : Int32} {x15 : Int32} {f0 : (Nat → Int32)} {f1 : (Nat → Int32)} {f2 : (Nat → Int32)} {f3 : (Nat → Int32)} {V4 : (Nat → Nat → Int32)} {o : (Nat → Nat → Int32)} {H : Heap} {locs : List Loc} {ls : Array Slot}, q_X1_beginRound_L101 N n v2 V4 = some o → va_P (dC, dI) vwCl (wX1 cI cZ cJ cA h0 a r4 x5 x6 x7 x8 x9 x10 x11 x12 x13 x14 x15 f0 f1 f2 f3 V4) H → va_D A (wX1 cI cZ cJ cA h0 a r4 x5 x6 x7 x8 x9 x10 x11 x12 x13 x14 x15 f0 f1 f2 f3 V4) → va_S A s.heap H locs → lv_has ls 3 [(0, .ref h0), (2, .int v2)] →
    (∀ (H : Heap) (locs : List Loc) (ls : Array Slot), va_P (dC, dI) vwCl (wX1 cI cZ cJ cA h0 a r4 x5 x6 x7 x8 x9 x10 x11 x12 x13 x14 x15 f0 f1 f2 f3 o) H → va_D A (wX1 cI cZ cJ cA h0 a r4 x5 x6 x7 x8 x9 x10 x11 x12 x13 x14 x15 f0 f1 f2 f3 o) → va_S A s.heap H locs → lv_has ls 3 [(0, .ref h0)] → W p l e R s m args below meth c H locs 0 0 Q (F0 m 123 ls [])) →
    W p l e R s m args below meth c H locs 0 0 Q (F0 m 101 ls []) := by
  obtain ⟨⟨hx, hb, hml, hown, hts⟩, hRf, hRl, hA, hN, hK⟩ := C0
  intro n
  induction n with
  | zero =>
    intro v2 x5 x6 x7 x8 x9 x10 x11 x12 x13 x14 x15 f0 f1 f2 f3 V4 o H locs ls hf
    cases hf
  | succ n ih =>
    intro v2 x5 x6 x7 x8 x9 x10 x11 x12 x13 x14 x15 f0 f1 f2 f3 V4 o H locs ls hf hP hD hS hl hexit
    rw [q_X1_beginRound_L101] at hf
    refine lv_iload_n hx hb dX1_beginRound_101 rfl (lv_at hl 1 rfl) ?_
    refine lv_bipush (v := 9) hx hb dX1_beginRound_102 (by decide) ?_
    refine lv_icmp_ge (tgt := 123) hx hb dX1_beginRound_104 (by decide) (fun c1 => ?_) (fun c1 => ?_)
    · replace hf := z_ip hf c1
      obtain rfl := Option.some.inj hf
      exact hexit _ _ _ hP hD hS (lv_sub hl [0] rfl)
    · replace hf := z_im hf c1
      refine lv_aload_n hx hb dX1_beginRound_107 rfl (lv_at hl 0 rfl) ?_
      refine va_get (D := (dC, dI)) (ci := 1) (v := .ref (a 4)) (C := RX1) (T := TX1) (N := 16) hx hb hts (fun w hw => List.mem_cons_of_mem _ (List.mem_append_right _ hw)) hown hK hP 0 rfl rfl 4 (by decide) (hts (.fieldLink RX1 26 "OldStadium$Heats" "votes" "[[I") (List.mem_of_getElem? (i := 7) rfl)) (fun _ h9 => h9) rfl dX1_beginRound_108 ?_
      refine lv_iload_n hx hb dX1_beginRound_111 rfl (lv_at hl 1 rfl) ?_
      have b2 := z_c1 hf
      replace hf := z_c2 hf
      refine z_aald (H0 := s.heap) hx hb hK hP 5 3 rfl rfl b2 dX1_beginRound_112 ?_
      refine lv_iconst (v := (-1)) hx hb dX1_beginRound_113 (by decide) ?_
      obtain ⟨o3, ho3, hf1⟩ := z_ib hf
      replace hf := hf1
      clear hf1
      refine z_SvR (As := [.ref (r4 (Int32.toNatClampNeg v2)), .int (-1)]) (rest := []) (k := 6 + (Int32.toNatClampNeg v2)) (w1e := z_I cI 12 o3) ⟨hx, hb, hml, hown, hts⟩ (k_J7_fill_53178 l dC dI cI cZ cJ cA (r4 (Int32.toNatClampNeg v2)) 12 H.size N (-1) (V4 (Int32.toNatClampNeg v2)) o3 ho3) (va_cwS 2 hts gX1_beginRound_J7_fill_53178 rfl rfl rfl (by decide +kernel) ⟨Nat.le_trans (Nat.le_of_ble_eq_true rfl) hRf, Nat.le_trans (Nat.le_of_ble_eq_true rfl) hRl⟩) hK hP hD hS hA hN (zrX1_4 (z_lt b2)) rfl hl.1 rfl (Nat.le_of_ble_eq_true rfl) dX1_beginRound_114 (fun H locs hP hD hS => ?_)
      rw [zsX1_4 (z_lt b2)] at hP hD
      replace hP : va_P (dC, dI) vwCl (wX1 cI cZ cJ cA h0 a r4 x5 x6 x7 x8 x9 x10 x11 x12 x13 x14 x15 f0 f1 f2 f3 (z_upR V4 (Int32.toNatClampNeg v2) o3)) H := hP
      replace hD : va_D A (wX1 cI cZ cJ cA h0 a r4 x5 x6 x7 x8 x9 x10 x11 x12 x13 x14 x15 f0 f1 f2 f3 (z_upR V4 (Int32.toNatClampNeg v2) o3)) := hD
      refine lv_iinc (v := (v2 + 1)) (lv' := [(2, .int (v2 + 1)), (0, .ref h0)]) hx hb dX1_beginRound_117 hl (k := 1) rfl rfl (by decide) rfl (fun ls hl => ?_)
      refine lv_goto (tgt := 101) hx hb dX1_beginRound_120 (by decide) ?_
      exact ih hf hP hD hS (lv_sub hl [1, 0] rfl) hexit
def q_X1_beginRound (N : Nat) (x8 : Int32) (x9 : Int32) (x10 : Int32) (x11 : Int32) (x12 : Int32) (x13 : Int32) (x15 : Int32) (f2 : (Nat → Int32)) (f3 : (Nat → Int32)) (V4 : (Nat → Nat → Int32)) : Option (Int32 × Int32 × Int32 × Int32 × Int32 × Int32 × (Nat → Int32) × (Nat → Int32) × (Nat → Nat → Int32)) :=
  (Option.bind (q_X1_mixRow N x10 x15 f2) (fun o1 =>
  (if x9 ≤ 0 then
   (if (x10 - (0 * x9)) = 1 then
    (Option.bind (q_X1_giveBye N (x10 - 1) (-1) x13 o1.2) (fun o9 =>
    (Option.bind (q_J7_fill_53178 N 12 (-1) f3) (fun o10 =>
    (Option.bind (q_X1_beginRound_L101 N N 0 V4) (fun t11 =>
    (some (0, (x8 + 1), 0, o9.1, o9.2.1, o1.1, o9.2.2, o10, t11))))))))
   else
    (if (x10 - (0 * x9)) ≤ 1 then
     (Option.bind (q_J7_fill_53178 N 12 (-1) f3) (fun o5 =>
     (Option.bind (q_X1_beginRound_L101 N N 0 V4) (fun t6 =>
     (some (0, (x8 + 1), 0, (-1), x13, o1.1, o1.2, o5, t6))))))
    else
     (Option.bind (q_J7_fill_53178 N 12 (-1) f3) (fun o7 =>
     (Option.bind (q_X1_beginRound_L101 N N 0 V4) (fun t8 =>
     (some ((0 + 1), (x8 + 1), (0 + 1), (-1), x13, o1.1, o1.2, o7, t8))))))))
  else
   (if x9 = 0 then none else
   (if (x10 - ((x10 / x9) * x9)) = 1 then
    (Option.bind (q_X1_giveBye N (x10 - 1) (-1) x13 o1.2) (fun o19 =>
    (Option.bind (q_J7_fill_53178 N 12 (-1) f3) (fun o20 =>
    (Option.bind (q_X1_beginRound_L101 N N 0 V4) (fun t21 =>
    (some ((x10 / x9), (x8 + 1), (x10 / x9), o19.1, o19.2.1, o1.1, o19.2.2, o20, t21))))))))
   else
    (if (x10 - ((x10 / x9) * x9)) ≤ 1 then
     (Option.bind (q_J7_fill_53178 N 12 (-1) f3) (fun o15 =>
     (Option.bind (q_X1_beginRound_L101 N N 0 V4) (fun t16 =>
     (some ((x10 / x9), (x8 + 1), (x10 / x9), (-1), x13, o1.1, o1.2, o15, t16))))))
    else
     (Option.bind (q_J7_fill_53178 N 12 (-1) f3) (fun o17 =>
     (Option.bind (q_X1_beginRound_L101 N N 0 V4) (fun t18 =>
     (some (((x10 / x9) + 1), (x8 + 1), ((x10 / x9) + 1), (-1), x13, o1.1, o1.2, o17, t18))))))))))))
set_option maxHeartbeats 4000000 in
set_option maxRecDepth 100000 in
theorem b_X1_beginRound {p : Program} {l : Launch} {e : Env} {R : Room} {s : State} {m : MethodId} {args : Array Value} {below : List Frame} {meth : Method} {c : Code} {Q : State → Prop} {A : Nat → Prop} {dC : Nat → ClassId} {dI : Nat → Nat → Nat} {cI cZ cJ cA : ClassId} {h0 : Nat} {a : Nat → Nat} {r4 : Nat → Nat} (N : Nat) (C0 : z_Cx p s m args c cX1_beginRound 3 wsX1_beginRound RX1 R 3 64 A dC dI (z_ty cI cZ cJ cA)) {x5 : Int32} {x6 : Int32} {x7 : Int32} {x8 : Int32} {x9 : Int32} {x10 : Int32} {x11 : Int32} {x12 : Int32} {x13 : Int32} {x14 : Int32} {x15 : Int32} {f0 : (Nat → Int32)} {f1 : (Nat → Int32)} {f2 : (Nat → Int32)} {f3 : (Nat → Int32)} {V4 : (Nat → Nat → Int32)} {o : (Int32 × Int32 × Int32 × Int32 × Int32 × Int32 × (Nat → Int32) × (Nat → Int32) × (Nat → Nat → Int32))} {H : Heap} {locs : List Loc} {ls : Array Slot} (hf : q_X1_beginRound N x8 x9 x10 x11 x12 x13 x15 f2 f3 V4 = some o) (hP : va_P (dC, dI) vwCl (wX1 cI cZ cJ cA h0 a r4 x5 x6 x7 x8 x9 x10 x11 x12 x13 x14 x15 f0 f1 f2 f3 V4) H) (hD : va_D A (wX1 cI cZ cJ cA h0 a r4 x5 x6 x7 x8 x9 x10 x11 x12 x13 x14 x15 f0 f1 f2 f3 V4)) (hS : va_S A s.heap H locs) (hl : lv_has ls 3 [(0, .ref h0)])
    (hret : ∀ (pc : Nat) (H : Heap) (locs : List Loc) (ls : Array Slot) (r : Int32), decode cX1_beginRound pc = .ok (.ireturn, 1) → r = o.1 → va_P (dC, dI) vwCl (wX1 cI cZ cJ cA h0 a r4 x5 x6 x7 o.2.1 x9 x10 o.2.2.1 o.2.2.2.1 o.2.2.2.2.1 x14 o.2.2.2.2.2.1 f0 f1 o.2.2.2.2.2.2.1 o.2.2.2.2.2.2.2.1 o.2.2.2.2.2.2.2.2) H → va_D A (wX1 cI cZ cJ cA h0 a r4 x5 x6 x7 o.2.1 x9 x10 o.2.2.1 o.2.2.2.1 o.2.2.2.2.1 x14 o.2.2.2.2.2.1 f0 f1 o.2.2.2.2.2.2.1 o.2.2.2.2.2.2.2.1 o.2.2.2.2.2.2.2.2) → va_S A s.heap H locs → W p l e R s m args below meth c H locs 0 0 Q (F0 m pc ls [.int r])) :
    W p l e R s m args below meth c H locs 0 0 Q (F0 m 0 ls []) := by
  obtain ⟨⟨hx, hb, hml, hown, hts⟩, hRf, hRl, hA, hN, hK⟩ := C0
  unfold q_X1_beginRound at hf
  refine lv_aload_n hx hb dX1_beginRound_0 rfl (lv_at hl 0 rfl) ?_
  refine lv_dup hx hb dX1_beginRound_1 rfl ?_
  refine va_get (D := (dC, dI)) (ci := 1) (v := .int x8) (C := RX1) (T := TX1) (N := 16) hx hb hts (fun w hw => List.mem_cons_of_mem _ (List.mem_append_right _ hw)) hown hK hP 0 rfl rfl 8 (by decide) (hts (.fieldLink RX1 40 "OldStadium$Heats" "round" "I") (List.mem_of_getElem? (i := 1) rfl)) (fun _ h9 => h9) rfl dX1_beginRound_2 ?_
  refine lv_iconst (v := 1) hx hb dX1_beginRound_5 (by decide) ?_
  refine lv_iadd hx hb dX1_beginRound_6 ?_
  refine va_put (D := (dC, dI)) (ci := 1) (v := .int (x8 + 1)) (ty := .int) (C := RX1) (T := TX1) (N := 16) hx hb hts (fun w hw => List.mem_cons_of_mem _ (List.mem_append_right _ hw)) tyX1 tyX1_ok nmX1 hown hK hP hD hS 0 rfl rfl 8 (by decide) (hts (.fieldLink RX1 40 "OldStadium$Heats" "round" "I") (List.mem_of_getElem? (i := 1) rfl)) (fun _ h9 => h9) rfl (by decide +kernel) rfl rfl (Nat.le_of_ble_eq_true rfl) dX1_beginRound_7 (fun H locs hP hD hS => ?_)
  replace hP : va_P (dC, dI) vwCl (wX1 cI cZ cJ cA h0 a r4 x5 x6 x7 (x8 + 1) x9 x10 x11 x12 x13 x14 x15 f0 f1 f2 f3 V4) H := hP
  replace hD : va_D A (wX1 cI cZ cJ cA h0 a r4 x5 x6 x7 (x8 + 1) x9 x10 x11 x12 x13 x14 x15 f0 f1 f2 f3 V4) := hD
  refine lv_aload_n hx hb dX1_beginRound_10 rfl (lv_at hl 0 rfl) ?_
  obtain ⟨o1, ho1, hf1⟩ := z_ib hf
  replace hf := hf1
  clear hf1
  refine z_Vv (As := []) (rest := []) (w := (wX1 cI cZ cJ cA h0 a r4 x5 x6 x7 (x8 + 1) x9 x10 x11 x12 x13 x14 x15 f0 f1 f2 f3 V4)) (w1 := (wX1 cI cZ cJ cA h0 a r4 x5 x6 x7 (x8 + 1) x9 x10 x11 x12 x13 x14 o1.1 f0 f1 o1.2 f3 V4)) ⟨hx, hb, hml, hown, hts⟩ (k_X1_mixRow l dC dI cI cZ cJ cA h0 a r4 H.size N x5 x6 x7 (x8 + 1) x9 x10 x11 x12 x13 x14 x15 f0 f1 f2 f3 V4 o1 ho1) (cwV 0 hts gX1_beginRound_X1_mixRow rfl rfl rfl (by decide +kernel) ⟨Nat.le_trans (Nat.le_of_ble_eq_true rfl) hRf, Nat.le_trans (Nat.le_of_ble_eq_true rfl) hRl⟩) hK hP hD hS hA hN (ci := 1) rfl rfl rfl rfl hl.1 rfl (Nat.le_of_ble_eq_true rfl) dX1_beginRound_11 (fun H locs hP hD hS => ?_)
  refine lv_aload_n hx hb dX1_beginRound_14 rfl (lv_at hl 0 rfl) ?_
  refine lv_aload_n hx hb dX1_beginRound_15 rfl (lv_at hl 0 rfl) ?_
  refine va_get (D := (dC, dI)) (ci := 1) (v := .int x9) (C := RX1) (T := TX1) (N := 16) hx hb hts (fun w hw => List.mem_cons_of_mem _ (List.mem_append_right _ hw)) hown hK hP 0 rfl rfl 9 (by decide) (hts (.fieldLink RX1 43 "OldStadium$Heats" "size" "I") (List.mem_of_getElem? (i := 2) rfl)) (fun _ h9 => h9) rfl dX1_beginRound_16 ?_
  refine lv_if_le (tgt := 34) hx hb dX1_beginRound_19 (by decide) (fun c2 => ?_) (fun c2 => ?_)
  · replace hf := z_ip hf c2
    refine lv_iconst (v := 0) hx hb dX1_beginRound_34 (by decide) ?_
    refine va_put (D := (dC, dI)) (ci := 1) (v := .int 0) (ty := .int) (C := RX1) (T := TX1) (N := 16) hx hb hts (fun w hw => List.mem_cons_of_mem _ (List.mem_append_right _ hw)) tyX1 tyX1_ok nmX1 hown hK hP hD hS 0 rfl rfl 11 (by decide) (hts (.fieldLink RX1 49 "OldStadium$Heats" "heats" "I") (List.mem_of_getElem? (i := 4) rfl)) (fun _ h9 => h9) rfl (by decide +kernel) rfl rfl (Nat.le_of_ble_eq_true rfl) dX1_beginRound_35 (fun H locs hP hD hS => ?_)
    replace hP : va_P (dC, dI) vwCl (wX1 cI cZ cJ cA h0 a r4 x5 x6 x7 (x8 + 1) x9 x10 0 x12 x13 x14 o1.1 f0 f1 o1.2 f3 V4) H := hP
    replace hD : va_D A (wX1 cI cZ cJ cA h0 a r4 x5 x6 x7 (x8 + 1) x9 x10 0 x12 x13 x14 o1.1 f0 f1 o1.2 f3 V4) := hD
    refine lv_aload_n hx hb dX1_beginRound_38 rfl (lv_at hl 0 rfl) ?_
    refine va_get (D := (dC, dI)) (ci := 1) (v := .int x10) (C := RX1) (T := TX1) (N := 16) hx hb hts (fun w hw => List.mem_cons_of_mem _ (List.mem_append_right _ hw)) hown hK hP 0 rfl rfl 10 (by decide) (hts (.fieldLink RX1 46 "OldStadium$Heats" "entered" "I") (List.mem_of_getElem? (i := 3) rfl)) (fun _ h9 => h9) rfl dX1_beginRound_39 ?_
    refine lv_aload_n hx hb dX1_beginRound_42 rfl (lv_at hl 0 rfl) ?_
    refine va_get (D := (dC, dI)) (ci := 1) (v := .int 0) (C := RX1) (T := TX1) (N := 16) hx hb hts (fun w hw => List.mem_cons_of_mem _ (List.mem_append_right _ hw)) hown hK hP 0 rfl rfl 11 (by decide) (hts (.fieldLink RX1 49 "OldStadium$Heats" "heats" "I") (List.mem_of_getElem? (i := 4) rfl)) (fun _ h9 => h9) rfl dX1_beginRound_43 ?_
    refine lv_aload_n hx hb dX1_beginRound_46 rfl (lv_at hl 0 rfl) ?_
    refine va_get (D := (dC, dI)) (ci := 1) (v := .int x9) (C := RX1) (T := TX1) (N := 16) hx hb hts (fun w hw => List.mem_cons_of_mem _ (List.mem_append_right _ hw)) hown hK hP 0 rfl rfl 9 (by decide) (hts (.fieldLink RX1 43 "OldStadium$Heats" "size" "I") (List.mem_of_getElem? (i := 2) rfl)) (fun _ h9 => h9) rfl dX1_beginRound_47 ?_
    refine lv_imul hx hb dX1_beginRound_50 ?_
    refine lv_isub hx hb dX1_beginRound_51 ?_
    refine lv_istore_n (lv' := [(1, .int (x10 - (0 * x9))), (0, .ref h0)]) hx hb dX1_beginRound_52 rfl hl (by decide) rfl (fun ls hl => ?_)
    refine lv_aload_n hx hb dX1_beginRound_53 rfl (lv_at hl 1 rfl) ?_
    refine lv_iconst (v := (-1)) hx hb dX1_beginRound_54 (by decide) ?_
    refine va_put (D := (dC, dI)) (ci := 1) (v := .int (-1)) (ty := .int) (C := RX1) (T := TX1) (N := 16) hx hb hts (fun w hw => List.mem_cons_of_mem _ (List.mem_append_right _ hw)) tyX1 tyX1_ok nmX1 hown hK hP hD hS 0 rfl rfl 12 (by decide) (hts (.fieldLink RX1 52 "OldStadium$Heats" "bye" "I") (List.mem_of_getElem? (i := 5) rfl)) (fun _ h9 => h9) rfl (by decide +kernel) rfl rfl (Nat.le_of_ble_eq_true rfl) dX1_beginRound_55 (fun H locs hP hD hS => ?_)
    replace hP : va_P (dC, dI) vwCl (wX1 cI cZ cJ cA h0 a r4 x5 x6 x7 (x8 + 1) x9 x10 0 (-1) x13 x14 o1.1 f0 f1 o1.2 f3 V4) H := hP
    replace hD : va_D A (wX1 cI cZ cJ cA h0 a r4 x5 x6 x7 (x8 + 1) x9 x10 0 (-1) x13 x14 o1.1 f0 f1 o1.2 f3 V4) := hD
    refine lv_iload_n hx hb dX1_beginRound_58 rfl (lv_at hl 0 rfl) ?_
    refine lv_iconst (v := 1) hx hb dX1_beginRound_59 (by decide) ?_
    refine lv_icmp_ne (tgt := 76) hx hb dX1_beginRound_60 (by decide) (fun c3 => ?_) (fun c3 => ?_)
    · replace hf := z_im hf c3
      refine lv_iload_n hx hb dX1_beginRound_76 rfl (lv_at hl 0 rfl) ?_
      refine lv_iconst (v := 1) hx hb dX1_beginRound_77 (by decide) ?_
      refine lv_icmp_le (tgt := 91) hx hb dX1_beginRound_78 (by decide) (fun c4 => ?_) (fun c4 => ?_)
      · replace hf := z_ip hf c4
        refine lv_aload_n hx hb dX1_beginRound_91 rfl (lv_at hl 1 rfl) ?_
        refine va_get (D := (dC, dI)) (ci := 1) (v := .ref (a 3)) (C := RX1) (T := TX1) (N := 16) hx hb hts (fun w hw => List.mem_cons_of_mem _ (List.mem_append_right _ hw)) hown hK hP 0 rfl rfl 3 (by decide) (hts (.fieldLink RX1 21 "OldStadium$Heats" "winners" "[I") (List.mem_of_getElem? (i := 6) rfl)) (fun _ h9 => h9) rfl dX1_beginRound_92 ?_
        refine lv_iconst (v := (-1)) hx hb dX1_beginRound_95 (by decide) ?_
        obtain ⟨o5, ho5, hf1⟩ := z_ib hf
        replace hf := hf1
        clear hf1
        refine z_Sv3 (As := [.ref (a 3), .int (-1)]) (rest := []) (pre := ((wX1 cI cZ cJ cA h0 a r4 x5 x6 x7 (x8 + 1) x9 x10 0 (-1) x13 x14 o1.1 f0 f1 o1.2 f3 V4)).take 4) (wc := wJFI cI cZ cJ cA (a 3) 12 f3) (post := ((wX1 cI cZ cJ cA h0 a r4 x5 x6 x7 (x8 + 1) x9 x10 0 (-1) x13 x14 o1.1 f0 f1 o1.2 f3 V4)).drop 5) ⟨hx, hb, hml, hown, hts⟩ (k_J7_fill_53178 l dC dI cI cZ cJ cA (a 3) 12 H.size N (-1) f3 o5 ho5) (va_cwS 2 hts gX1_beginRound_J7_fill_53178 rfl rfl rfl (by decide +kernel) ⟨Nat.le_trans (Nat.le_of_ble_eq_true rfl) hRf, Nat.le_trans (Nat.le_of_ble_eq_true rfl) hRl⟩) hK hP hD hS hA hN rfl hl.1 rfl (Nat.le_of_ble_eq_true rfl) dX1_beginRound_96 (fun H locs hP hD hS => ?_)
        replace hP : va_P (dC, dI) vwCl (wX1 cI cZ cJ cA h0 a r4 x5 x6 x7 (x8 + 1) x9 x10 0 (-1) x13 x14 o1.1 f0 f1 o1.2 o5 V4) H := hP
        replace hD : va_D A (wX1 cI cZ cJ cA h0 a r4 x5 x6 x7 (x8 + 1) x9 x10 0 (-1) x13 x14 o1.1 f0 f1 o1.2 o5 V4) := hD
        refine lv_iconst (v := 0) hx hb dX1_beginRound_99 (by decide) ?_
        refine lv_istore_n (lv' := [(2, .int 0), (1, .int (x10 - (0 * x9))), (0, .ref h0)]) hx hb dX1_beginRound_100 rfl hl (by decide) rfl (fun ls hl => ?_)
        obtain ⟨t6, ht6, hf1⟩ := z_ib hf
        replace hf := hf1
        clear hf1
        refine b_X1_beginRound_L101 N ⟨⟨hx, hb, hml, hown, hts⟩, hRf, hRl, hA, hN, hK⟩ N ht6 hP hD hS (lv_sub hl [2, 0] rfl) (fun H locs ls hP hD hS hl => ?_)
        refine lv_aload_n hx hb dX1_beginRound_123 rfl (lv_at hl 0 rfl) ?_
        refine va_get (D := (dC, dI)) (ci := 1) (v := .int 0) (C := RX1) (T := TX1) (N := 16) hx hb hts (fun w hw => List.mem_cons_of_mem _ (List.mem_append_right _ hw)) hown hK hP 0 rfl rfl 11 (by decide) (hts (.fieldLink RX1 49 "OldStadium$Heats" "heats" "I") (List.mem_of_getElem? (i := 4) rfl)) (fun _ h9 => h9) rfl dX1_beginRound_124 ?_
        obtain rfl := Option.some.inj hf
        exact hret _ _ _ _ _ dX1_beginRound_127 rfl hP hD hS
      · replace hf := z_im hf c4
        refine lv_aload_n hx hb dX1_beginRound_81 rfl (lv_at hl 1 rfl) ?_
        refine lv_dup hx hb dX1_beginRound_82 rfl ?_
        refine va_get (D := (dC, dI)) (ci := 1) (v := .int 0) (C := RX1) (T := TX1) (N := 16) hx hb hts (fun w hw => List.mem_cons_of_mem _ (List.mem_append_right _ hw)) hown hK hP 0 rfl rfl 11 (by decide) (hts (.fieldLink RX1 49 "OldStadium$Heats" "heats" "I") (List.mem_of_getElem? (i := 4) rfl)) (fun _ h9 => h9) rfl dX1_beginRound_83 ?_
        refine lv_iconst (v := 1) hx hb dX1_beginRound_86 (by decide) ?_
        refine lv_iadd hx hb dX1_beginRound_87 ?_
        refine va_put (D := (dC, dI)) (ci := 1) (v := .int (0 + 1)) (ty := .int) (C := RX1) (T := TX1) (N := 16) hx hb hts (fun w hw => List.mem_cons_of_mem _ (List.mem_append_right _ hw)) tyX1 tyX1_ok nmX1 hown hK hP hD hS 0 rfl rfl 11 (by decide) (hts (.fieldLink RX1 49 "OldStadium$Heats" "heats" "I") (List.mem_of_getElem? (i := 4) rfl)) (fun _ h9 => h9) rfl (by decide +kernel) rfl rfl (Nat.le_of_ble_eq_true rfl) dX1_beginRound_88 (fun H locs hP hD hS => ?_)
        replace hP : va_P (dC, dI) vwCl (wX1 cI cZ cJ cA h0 a r4 x5 x6 x7 (x8 + 1) x9 x10 (0 + 1) (-1) x13 x14 o1.1 f0 f1 o1.2 f3 V4) H := hP
        replace hD : va_D A (wX1 cI cZ cJ cA h0 a r4 x5 x6 x7 (x8 + 1) x9 x10 (0 + 1) (-1) x13 x14 o1.1 f0 f1 o1.2 f3 V4) := hD
        refine lv_aload_n hx hb dX1_beginRound_91 rfl (lv_at hl 1 rfl) ?_
        refine va_get (D := (dC, dI)) (ci := 1) (v := .ref (a 3)) (C := RX1) (T := TX1) (N := 16) hx hb hts (fun w hw => List.mem_cons_of_mem _ (List.mem_append_right _ hw)) hown hK hP 0 rfl rfl 3 (by decide) (hts (.fieldLink RX1 21 "OldStadium$Heats" "winners" "[I") (List.mem_of_getElem? (i := 6) rfl)) (fun _ h9 => h9) rfl dX1_beginRound_92 ?_
        refine lv_iconst (v := (-1)) hx hb dX1_beginRound_95 (by decide) ?_
        obtain ⟨o7, ho7, hf1⟩ := z_ib hf
        replace hf := hf1
        clear hf1
        refine z_Sv3 (As := [.ref (a 3), .int (-1)]) (rest := []) (pre := ((wX1 cI cZ cJ cA h0 a r4 x5 x6 x7 (x8 + 1) x9 x10 (0 + 1) (-1) x13 x14 o1.1 f0 f1 o1.2 f3 V4)).take 4) (wc := wJFI cI cZ cJ cA (a 3) 12 f3) (post := ((wX1 cI cZ cJ cA h0 a r4 x5 x6 x7 (x8 + 1) x9 x10 (0 + 1) (-1) x13 x14 o1.1 f0 f1 o1.2 f3 V4)).drop 5) ⟨hx, hb, hml, hown, hts⟩ (k_J7_fill_53178 l dC dI cI cZ cJ cA (a 3) 12 H.size N (-1) f3 o7 ho7) (va_cwS 2 hts gX1_beginRound_J7_fill_53178 rfl rfl rfl (by decide +kernel) ⟨Nat.le_trans (Nat.le_of_ble_eq_true rfl) hRf, Nat.le_trans (Nat.le_of_ble_eq_true rfl) hRl⟩) hK hP hD hS hA hN rfl hl.1 rfl (Nat.le_of_ble_eq_true rfl) dX1_beginRound_96 (fun H locs hP hD hS => ?_)
        replace hP : va_P (dC, dI) vwCl (wX1 cI cZ cJ cA h0 a r4 x5 x6 x7 (x8 + 1) x9 x10 (0 + 1) (-1) x13 x14 o1.1 f0 f1 o1.2 o7 V4) H := hP
        replace hD : va_D A (wX1 cI cZ cJ cA h0 a r4 x5 x6 x7 (x8 + 1) x9 x10 (0 + 1) (-1) x13 x14 o1.1 f0 f1 o1.2 o7 V4) := hD
        refine lv_iconst (v := 0) hx hb dX1_beginRound_99 (by decide) ?_
        refine lv_istore_n (lv' := [(2, .int 0), (1, .int (x10 - (0 * x9))), (0, .ref h0)]) hx hb dX1_beginRound_100 rfl hl (by decide) rfl (fun ls hl => ?_)
        obtain ⟨t8, ht8, hf1⟩ := z_ib hf
        replace hf := hf1
        clear hf1
        refine b_X1_beginRound_L101 N ⟨⟨hx, hb, hml, hown, hts⟩, hRf, hRl, hA, hN, hK⟩ N ht8 hP hD hS (lv_sub hl [2, 0] rfl) (fun H locs ls hP hD hS hl => ?_)
        refine lv_aload_n hx hb dX1_beginRound_123 rfl (lv_at hl 0 rfl) ?_
        refine va_get (D := (dC, dI)) (ci := 1) (v := .int (0 + 1)) (C := RX1) (T := TX1) (N := 16) hx hb hts (fun w hw => List.mem_cons_of_mem _ (List.mem_append_right _ hw)) hown hK hP 0 rfl rfl 11 (by decide) (hts (.fieldLink RX1 49 "OldStadium$Heats" "heats" "I") (List.mem_of_getElem? (i := 4) rfl)) (fun _ h9 => h9) rfl dX1_beginRound_124 ?_
        obtain rfl := Option.some.inj hf
        exact hret _ _ _ _ _ dX1_beginRound_127 rfl hP hD hS
    · replace hf := z_ip hf c3
      refine lv_aload_n hx hb dX1_beginRound_63 rfl (lv_at hl 1 rfl) ?_
      refine lv_aload_n hx hb dX1_beginRound_64 rfl (lv_at hl 1 rfl) ?_
      refine va_get (D := (dC, dI)) (ci := 1) (v := .int x10) (C := RX1) (T := TX1) (N := 16) hx hb hts (fun w hw => List.mem_cons_of_mem _ (List.mem_append_right _ hw)) hown hK hP 0 rfl rfl 10 (by decide) (hts (.fieldLink RX1 46 "OldStadium$Heats" "entered" "I") (List.mem_of_getElem? (i := 3) rfl)) (fun _ h9 => h9) rfl dX1_beginRound_65 ?_
      refine lv_iconst (v := 1) hx hb dX1_beginRound_68 (by decide) ?_
      refine lv_isub hx hb dX1_beginRound_69 ?_
      obtain ⟨o9, ho9, hf1⟩ := z_ib hf
      replace hf := hf1
      clear hf1
      refine z_Vv (As := [.int (x10 - 1)]) (rest := []) (w := (wX1 cI cZ cJ cA h0 a r4 x5 x6 x7 (x8 + 1) x9 x10 0 (-1) x13 x14 o1.1 f0 f1 o1.2 f3 V4)) (w1 := (wX1 cI cZ cJ cA h0 a r4 x5 x6 x7 (x8 + 1) x9 x10 0 o9.1 o9.2.1 x14 o1.1 f0 f1 o9.2.2 f3 V4)) ⟨hx, hb, hml, hown, hts⟩ (k_X1_giveBye l dC dI cI cZ cJ cA h0 a r4 H.size N (x10 - 1) x5 x6 x7 (x8 + 1) x9 x10 0 (-1) x13 x14 o1.1 f0 f1 o1.2 f3 V4 o9 ho9) (cwV 1 hts gX1_beginRound_X1_giveBye rfl rfl rfl (by decide +kernel) ⟨Nat.le_trans (Nat.le_of_ble_eq_true rfl) hRf, Nat.le_trans (Nat.le_of_ble_eq_true rfl) hRl⟩) hK hP hD hS hA hN (ci := 1) rfl rfl rfl rfl hl.1 rfl (Nat.le_of_ble_eq_true rfl) dX1_beginRound_70 (fun H locs hP hD hS => ?_)
      refine lv_goto (tgt := 91) hx hb dX1_beginRound_73 (by decide) ?_
      refine lv_aload_n hx hb dX1_beginRound_91 rfl (lv_at hl 1 rfl) ?_
      refine va_get (D := (dC, dI)) (ci := 1) (v := .ref (a 3)) (C := RX1) (T := TX1) (N := 16) hx hb hts (fun w hw => List.mem_cons_of_mem _ (List.mem_append_right _ hw)) hown hK hP 0 rfl rfl 3 (by decide) (hts (.fieldLink RX1 21 "OldStadium$Heats" "winners" "[I") (List.mem_of_getElem? (i := 6) rfl)) (fun _ h9 => h9) rfl dX1_beginRound_92 ?_
      refine lv_iconst (v := (-1)) hx hb dX1_beginRound_95 (by decide) ?_
      obtain ⟨o10, ho10, hf1⟩ := z_ib hf
      replace hf := hf1
      clear hf1
      refine z_Sv3 (As := [.ref (a 3), .int (-1)]) (rest := []) (pre := ((wX1 cI cZ cJ cA h0 a r4 x5 x6 x7 (x8 + 1) x9 x10 0 o9.1 o9.2.1 x14 o1.1 f0 f1 o9.2.2 f3 V4)).take 4) (wc := wJFI cI cZ cJ cA (a 3) 12 f3) (post := ((wX1 cI cZ cJ cA h0 a r4 x5 x6 x7 (x8 + 1) x9 x10 0 o9.1 o9.2.1 x14 o1.1 f0 f1 o9.2.2 f3 V4)).drop 5) ⟨hx, hb, hml, hown, hts⟩ (k_J7_fill_53178 l dC dI cI cZ cJ cA (a 3) 12 H.size N (-1) f3 o10 ho10) (va_cwS 2 hts gX1_beginRound_J7_fill_53178 rfl rfl rfl (by decide +kernel) ⟨Nat.le_trans (Nat.le_of_ble_eq_true rfl) hRf, Nat.le_trans (Nat.le_of_ble_eq_true rfl) hRl⟩) hK hP hD hS hA hN rfl hl.1 rfl (Nat.le_of_ble_eq_true rfl) dX1_beginRound_96 (fun H locs hP hD hS => ?_)
      replace hP : va_P (dC, dI) vwCl (wX1 cI cZ cJ cA h0 a r4 x5 x6 x7 (x8 + 1) x9 x10 0 o9.1 o9.2.1 x14 o1.1 f0 f1 o9.2.2 o10 V4) H := hP
      replace hD : va_D A (wX1 cI cZ cJ cA h0 a r4 x5 x6 x7 (x8 + 1) x9 x10 0 o9.1 o9.2.1 x14 o1.1 f0 f1 o9.2.2 o10 V4) := hD
      refine lv_iconst (v := 0) hx hb dX1_beginRound_99 (by decide) ?_
      refine lv_istore_n (lv' := [(2, .int 0), (1, .int (x10 - (0 * x9))), (0, .ref h0)]) hx hb dX1_beginRound_100 rfl hl (by decide) rfl (fun ls hl => ?_)
      obtain ⟨t11, ht11, hf1⟩ := z_ib hf
      replace hf := hf1
      clear hf1
      refine b_X1_beginRound_L101 N ⟨⟨hx, hb, hml, hown, hts⟩, hRf, hRl, hA, hN, hK⟩ N ht11 hP hD hS (lv_sub hl [2, 0] rfl) (fun H locs ls hP hD hS hl => ?_)
      refine lv_aload_n hx hb dX1_beginRound_123 rfl (lv_at hl 0 rfl) ?_
      refine va_get (D := (dC, dI)) (ci := 1) (v := .int 0) (C := RX1) (T := TX1) (N := 16) hx hb hts (fun w hw => List.mem_cons_of_mem _ (List.mem_append_right _ hw)) hown hK hP 0 rfl rfl 11 (by decide) (hts (.fieldLink RX1 49 "OldStadium$Heats" "heats" "I") (List.mem_of_getElem? (i := 4) rfl)) (fun _ h9 => h9) rfl dX1_beginRound_124 ?_
      obtain rfl := Option.some.inj hf
      exact hret _ _ _ _ _ dX1_beginRound_127 rfl hP hD hS
  · replace hf := z_im hf c2
    refine lv_aload_n hx hb dX1_beginRound_22 rfl (lv_at hl 0 rfl) ?_
    refine va_get (D := (dC, dI)) (ci := 1) (v := .int x10) (C := RX1) (T := TX1) (N := 16) hx hb hts (fun w hw => List.mem_cons_of_mem _ (List.mem_append_right _ hw)) hown hK hP 0 rfl rfl 10 (by decide) (hts (.fieldLink RX1 46 "OldStadium$Heats" "entered" "I") (List.mem_of_getElem? (i := 3) rfl)) (fun _ h9 => h9) rfl dX1_beginRound_23 ?_
    refine lv_aload_n hx hb dX1_beginRound_26 rfl (lv_at hl 0 rfl) ?_
    refine va_get (D := (dC, dI)) (ci := 1) (v := .int x9) (C := RX1) (T := TX1) (N := 16) hx hb hts (fun w hw => List.mem_cons_of_mem _ (List.mem_append_right _ hw)) hown hK hP 0 rfl rfl 9 (by decide) (hts (.fieldLink RX1 43 "OldStadium$Heats" "size" "I") (List.mem_of_getElem? (i := 2) rfl)) (fun _ h9 => h9) rfl dX1_beginRound_27 ?_
    have d12 := z_n1 hf
    replace hf := z_n2 hf
    refine lv_idiv hx hb dX1_beginRound_30 d12 ?_
    refine lv_goto (tgt := 35) hx hb dX1_beginRound_31 (by decide) ?_
    refine va_put (D := (dC, dI)) (ci := 1) (v := .int (x10 / x9)) (ty := .int) (C := RX1) (T := TX1) (N := 16) hx hb hts (fun w hw => List.mem_cons_of_mem _ (List.mem_append_right _ hw)) tyX1 tyX1_ok nmX1 hown hK hP hD hS 0 rfl rfl 11 (by decide) (hts (.fieldLink RX1 49 "OldStadium$Heats" "heats" "I") (List.mem_of_getElem? (i := 4) rfl)) (fun _ h9 => h9) rfl (by decide +kernel) rfl rfl (Nat.le_of_ble_eq_true rfl) dX1_beginRound_35 (fun H locs hP hD hS => ?_)
    replace hP : va_P (dC, dI) vwCl (wX1 cI cZ cJ cA h0 a r4 x5 x6 x7 (x8 + 1) x9 x10 (x10 / x9) x12 x13 x14 o1.1 f0 f1 o1.2 f3 V4) H := hP
    replace hD : va_D A (wX1 cI cZ cJ cA h0 a r4 x5 x6 x7 (x8 + 1) x9 x10 (x10 / x9) x12 x13 x14 o1.1 f0 f1 o1.2 f3 V4) := hD
    refine lv_aload_n hx hb dX1_beginRound_38 rfl (lv_at hl 0 rfl) ?_
    refine va_get (D := (dC, dI)) (ci := 1) (v := .int x10) (C := RX1) (T := TX1) (N := 16) hx hb hts (fun w hw => List.mem_cons_of_mem _ (List.mem_append_right _ hw)) hown hK hP 0 rfl rfl 10 (by decide) (hts (.fieldLink RX1 46 "OldStadium$Heats" "entered" "I") (List.mem_of_getElem? (i := 3) rfl)) (fun _ h9 => h9) rfl dX1_beginRound_39 ?_
    refine lv_aload_n hx hb dX1_beginRound_42 rfl (lv_at hl 0 rfl) ?_
    refine va_get (D := (dC, dI)) (ci := 1) (v := .int (x10 / x9)) (C := RX1) (T := TX1) (N := 16) hx hb hts (fun w hw => List.mem_cons_of_mem _ (List.mem_append_right _ hw)) hown hK hP 0 rfl rfl 11 (by decide) (hts (.fieldLink RX1 49 "OldStadium$Heats" "heats" "I") (List.mem_of_getElem? (i := 4) rfl)) (fun _ h9 => h9) rfl dX1_beginRound_43 ?_
    refine lv_aload_n hx hb dX1_beginRound_46 rfl (lv_at hl 0 rfl) ?_
    refine va_get (D := (dC, dI)) (ci := 1) (v := .int x9) (C := RX1) (T := TX1) (N := 16) hx hb hts (fun w hw => List.mem_cons_of_mem _ (List.mem_append_right _ hw)) hown hK hP 0 rfl rfl 9 (by decide) (hts (.fieldLink RX1 43 "OldStadium$Heats" "size" "I") (List.mem_of_getElem? (i := 2) rfl)) (fun _ h9 => h9) rfl dX1_beginRound_47 ?_
    refine lv_imul hx hb dX1_beginRound_50 ?_
    refine lv_isub hx hb dX1_beginRound_51 ?_
    refine lv_istore_n (lv' := [(1, .int (x10 - ((x10 / x9) * x9))), (0, .ref h0)]) hx hb dX1_beginRound_52 rfl hl (by decide) rfl (fun ls hl => ?_)
    refine lv_aload_n hx hb dX1_beginRound_53 rfl (lv_at hl 1 rfl) ?_
    refine lv_iconst (v := (-1)) hx hb dX1_beginRound_54 (by decide) ?_
    refine va_put (D := (dC, dI)) (ci := 1) (v := .int (-1)) (ty := .int) (C := RX1) (T := TX1) (N := 16) hx hb hts (fun w hw => List.mem_cons_of_mem _ (List.mem_append_right _ hw)) tyX1 tyX1_ok nmX1 hown hK hP hD hS 0 rfl rfl 12 (by decide) (hts (.fieldLink RX1 52 "OldStadium$Heats" "bye" "I") (List.mem_of_getElem? (i := 5) rfl)) (fun _ h9 => h9) rfl (by decide +kernel) rfl rfl (Nat.le_of_ble_eq_true rfl) dX1_beginRound_55 (fun H locs hP hD hS => ?_)
    replace hP : va_P (dC, dI) vwCl (wX1 cI cZ cJ cA h0 a r4 x5 x6 x7 (x8 + 1) x9 x10 (x10 / x9) (-1) x13 x14 o1.1 f0 f1 o1.2 f3 V4) H := hP
    replace hD : va_D A (wX1 cI cZ cJ cA h0 a r4 x5 x6 x7 (x8 + 1) x9 x10 (x10 / x9) (-1) x13 x14 o1.1 f0 f1 o1.2 f3 V4) := hD
    refine lv_iload_n hx hb dX1_beginRound_58 rfl (lv_at hl 0 rfl) ?_
    refine lv_iconst (v := 1) hx hb dX1_beginRound_59 (by decide) ?_
    refine lv_icmp_ne (tgt := 76) hx hb dX1_beginRound_60 (by decide) (fun c13 => ?_) (fun c13 => ?_)
    · replace hf := z_im hf c13
      refine lv_iload_n hx hb dX1_beginRound_76 rfl (lv_at hl 0 rfl) ?_
      refine lv_iconst (v := 1) hx hb dX1_beginRound_77 (by decide) ?_
      refine lv_icmp_le (tgt := 91) hx hb dX1_beginRound_78 (by decide) (fun c14 => ?_) (fun c14 => ?_)
      · replace hf := z_ip hf c14
        refine lv_aload_n hx hb dX1_beginRound_91 rfl (lv_at hl 1 rfl) ?_
        refine va_get (D := (dC, dI)) (ci := 1) (v := .ref (a 3)) (C := RX1) (T := TX1) (N := 16) hx hb hts (fun w hw => List.mem_cons_of_mem _ (List.mem_append_right _ hw)) hown hK hP 0 rfl rfl 3 (by decide) (hts (.fieldLink RX1 21 "OldStadium$Heats" "winners" "[I") (List.mem_of_getElem? (i := 6) rfl)) (fun _ h9 => h9) rfl dX1_beginRound_92 ?_
        refine lv_iconst (v := (-1)) hx hb dX1_beginRound_95 (by decide) ?_
        obtain ⟨o15, ho15, hf1⟩ := z_ib hf
        replace hf := hf1
        clear hf1
        refine z_Sv3 (As := [.ref (a 3), .int (-1)]) (rest := []) (pre := ((wX1 cI cZ cJ cA h0 a r4 x5 x6 x7 (x8 + 1) x9 x10 (x10 / x9) (-1) x13 x14 o1.1 f0 f1 o1.2 f3 V4)).take 4) (wc := wJFI cI cZ cJ cA (a 3) 12 f3) (post := ((wX1 cI cZ cJ cA h0 a r4 x5 x6 x7 (x8 + 1) x9 x10 (x10 / x9) (-1) x13 x14 o1.1 f0 f1 o1.2 f3 V4)).drop 5) ⟨hx, hb, hml, hown, hts⟩ (k_J7_fill_53178 l dC dI cI cZ cJ cA (a 3) 12 H.size N (-1) f3 o15 ho15) (va_cwS 2 hts gX1_beginRound_J7_fill_53178 rfl rfl rfl (by decide +kernel) ⟨Nat.le_trans (Nat.le_of_ble_eq_true rfl) hRf, Nat.le_trans (Nat.le_of_ble_eq_true rfl) hRl⟩) hK hP hD hS hA hN rfl hl.1 rfl (Nat.le_of_ble_eq_true rfl) dX1_beginRound_96 (fun H locs hP hD hS => ?_)
        replace hP : va_P (dC, dI) vwCl (wX1 cI cZ cJ cA h0 a r4 x5 x6 x7 (x8 + 1) x9 x10 (x10 / x9) (-1) x13 x14 o1.1 f0 f1 o1.2 o15 V4) H := hP
        replace hD : va_D A (wX1 cI cZ cJ cA h0 a r4 x5 x6 x7 (x8 + 1) x9 x10 (x10 / x9) (-1) x13 x14 o1.1 f0 f1 o1.2 o15 V4) := hD
        refine lv_iconst (v := 0) hx hb dX1_beginRound_99 (by decide) ?_
        refine lv_istore_n (lv' := [(2, .int 0), (1, .int (x10 - ((x10 / x9) * x9))), (0, .ref h0)]) hx hb dX1_beginRound_100 rfl hl (by decide) rfl (fun ls hl => ?_)
        obtain ⟨t16, ht16, hf1⟩ := z_ib hf
        replace hf := hf1
        clear hf1
        refine b_X1_beginRound_L101 N ⟨⟨hx, hb, hml, hown, hts⟩, hRf, hRl, hA, hN, hK⟩ N ht16 hP hD hS (lv_sub hl [2, 0] rfl) (fun H locs ls hP hD hS hl => ?_)
        refine lv_aload_n hx hb dX1_beginRound_123 rfl (lv_at hl 0 rfl) ?_
        refine va_get (D := (dC, dI)) (ci := 1) (v := .int (x10 / x9)) (C := RX1) (T := TX1) (N := 16) hx hb hts (fun w hw => List.mem_cons_of_mem _ (List.mem_append_right _ hw)) hown hK hP 0 rfl rfl 11 (by decide) (hts (.fieldLink RX1 49 "OldStadium$Heats" "heats" "I") (List.mem_of_getElem? (i := 4) rfl)) (fun _ h9 => h9) rfl dX1_beginRound_124 ?_
        obtain rfl := Option.some.inj hf
        exact hret _ _ _ _ _ dX1_beginRound_127 rfl hP hD hS
      · replace hf := z_im hf c14
        refine lv_aload_n hx hb dX1_beginRound_81 rfl (lv_at hl 1 rfl) ?_
        refine lv_dup hx hb dX1_beginRound_82 rfl ?_
        refine va_get (D := (dC, dI)) (ci := 1) (v := .int (x10 / x9)) (C := RX1) (T := TX1) (N := 16) hx hb hts (fun w hw => List.mem_cons_of_mem _ (List.mem_append_right _ hw)) hown hK hP 0 rfl rfl 11 (by decide) (hts (.fieldLink RX1 49 "OldStadium$Heats" "heats" "I") (List.mem_of_getElem? (i := 4) rfl)) (fun _ h9 => h9) rfl dX1_beginRound_83 ?_
        refine lv_iconst (v := 1) hx hb dX1_beginRound_86 (by decide) ?_
        refine lv_iadd hx hb dX1_beginRound_87 ?_
        refine va_put (D := (dC, dI)) (ci := 1) (v := .int ((x10 / x9) + 1)) (ty := .int) (C := RX1) (T := TX1) (N := 16) hx hb hts (fun w hw => List.mem_cons_of_mem _ (List.mem_append_right _ hw)) tyX1 tyX1_ok nmX1 hown hK hP hD hS 0 rfl rfl 11 (by decide) (hts (.fieldLink RX1 49 "OldStadium$Heats" "heats" "I") (List.mem_of_getElem? (i := 4) rfl)) (fun _ h9 => h9) rfl (by decide +kernel) rfl rfl (Nat.le_of_ble_eq_true rfl) dX1_beginRound_88 (fun H locs hP hD hS => ?_)
        replace hP : va_P (dC, dI) vwCl (wX1 cI cZ cJ cA h0 a r4 x5 x6 x7 (x8 + 1) x9 x10 ((x10 / x9) + 1) (-1) x13 x14 o1.1 f0 f1 o1.2 f3 V4) H := hP
        replace hD : va_D A (wX1 cI cZ cJ cA h0 a r4 x5 x6 x7 (x8 + 1) x9 x10 ((x10 / x9) + 1) (-1) x13 x14 o1.1 f0 f1 o1.2 f3 V4) := hD
        refine lv_aload_n hx hb dX1_beginRound_91 rfl (lv_at hl 1 rfl) ?_
        refine va_get (D := (dC, dI)) (ci := 1) (v := .ref (a 3)) (C := RX1) (T := TX1) (N := 16) hx hb hts (fun w hw => List.mem_cons_of_mem _ (List.mem_append_right _ hw)) hown hK hP 0 rfl rfl 3 (by decide) (hts (.fieldLink RX1 21 "OldStadium$Heats" "winners" "[I") (List.mem_of_getElem? (i := 6) rfl)) (fun _ h9 => h9) rfl dX1_beginRound_92 ?_
        refine lv_iconst (v := (-1)) hx hb dX1_beginRound_95 (by decide) ?_
        obtain ⟨o17, ho17, hf1⟩ := z_ib hf
        replace hf := hf1
        clear hf1
        refine z_Sv3 (As := [.ref (a 3), .int (-1)]) (rest := []) (pre := ((wX1 cI cZ cJ cA h0 a r4 x5 x6 x7 (x8 + 1) x9 x10 ((x10 / x9) + 1) (-1) x13 x14 o1.1 f0 f1 o1.2 f3 V4)).take 4) (wc := wJFI cI cZ cJ cA (a 3) 12 f3) (post := ((wX1 cI cZ cJ cA h0 a r4 x5 x6 x7 (x8 + 1) x9 x10 ((x10 / x9) + 1) (-1) x13 x14 o1.1 f0 f1 o1.2 f3 V4)).drop 5) ⟨hx, hb, hml, hown, hts⟩ (k_J7_fill_53178 l dC dI cI cZ cJ cA (a 3) 12 H.size N (-1) f3 o17 ho17) (va_cwS 2 hts gX1_beginRound_J7_fill_53178 rfl rfl rfl (by decide +kernel) ⟨Nat.le_trans (Nat.le_of_ble_eq_true rfl) hRf, Nat.le_trans (Nat.le_of_ble_eq_true rfl) hRl⟩) hK hP hD hS hA hN rfl hl.1 rfl (Nat.le_of_ble_eq_true rfl) dX1_beginRound_96 (fun H locs hP hD hS => ?_)
        replace hP : va_P (dC, dI) vwCl (wX1 cI cZ cJ cA h0 a r4 x5 x6 x7 (x8 + 1) x9 x10 ((x10 / x9) + 1) (-1) x13 x14 o1.1 f0 f1 o1.2 o17 V4) H := hP
        replace hD : va_D A (wX1 cI cZ cJ cA h0 a r4 x5 x6 x7 (x8 + 1) x9 x10 ((x10 / x9) + 1) (-1) x13 x14 o1.1 f0 f1 o1.2 o17 V4) := hD
        refine lv_iconst (v := 0) hx hb dX1_beginRound_99 (by decide) ?_
        refine lv_istore_n (lv' := [(2, .int 0), (1, .int (x10 - ((x10 / x9) * x9))), (0, .ref h0)]) hx hb dX1_beginRound_100 rfl hl (by decide) rfl (fun ls hl => ?_)
        obtain ⟨t18, ht18, hf1⟩ := z_ib hf
        replace hf := hf1
        clear hf1
        refine b_X1_beginRound_L101 N ⟨⟨hx, hb, hml, hown, hts⟩, hRf, hRl, hA, hN, hK⟩ N ht18 hP hD hS (lv_sub hl [2, 0] rfl) (fun H locs ls hP hD hS hl => ?_)
        refine lv_aload_n hx hb dX1_beginRound_123 rfl (lv_at hl 0 rfl) ?_
        refine va_get (D := (dC, dI)) (ci := 1) (v := .int ((x10 / x9) + 1)) (C := RX1) (T := TX1) (N := 16) hx hb hts (fun w hw => List.mem_cons_of_mem _ (List.mem_append_right _ hw)) hown hK hP 0 rfl rfl 11 (by decide) (hts (.fieldLink RX1 49 "OldStadium$Heats" "heats" "I") (List.mem_of_getElem? (i := 4) rfl)) (fun _ h9 => h9) rfl dX1_beginRound_124 ?_
        obtain rfl := Option.some.inj hf
        exact hret _ _ _ _ _ dX1_beginRound_127 rfl hP hD hS
    · replace hf := z_ip hf c13
      refine lv_aload_n hx hb dX1_beginRound_63 rfl (lv_at hl 1 rfl) ?_
      refine lv_aload_n hx hb dX1_beginRound_64 rfl (lv_at hl 1 rfl) ?_
      refine va_get (D := (dC, dI)) (ci := 1) (v := .int x10) (C := RX1) (T := TX1) (N := 16) hx hb hts (fun w hw => List.mem_cons_of_mem _ (List.mem_append_right _ hw)) hown hK hP 0 rfl rfl 10 (by decide) (hts (.fieldLink RX1 46 "OldStadium$Heats" "entered" "I") (List.mem_of_getElem? (i := 3) rfl)) (fun _ h9 => h9) rfl dX1_beginRound_65 ?_
      refine lv_iconst (v := 1) hx hb dX1_beginRound_68 (by decide) ?_
      refine lv_isub hx hb dX1_beginRound_69 ?_
      obtain ⟨o19, ho19, hf1⟩ := z_ib hf
      replace hf := hf1
      clear hf1
      refine z_Vv (As := [.int (x10 - 1)]) (rest := []) (w := (wX1 cI cZ cJ cA h0 a r4 x5 x6 x7 (x8 + 1) x9 x10 (x10 / x9) (-1) x13 x14 o1.1 f0 f1 o1.2 f3 V4)) (w1 := (wX1 cI cZ cJ cA h0 a r4 x5 x6 x7 (x8 + 1) x9 x10 (x10 / x9) o19.1 o19.2.1 x14 o1.1 f0 f1 o19.2.2 f3 V4)) ⟨hx, hb, hml, hown, hts⟩ (k_X1_giveBye l dC dI cI cZ cJ cA h0 a r4 H.size N (x10 - 1) x5 x6 x7 (x8 + 1) x9 x10 (x10 / x9) (-1) x13 x14 o1.1 f0 f1 o1.2 f3 V4 o19 ho19) (cwV 1 hts gX1_beginRound_X1_giveBye rfl rfl rfl (by decide +kernel) ⟨Nat.le_trans (Nat.le_of_ble_eq_true rfl) hRf, Nat.le_trans (Nat.le_of_ble_eq_true rfl) hRl⟩) hK hP hD hS hA hN (ci := 1) rfl rfl rfl rfl hl.1 rfl (Nat.le_of_ble_eq_true rfl) dX1_beginRound_70 (fun H locs hP hD hS => ?_)
      refine lv_goto (tgt := 91) hx hb dX1_beginRound_73 (by decide) ?_
      refine lv_aload_n hx hb dX1_beginRound_91 rfl (lv_at hl 1 rfl) ?_
      refine va_get (D := (dC, dI)) (ci := 1) (v := .ref (a 3)) (C := RX1) (T := TX1) (N := 16) hx hb hts (fun w hw => List.mem_cons_of_mem _ (List.mem_append_right _ hw)) hown hK hP 0 rfl rfl 3 (by decide) (hts (.fieldLink RX1 21 "OldStadium$Heats" "winners" "[I") (List.mem_of_getElem? (i := 6) rfl)) (fun _ h9 => h9) rfl dX1_beginRound_92 ?_
      refine lv_iconst (v := (-1)) hx hb dX1_beginRound_95 (by decide) ?_
      obtain ⟨o20, ho20, hf1⟩ := z_ib hf
      replace hf := hf1
      clear hf1
      refine z_Sv3 (As := [.ref (a 3), .int (-1)]) (rest := []) (pre := ((wX1 cI cZ cJ cA h0 a r4 x5 x6 x7 (x8 + 1) x9 x10 (x10 / x9) o19.1 o19.2.1 x14 o1.1 f0 f1 o19.2.2 f3 V4)).take 4) (wc := wJFI cI cZ cJ cA (a 3) 12 f3) (post := ((wX1 cI cZ cJ cA h0 a r4 x5 x6 x7 (x8 + 1) x9 x10 (x10 / x9) o19.1 o19.2.1 x14 o1.1 f0 f1 o19.2.2 f3 V4)).drop 5) ⟨hx, hb, hml, hown, hts⟩ (k_J7_fill_53178 l dC dI cI cZ cJ cA (a 3) 12 H.size N (-1) f3 o20 ho20) (va_cwS 2 hts gX1_beginRound_J7_fill_53178 rfl rfl rfl (by decide +kernel) ⟨Nat.le_trans (Nat.le_of_ble_eq_true rfl) hRf, Nat.le_trans (Nat.le_of_ble_eq_true rfl) hRl⟩) hK hP hD hS hA hN rfl hl.1 rfl (Nat.le_of_ble_eq_true rfl) dX1_beginRound_96 (fun H locs hP hD hS => ?_)
      replace hP : va_P (dC, dI) vwCl (wX1 cI cZ cJ cA h0 a r4 x5 x6 x7 (x8 + 1) x9 x10 (x10 / x9) o19.1 o19.2.1 x14 o1.1 f0 f1 o19.2.2 o20 V4) H := hP
      replace hD : va_D A (wX1 cI cZ cJ cA h0 a r4 x5 x6 x7 (x8 + 1) x9 x10 (x10 / x9) o19.1 o19.2.1 x14 o1.1 f0 f1 o19.2.2 o20 V4) := hD
      refine lv_iconst (v := 0) hx hb dX1_beginRound_99 (by decide) ?_
      refine lv_istore_n (lv' := [(2, .int 0), (1, .int (x10 - ((x10 / x9) * x9))), (0, .ref h0)]) hx hb dX1_beginRound_100 rfl hl (by decide) rfl (fun ls hl => ?_)
      obtain ⟨t21, ht21, hf1⟩ := z_ib hf
      replace hf := hf1
      clear hf1
      refine b_X1_beginRound_L101 N ⟨⟨hx, hb, hml, hown, hts⟩, hRf, hRl, hA, hN, hK⟩ N ht21 hP hD hS (lv_sub hl [2, 0] rfl) (fun H locs ls hP hD hS hl => ?_)
      refine lv_aload_n hx hb dX1_beginRound_123 rfl (lv_at hl 0 rfl) ?_
      refine va_get (D := (dC, dI)) (ci := 1) (v := .int (x10 / x9)) (C := RX1) (T := TX1) (N := 16) hx hb hts (fun w hw => List.mem_cons_of_mem _ (List.mem_append_right _ hw)) hown hK hP 0 rfl rfl 11 (by decide) (hts (.fieldLink RX1 49 "OldStadium$Heats" "heats" "I") (List.mem_of_getElem? (i := 4) rfl)) (fun _ h9 => h9) rfl dX1_beginRound_124 ?_
      obtain rfl := Option.some.inj hf
      exact hret _ _ _ _ _ dX1_beginRound_127 rfl hP hD hS
set_option maxHeartbeats 4000000 in
set_option maxRecDepth 100000 in
theorem k_X1_beginRound (l : Launch) (dC : Nat → ClassId) (dI : Nat → Nat → Nat) (cI cZ cJ cA : ClassId) (h0 : Nat) (a : Nat → Nat) (r4 : Nat → Nat) (sz : Nat) (N : Nat) (x5 : Int32) (x6 : Int32) (x7 : Int32) (x8 : Int32) (x9 : Int32) (x10 : Int32) (x11 : Int32) (x12 : Int32) (x13 : Int32) (x14 : Int32) (x15 : Int32) (f0 : (Nat → Int32)) (f1 : (Nat → Int32)) (f2 : (Nat → Int32)) (f3 : (Nat → Int32)) (V4 : (Nat → Nat → Int32)) (o : (Int32 × Int32 × Int32 × Int32 × Int32 × Int32 × (Nat → Int32) × (Nat → Int32) × (Nat → Nat → Int32))) (hf : q_X1_beginRound N x8 x9 x10 x11 x12 x13 x15 f2 f3 V4 = some o) : Met l yX1_beginRound wsX1_beginRound ({ frames := 3, cells := 0, slots := 0, locals := 64 } : Room) (z_Pre dC dI (z_ty cI cZ cJ cA) [.ref h0] sz (wX1 cI cZ cJ cA h0 a r4 x5 x6 x7 x8 x9 x10 x11 x12 x13 x14 x15 f0 f1 f2 f3 V4)) (z_Pi dC dI o.1 (wX1 cI cZ cJ cA h0 a r4 x5 x6 x7 o.2.1 x9 x10 o.2.2.1 o.2.2.2.1 o.2.2.2.2.1 x14 o.2.2.2.2.2.1 f0 f1 o.2.2.2.2.2.2.1 o.2.2.2.2.2.2.2.1 o.2.2.2.2.2.2.2.2) sz (wX1 cI cZ cJ cA h0 a r4 x5 x6 x7 x8 x9 x10 x11 x12 x13 x14 x15 f0 f1 f2 f3 V4)) 0 0 (va_A (wX1 cI cZ cJ cA h0 a r4 x5 x6 x7 x8 x9 x10 x11 x12 x13 x14 x15 f0 f1 f2 f3 V4) sz) := by
  refine Met.ofW (cc := cX1_beginRound) (maxL := 3) (ret := (some .int)) (by decide) rfl ?_
  intro p e s m args below meth c s₁ B hml hv
  obtain ⟨rfl, hsz, hP, hK, hD0, hN⟩ := hv
  subst hsz
  have hl := lv_entry ([.ref h0]) (n := 3) (Nat.le_of_ble_eq_true rfl)
  rw [lg_entry_eq]
  refine b_X1_beginRound N ⟨⟨B.exec, B.bytes, hml, findClass_of_methodNamed B.named, atoms_spec (ws := wsX1_beginRound) B.pre⟩, Nat.le_refl _, Nat.le_refl _, fun q h => Or.inr h, hN, hK⟩ hf hP hD0.self va_S.rf hl (fun pc H locs ls r hd hr hP hD hS => ?_)
  subst hr
  exact W.iret B.exec B.bytes B.returns (fun t ht hW => ⟨⟨_, (), rfl, rfl, by rw [ht]; exact hP, hD⟩, hS.F ht⟩) hS.2.2 hd
def q_X1_begin (N : Nat) (v1 : Int32) (v2 : Int32) (v3 : Int32) (x5 : Int32) (x7 : Int32) (x8 : Int32) (x9 : Int32) (x10 : Int32) (x11 : Int32) (x12 : Int32) (x13 : Int32) (x14 : Int32) (x15 : Int32) (f2 : (Nat → Int32)) (f3 : (Nat → Int32)) (V4 : (Nat → Nat → Int32)) : Option (Int32 × Int32 × Int32 × Int32 × Int32 × Int32 × Int32 × Int32 × Int32 × Int32 × (Nat → Int32) × (Nat → Int32) × (Nat → Nat → Int32)) :=
  (if v1 = 1 then
   (if v1 < 0 then
    (some ((-1), x7, x8, x9, x10, x11, x12, x13, x14, x15, f2, f3, V4))
   else
    (if 1 < v1 then
     (some ((-1), x7, x8, x9, x10, x11, x12, x13, x14, x15, f2, f3, V4))
    else
     (if x5 = 0 then
      (some ((-1), x7, x8, x9, x10, x11, x12, x13, x14, x15, f2, f3, V4))
     else
      (Option.bind (q_X1_enter N (-1) x5 x10 f2) (fun o12 =>
      (Option.bind (q_X1_beginRound N 0 2 o12.1 x11 x12 0 v3 o12.2 f3 V4) (fun o13 =>
      (some (o13.1, 1, o13.2.1, 2, o12.1, o13.2.2.1, o13.2.2.2.1, o13.2.2.2.2.1, (-1), o13.2.2.2.2.2.1, o13.2.2.2.2.2.2.1, o13.2.2.2.2.2.2.2.1, o13.2.2.2.2.2.2.2.2)))))))))
  else
   (if v1 < 0 then
    (some ((-1), x7, x8, x9, x10, x11, x12, x13, x14, x15, f2, f3, V4))
   else
    (if 1 < v1 then
     (some ((-1), x7, x8, x9, x10, x11, x12, x13, x14, x15, f2, f3, V4))
    else
     (if v2 < 2 then
      (some ((-1), x7, x8, x9, x10, x11, x12, x13, x14, x15, f2, f3, V4))
     else
      (if 6 < v2 then
       (some ((-1), x7, x8, x9, x10, x11, x12, x13, x14, x15, f2, f3, V4))
      else
       (if x5 = 0 then
        (some ((-1), x7, x8, x9, x10, x11, x12, x13, x14, x15, f2, f3, V4))
       else
        (Option.bind (q_X1_enter N (-1) x5 x10 f2) (fun o7 =>
        (Option.bind (q_X1_beginRound N 0 v2 o7.1 x11 x12 0 v3 o7.2 f3 V4) (fun o8 =>
        (some (o8.1, 1, o8.2.1, v2, o7.1, o8.2.2.1, o8.2.2.2.1, o8.2.2.2.2.1, (-1), o8.2.2.2.2.2.1, o8.2.2.2.2.2.2.1, o8.2.2.2.2.2.2.2.1, o8.2.2.2.2.2.2.2.2))))))))))))
set_option maxHeartbeats 4000000 in
set_option maxRecDepth 100000 in
theorem b_X1_begin {p : Program} {l : Launch} {e : Env} {R : Room} {s : State} {m : MethodId} {args : Array Value} {below : List Frame} {meth : Method} {c : Code} {Q : State → Prop} {A : Nat → Prop} {dC : Nat → ClassId} {dI : Nat → Nat → Nat} {cI cZ cJ cA : ClassId} {h0 : Nat} {a : Nat → Nat} {r4 : Nat → Nat} (N : Nat) (C0 : z_Cx p s m args c cX1_begin 5 wsX1_begin RX1 R 4 86 A dC dI (z_ty cI cZ cJ cA)) {v1 : Int32} {v2 : Int32} {v3 : Int32} {x5 : Int32} {x6 : Int32} {x7 : Int32} {x8 : Int32} {x9 : Int32} {x10 : Int32} {x11 : Int32} {x12 : Int32} {x13 : Int32} {x14 : Int32} {x15 : Int32} {f0 : (Nat → Int32)} {f1 : (Nat → Int32)} {f2 : (Nat → Int32)} {f3 : (Nat → Int32)} {V4 : (Nat → Nat → Int32)} {o : (Int32 × Int32 × Int32 × Int32 × Int32 × Int32 × Int32 × Int32 × Int32 × Int32 × (Nat → Int32) × (Nat → Int32) × (Nat → Nat → Int32))} {H : Heap} {locs : List Loc} {ls : Array Slot} (hf : q_X1_begin N v1 v2 v3 x5 x7 x8 x9 x10 x11 x12 x13 x14 x15 f2 f3 V4 = some o) (hP : va_P (dC, dI) vwCl (wX1 cI cZ cJ cA h0 a r4 x5 x6 x7 x8 x9 x10 x11 x12 x13 x14 x15 f0 f1 f2 f3 V4) H) (hD : va_D A (wX1 cI cZ cJ cA h0 a r4 x5 x6 x7 x8 x9 x10 x11 x12 x13 x14 x15 f0 f1 f2 f3 V4)) (hS : va_S A s.heap H locs) (hl : lv_has ls 5 [(0, .ref h0), (1, .int v1), (2, .int v2), (3, .int v3)])
    (hret : ∀ (pc : Nat) (H : Heap) (locs : List Loc) (ls : Array Slot) (r : Int32), decode cX1_begin pc = .ok (.ireturn, 1) → r = o.1 → va_P (dC, dI) vwCl (wX1 cI cZ cJ cA h0 a r4 x5 x6 o.2.1 o.2.2.1 o.2.2.2.1 o.2.2.2.2.1 o.2.2.2.2.2.1 o.2.2.2.2.2.2.1 o.2.2.2.2.2.2.2.1 o.2.2.2.2.2.2.2.2.1 o.2.2.2.2.2.2.2.2.2.1 f0 f1 o.2.2.2.2.2.2.2.2.2.2.1 o.2.2.2.2.2.2.2.2.2.2.2.1 o.2.2.2.2.2.2.2.2.2.2.2.2) H → va_D A (wX1 cI cZ cJ cA h0 a r4 x5 x6 o.2.1 o.2.2.1 o.2.2.2.1 o.2.2.2.2.1 o.2.2.2.2.2.1 o.2.2.2.2.2.2.1 o.2.2.2.2.2.2.2.1 o.2.2.2.2.2.2.2.2.1 o.2.2.2.2.2.2.2.2.2.1 f0 f1 o.2.2.2.2.2.2.2.2.2.2.1 o.2.2.2.2.2.2.2.2.2.2.2.1 o.2.2.2.2.2.2.2.2.2.2.2.2) → va_S A s.heap H locs → W p l e R s m args below meth c H locs 0 0 Q (F0 m pc ls [.int r])) :
    W p l e R s m args below meth c H locs 0 0 Q (F0 m 0 ls []) := by
  obtain ⟨⟨hx, hb, hml, hown, hts⟩, hRf, hRl, hA, hN, hK⟩ := C0
  unfold q_X1_begin at hf
  refine lv_iload_n hx hb dX1_begin_0 rfl (lv_at hl 1 rfl) ?_
  refine lv_iconst (v := 1) hx hb dX1_begin_1 (by decide) ?_
  refine lv_icmp_ne (tgt := 9) hx hb dX1_begin_2 (by decide) (fun c1 => ?_) (fun c1 => ?_)
  · replace hf := z_im hf c1
    refine lv_iload_n hx hb dX1_begin_9 rfl (lv_at hl 2 rfl) ?_
    refine lv_istore (lv' := [(4, .int v2), (0, .ref h0), (1, .int v1), (2, .int v2), (3, .int v3)]) hx hb dX1_begin_10 hl (by decide) rfl (fun ls hl => ?_)
    refine lv_iload_n hx hb dX1_begin_12 rfl (lv_at hl 2 rfl) ?_
    refine lv_if_lt (tgt := 41) hx hb dX1_begin_13 (by decide) (fun c2 => ?_) (fun c2 => ?_)
    · replace hf := z_ip hf c2
      refine lv_iconst (v := (-1)) hx hb dX1_begin_41 (by decide) ?_
      obtain rfl := Option.some.inj hf
      exact hret _ _ _ _ _ dX1_begin_42 rfl hP hD hS
    · replace hf := z_im hf c2
      refine lv_iload_n hx hb dX1_begin_16 rfl (lv_at hl 2 rfl) ?_
      refine lv_iconst (v := 1) hx hb dX1_begin_17 (by decide) ?_
      refine lv_icmp_gt (tgt := 41) hx hb dX1_begin_18 (by decide) (fun c3 => ?_) (fun c3 => ?_)
      · replace hf := z_ip hf c3
        refine lv_iconst (v := (-1)) hx hb dX1_begin_41 (by decide) ?_
        obtain rfl := Option.some.inj hf
        exact hret _ _ _ _ _ dX1_begin_42 rfl hP hD hS
      · replace hf := z_im hf c3
        refine lv_iload hx hb dX1_begin_21 (lv_at hl 0 rfl) ?_
        refine lv_iconst (v := 2) hx hb dX1_begin_23 (by decide) ?_
        refine lv_icmp_lt (tgt := 41) hx hb dX1_begin_24 (by decide) (fun c4 => ?_) (fun c4 => ?_)
        · replace hf := z_ip hf c4
          refine lv_iconst (v := (-1)) hx hb dX1_begin_41 (by decide) ?_
          obtain rfl := Option.some.inj hf
          exact hret _ _ _ _ _ dX1_begin_42 rfl hP hD hS
        · replace hf := z_im hf c4
          refine lv_iload hx hb dX1_begin_27 (lv_at hl 0 rfl) ?_
          refine lv_bipush (v := 6) hx hb dX1_begin_29 (by decide) ?_
          refine lv_icmp_gt (tgt := 41) hx hb dX1_begin_31 (by decide) (fun c5 => ?_) (fun c5 => ?_)
          · replace hf := z_ip hf c5
            refine lv_iconst (v := (-1)) hx hb dX1_begin_41 (by decide) ?_
            obtain rfl := Option.some.inj hf
            exact hret _ _ _ _ _ dX1_begin_42 rfl hP hD hS
          · replace hf := z_im hf c5
            refine lv_aload_n hx hb dX1_begin_34 rfl (lv_at hl 1 rfl) ?_
            refine va_get (D := (dC, dI)) (ci := 1) (v := .int x5) (C := RX1) (T := TX1) (N := 16) hx hb hts (fun w hw => List.mem_cons_of_mem _ (List.mem_append_right _ hw)) hown hK hP 0 rfl rfl 5 (by decide) (hts (.fieldLink RX1 29 "OldStadium$Heats" "runners" "I") (List.mem_of_getElem? (i := 1) rfl)) (fun _ h9 => h9) rfl dX1_begin_35 ?_
            refine lv_if_ne (tgt := 43) hx hb dX1_begin_38 (by decide) (fun c6 => ?_) (fun c6 => ?_)
            · replace hf := z_im hf c6
              refine lv_aload_n hx hb dX1_begin_43 rfl (lv_at hl 1 rfl) ?_
              refine lv_iload hx hb dX1_begin_44 (lv_at hl 0 rfl) ?_
              refine va_put (D := (dC, dI)) (ci := 1) (v := .int v2) (ty := .int) (C := RX1) (T := TX1) (N := 16) hx hb hts (fun w hw => List.mem_cons_of_mem _ (List.mem_append_right _ hw)) tyX1 tyX1_ok nmX1 hown hK hP hD hS 0 rfl rfl 9 (by decide) (hts (.fieldLink RX1 43 "OldStadium$Heats" "size" "I") (List.mem_of_getElem? (i := 2) rfl)) (fun _ h9 => h9) rfl (by decide +kernel) rfl rfl (Nat.le_of_ble_eq_true rfl) dX1_begin_46 (fun H locs hP hD hS => ?_)
              replace hP : va_P (dC, dI) vwCl (wX1 cI cZ cJ cA h0 a r4 x5 x6 x7 x8 v2 x10 x11 x12 x13 x14 x15 f0 f1 f2 f3 V4) H := hP
              replace hD : va_D A (wX1 cI cZ cJ cA h0 a r4 x5 x6 x7 x8 v2 x10 x11 x12 x13 x14 x15 f0 f1 f2 f3 V4) := hD
              refine lv_aload_n hx hb dX1_begin_49 rfl (lv_at hl 1 rfl) ?_
              refine lv_iload_n hx hb dX1_begin_50 rfl (lv_at hl 4 rfl) ?_
              refine va_put (D := (dC, dI)) (ci := 1) (v := .int v3) (ty := .int) (C := RX1) (T := TX1) (N := 16) hx hb hts (fun w hw => List.mem_cons_of_mem _ (List.mem_append_right _ hw)) tyX1 tyX1_ok nmX1 hown hK hP hD hS 0 rfl rfl 15 (by decide) (hts (.fieldLink RX1 61 "OldStadium$Heats" "lot" "I") (List.mem_of_getElem? (i := 3) rfl)) (fun _ h9 => h9) rfl (by decide +kernel) rfl rfl (Nat.le_of_ble_eq_true rfl) dX1_begin_51 (fun H locs hP hD hS => ?_)
              replace hP : va_P (dC, dI) vwCl (wX1 cI cZ cJ cA h0 a r4 x5 x6 x7 x8 v2 x10 x11 x12 x13 x14 v3 f0 f1 f2 f3 V4) H := hP
              replace hD : va_D A (wX1 cI cZ cJ cA h0 a r4 x5 x6 x7 x8 v2 x10 x11 x12 x13 x14 v3 f0 f1 f2 f3 V4) := hD
              refine lv_aload_n hx hb dX1_begin_54 rfl (lv_at hl 1 rfl) ?_
              refine lv_iconst (v := 0) hx hb dX1_begin_55 (by decide) ?_
              refine va_put (D := (dC, dI)) (ci := 1) (v := .int 0) (ty := .int) (C := RX1) (T := TX1) (N := 16) hx hb hts (fun w hw => List.mem_cons_of_mem _ (List.mem_append_right _ hw)) tyX1 tyX1_ok nmX1 hown hK hP hD hS 0 rfl rfl 8 (by decide) (hts (.fieldLink RX1 40 "OldStadium$Heats" "round" "I") (List.mem_of_getElem? (i := 4) rfl)) (fun _ h9 => h9) rfl (by decide +kernel) rfl rfl (Nat.le_of_ble_eq_true rfl) dX1_begin_56 (fun H locs hP hD hS => ?_)
              replace hP : va_P (dC, dI) vwCl (wX1 cI cZ cJ cA h0 a r4 x5 x6 x7 0 v2 x10 x11 x12 x13 x14 v3 f0 f1 f2 f3 V4) H := hP
              replace hD : va_D A (wX1 cI cZ cJ cA h0 a r4 x5 x6 x7 0 v2 x10 x11 x12 x13 x14 v3 f0 f1 f2 f3 V4) := hD
              refine lv_aload_n hx hb dX1_begin_59 rfl (lv_at hl 1 rfl) ?_
              refine lv_iconst (v := 0) hx hb dX1_begin_60 (by decide) ?_
              refine va_put (D := (dC, dI)) (ci := 1) (v := .int 0) (ty := .int) (C := RX1) (T := TX1) (N := 16) hx hb hts (fun w hw => List.mem_cons_of_mem _ (List.mem_append_right _ hw)) tyX1 tyX1_ok nmX1 hown hK hP hD hS 0 rfl rfl 13 (by decide) (hts (.fieldLink RX1 55 "OldStadium$Heats" "byesHad" "I") (List.mem_of_getElem? (i := 5) rfl)) (fun _ h9 => h9) rfl (by decide +kernel) rfl rfl (Nat.le_of_ble_eq_true rfl) dX1_begin_61 (fun H locs hP hD hS => ?_)
              replace hP : va_P (dC, dI) vwCl (wX1 cI cZ cJ cA h0 a r4 x5 x6 x7 0 v2 x10 x11 x12 0 x14 v3 f0 f1 f2 f3 V4) H := hP
              replace hD : va_D A (wX1 cI cZ cJ cA h0 a r4 x5 x6 x7 0 v2 x10 x11 x12 0 x14 v3 f0 f1 f2 f3 V4) := hD
              refine lv_aload_n hx hb dX1_begin_64 rfl (lv_at hl 1 rfl) ?_
              refine lv_iconst (v := (-1)) hx hb dX1_begin_65 (by decide) ?_
              refine va_put (D := (dC, dI)) (ci := 1) (v := .int (-1)) (ty := .int) (C := RX1) (T := TX1) (N := 16) hx hb hts (fun w hw => List.mem_cons_of_mem _ (List.mem_append_right _ hw)) tyX1 tyX1_ok nmX1 hown hK hP hD hS 0 rfl rfl 14 (by decide) (hts (.fieldLink RX1 58 "OldStadium$Heats" "victo\x72" "I") (List.mem_of_getElem? (i := 6) rfl)) (fun _ h9 => h9) rfl (by decide +kernel) rfl rfl (Nat.le_of_ble_eq_true rfl) dX1_begin_66 (fun H locs hP hD hS => ?_)
              replace hP : va_P (dC, dI) vwCl (wX1 cI cZ cJ cA h0 a r4 x5 x6 x7 0 v2 x10 x11 x12 0 (-1) v3 f0 f1 f2 f3 V4) H := hP
              replace hD : va_D A (wX1 cI cZ cJ cA h0 a r4 x5 x6 x7 0 v2 x10 x11 x12 0 (-1) v3 f0 f1 f2 f3 V4) := hD
              refine lv_aload_n hx hb dX1_begin_69 rfl (lv_at hl 1 rfl) ?_
              refine lv_iconst (v := 1) hx hb dX1_begin_70 (by decide) ?_
              refine va_put (D := (dC, dI)) (ci := 1) (v := .int 1) (ty := .boolean) (C := RX1) (T := TX1) (N := 16) hx hb hts (fun w hw => List.mem_cons_of_mem _ (List.mem_append_right _ hw)) tyX1 tyX1_ok nmX1 hown hK hP hD hS 0 rfl rfl 7 (by decide) (hts (.fieldLink RX1 36 "OldStadium$Heats" "going" "Z") (List.mem_of_getElem? (i := 7) rfl)) (fun _ h9 => h9) rfl (by decide +kernel) rfl rfl (Nat.le_of_ble_eq_true rfl) dX1_begin_71 (fun H locs hP hD hS => ?_)
              replace hP : va_P (dC, dI) vwCl (wX1 cI cZ cJ cA h0 a r4 x5 x6 1 0 v2 x10 x11 x12 0 (-1) v3 f0 f1 f2 f3 V4) H := hP
              replace hD : va_D A (wX1 cI cZ cJ cA h0 a r4 x5 x6 1 0 v2 x10 x11 x12 0 (-1) v3 f0 f1 f2 f3 V4) := hD
              refine lv_aload_n hx hb dX1_begin_74 rfl (lv_at hl 1 rfl) ?_
              refine lv_iconst (v := (-1)) hx hb dX1_begin_75 (by decide) ?_
              obtain ⟨o7, ho7, hf1⟩ := z_ib hf
              replace hf := hf1
              clear hf1
              refine z_Vv (As := [.int (-1)]) (rest := []) (w := (wX1 cI cZ cJ cA h0 a r4 x5 x6 1 0 v2 x10 x11 x12 0 (-1) v3 f0 f1 f2 f3 V4)) (w1 := (wX1 cI cZ cJ cA h0 a r4 x5 x6 1 0 v2 o7.1 x11 x12 0 (-1) v3 f0 f1 o7.2 f3 V4)) ⟨hx, hb, hml, hown, hts⟩ (k_X1_enter l dC dI cI cZ cJ cA h0 a r4 H.size N (-1) x5 x6 1 0 v2 x10 x11 x12 0 (-1) v3 f0 f1 f2 f3 V4 o7 ho7) (cwV 1 hts gX1_begin_X1_enter rfl rfl rfl (by decide +kernel) ⟨Nat.le_trans (Nat.le_of_ble_eq_true rfl) hRf, Nat.le_trans (Nat.le_of_ble_eq_true rfl) hRl⟩) hK hP hD hS hA hN (ci := 1) rfl rfl rfl rfl hl.1 rfl (Nat.le_of_ble_eq_true rfl) dX1_begin_76 (fun H locs hP hD hS => ?_)
              refine lv_aload_n hx hb dX1_begin_79 rfl (lv_at hl 1 rfl) ?_
              obtain ⟨o8, ho8, hf1⟩ := z_ib hf
              replace hf := hf1
              clear hf1
              refine z_Vi (As := []) (rest := []) (w := (wX1 cI cZ cJ cA h0 a r4 x5 x6 1 0 v2 o7.1 x11 x12 0 (-1) v3 f0 f1 o7.2 f3 V4)) (w1 := (wX1 cI cZ cJ cA h0 a r4 x5 x6 1 o8.2.1 v2 o7.1 o8.2.2.1 o8.2.2.2.1 o8.2.2.2.2.1 (-1) o8.2.2.2.2.2.1 f0 f1 o8.2.2.2.2.2.2.1 o8.2.2.2.2.2.2.2.1 o8.2.2.2.2.2.2.2.2)) ⟨hx, hb, hml, hown, hts⟩ (k_X1_beginRound l dC dI cI cZ cJ cA h0 a r4 H.size N x5 x6 1 0 v2 o7.1 x11 x12 0 (-1) v3 f0 f1 o7.2 f3 V4 o8 ho8) (cwV 0 hts gX1_begin_X1_beginRound rfl rfl rfl (by decide +kernel) ⟨Nat.le_trans (Nat.le_of_ble_eq_true rfl) hRf, Nat.le_trans (Nat.le_of_ble_eq_true rfl) hRl⟩) hK hP hD hS hA hN (ci := 1) rfl rfl rfl rfl hl.1 rfl (Nat.le_of_ble_eq_true rfl) dX1_begin_80 (fun H locs hP hD hS => ?_)
              obtain rfl := Option.some.inj hf
              exact hret _ _ _ _ _ dX1_begin_83 rfl hP hD hS
            · replace hf := z_ip hf c6
              refine lv_iconst (v := (-1)) hx hb dX1_begin_41 (by decide) ?_
              obtain rfl := Option.some.inj hf
              exact hret _ _ _ _ _ dX1_begin_42 rfl hP hD hS
  · replace hf := z_ip hf c1
    refine lv_iconst (v := 2) hx hb dX1_begin_5 (by decide) ?_
    refine lv_goto (tgt := 10) hx hb dX1_begin_6 (by decide) ?_
    refine lv_istore (lv' := [(4, .int 2), (0, .ref h0), (1, .int v1), (2, .int v2), (3, .int v3)]) hx hb dX1_begin_10 hl (by decide) rfl (fun ls hl => ?_)
    refine lv_iload_n hx hb dX1_begin_12 rfl (lv_at hl 2 rfl) ?_
    refine lv_if_lt (tgt := 41) hx hb dX1_begin_13 (by decide) (fun c9 => ?_) (fun c9 => ?_)
    · replace hf := z_ip hf c9
      refine lv_iconst (v := (-1)) hx hb dX1_begin_41 (by decide) ?_
      obtain rfl := Option.some.inj hf
      exact hret _ _ _ _ _ dX1_begin_42 rfl hP hD hS
    · replace hf := z_im hf c9
      refine lv_iload_n hx hb dX1_begin_16 rfl (lv_at hl 2 rfl) ?_
      refine lv_iconst (v := 1) hx hb dX1_begin_17 (by decide) ?_
      refine lv_icmp_gt (tgt := 41) hx hb dX1_begin_18 (by decide) (fun c10 => ?_) (fun c10 => ?_)
      · replace hf := z_ip hf c10
        refine lv_iconst (v := (-1)) hx hb dX1_begin_41 (by decide) ?_
        obtain rfl := Option.some.inj hf
        exact hret _ _ _ _ _ dX1_begin_42 rfl hP hD hS
      · replace hf := z_im hf c10
        refine lv_iload hx hb dX1_begin_21 (lv_at hl 0 rfl) ?_
        refine lv_iconst (v := 2) hx hb dX1_begin_23 (by decide) ?_
        refine lv_icmp_lt (tgt := 41) hx hb dX1_begin_24 (by decide) (fun c0 => absurd c0 (by decide)) (fun _ => ?_)
        refine lv_iload hx hb dX1_begin_27 (lv_at hl 0 rfl) ?_
        refine lv_bipush (v := 6) hx hb dX1_begin_29 (by decide) ?_
        refine lv_icmp_gt (tgt := 41) hx hb dX1_begin_31 (by decide) (fun c0 => absurd c0 (by decide)) (fun _ => ?_)
        refine lv_aload_n hx hb dX1_begin_34 rfl (lv_at hl 1 rfl) ?_
        refine va_get (D := (dC, dI)) (ci := 1) (v := .int x5) (C := RX1) (T := TX1) (N := 16) hx hb hts (fun w hw => List.mem_cons_of_mem _ (List.mem_append_right _ hw)) hown hK hP 0 rfl rfl 5 (by decide) (hts (.fieldLink RX1 29 "OldStadium$Heats" "runners" "I") (List.mem_of_getElem? (i := 1) rfl)) (fun _ h9 => h9) rfl dX1_begin_35 ?_
        refine lv_if_ne (tgt := 43) hx hb dX1_begin_38 (by decide) (fun c11 => ?_) (fun c11 => ?_)
        · replace hf := z_im hf c11
          refine lv_aload_n hx hb dX1_begin_43 rfl (lv_at hl 1 rfl) ?_
          refine lv_iload hx hb dX1_begin_44 (lv_at hl 0 rfl) ?_
          refine va_put (D := (dC, dI)) (ci := 1) (v := .int 2) (ty := .int) (C := RX1) (T := TX1) (N := 16) hx hb hts (fun w hw => List.mem_cons_of_mem _ (List.mem_append_right _ hw)) tyX1 tyX1_ok nmX1 hown hK hP hD hS 0 rfl rfl 9 (by decide) (hts (.fieldLink RX1 43 "OldStadium$Heats" "size" "I") (List.mem_of_getElem? (i := 2) rfl)) (fun _ h9 => h9) rfl (by decide +kernel) rfl rfl (Nat.le_of_ble_eq_true rfl) dX1_begin_46 (fun H locs hP hD hS => ?_)
          replace hP : va_P (dC, dI) vwCl (wX1 cI cZ cJ cA h0 a r4 x5 x6 x7 x8 2 x10 x11 x12 x13 x14 x15 f0 f1 f2 f3 V4) H := hP
          replace hD : va_D A (wX1 cI cZ cJ cA h0 a r4 x5 x6 x7 x8 2 x10 x11 x12 x13 x14 x15 f0 f1 f2 f3 V4) := hD
          refine lv_aload_n hx hb dX1_begin_49 rfl (lv_at hl 1 rfl) ?_
          refine lv_iload_n hx hb dX1_begin_50 rfl (lv_at hl 4 rfl) ?_
          refine va_put (D := (dC, dI)) (ci := 1) (v := .int v3) (ty := .int) (C := RX1) (T := TX1) (N := 16) hx hb hts (fun w hw => List.mem_cons_of_mem _ (List.mem_append_right _ hw)) tyX1 tyX1_ok nmX1 hown hK hP hD hS 0 rfl rfl 15 (by decide) (hts (.fieldLink RX1 61 "OldStadium$Heats" "lot" "I") (List.mem_of_getElem? (i := 3) rfl)) (fun _ h9 => h9) rfl (by decide +kernel) rfl rfl (Nat.le_of_ble_eq_true rfl) dX1_begin_51 (fun H locs hP hD hS => ?_)
          replace hP : va_P (dC, dI) vwCl (wX1 cI cZ cJ cA h0 a r4 x5 x6 x7 x8 2 x10 x11 x12 x13 x14 v3 f0 f1 f2 f3 V4) H := hP
          replace hD : va_D A (wX1 cI cZ cJ cA h0 a r4 x5 x6 x7 x8 2 x10 x11 x12 x13 x14 v3 f0 f1 f2 f3 V4) := hD
          refine lv_aload_n hx hb dX1_begin_54 rfl (lv_at hl 1 rfl) ?_
          refine lv_iconst (v := 0) hx hb dX1_begin_55 (by decide) ?_
          refine va_put (D := (dC, dI)) (ci := 1) (v := .int 0) (ty := .int) (C := RX1) (T := TX1) (N := 16) hx hb hts (fun w hw => List.mem_cons_of_mem _ (List.mem_append_right _ hw)) tyX1 tyX1_ok nmX1 hown hK hP hD hS 0 rfl rfl 8 (by decide) (hts (.fieldLink RX1 40 "OldStadium$Heats" "round" "I") (List.mem_of_getElem? (i := 4) rfl)) (fun _ h9 => h9) rfl (by decide +kernel) rfl rfl (Nat.le_of_ble_eq_true rfl) dX1_begin_56 (fun H locs hP hD hS => ?_)
          replace hP : va_P (dC, dI) vwCl (wX1 cI cZ cJ cA h0 a r4 x5 x6 x7 0 2 x10 x11 x12 x13 x14 v3 f0 f1 f2 f3 V4) H := hP
          replace hD : va_D A (wX1 cI cZ cJ cA h0 a r4 x5 x6 x7 0 2 x10 x11 x12 x13 x14 v3 f0 f1 f2 f3 V4) := hD
          refine lv_aload_n hx hb dX1_begin_59 rfl (lv_at hl 1 rfl) ?_
          refine lv_iconst (v := 0) hx hb dX1_begin_60 (by decide) ?_
          refine va_put (D := (dC, dI)) (ci := 1) (v := .int 0) (ty := .int) (C := RX1) (T := TX1) (N := 16) hx hb hts (fun w hw => List.mem_cons_of_mem _ (List.mem_append_right _ hw)) tyX1 tyX1_ok nmX1 hown hK hP hD hS 0 rfl rfl 13 (by decide) (hts (.fieldLink RX1 55 "OldStadium$Heats" "byesHad" "I") (List.mem_of_getElem? (i := 5) rfl)) (fun _ h9 => h9) rfl (by decide +kernel) rfl rfl (Nat.le_of_ble_eq_true rfl) dX1_begin_61 (fun H locs hP hD hS => ?_)
          replace hP : va_P (dC, dI) vwCl (wX1 cI cZ cJ cA h0 a r4 x5 x6 x7 0 2 x10 x11 x12 0 x14 v3 f0 f1 f2 f3 V4) H := hP
          replace hD : va_D A (wX1 cI cZ cJ cA h0 a r4 x5 x6 x7 0 2 x10 x11 x12 0 x14 v3 f0 f1 f2 f3 V4) := hD
          refine lv_aload_n hx hb dX1_begin_64 rfl (lv_at hl 1 rfl) ?_
          refine lv_iconst (v := (-1)) hx hb dX1_begin_65 (by decide) ?_
          refine va_put (D := (dC, dI)) (ci := 1) (v := .int (-1)) (ty := .int) (C := RX1) (T := TX1) (N := 16) hx hb hts (fun w hw => List.mem_cons_of_mem _ (List.mem_append_right _ hw)) tyX1 tyX1_ok nmX1 hown hK hP hD hS 0 rfl rfl 14 (by decide) (hts (.fieldLink RX1 58 "OldStadium$Heats" "victo\x72" "I") (List.mem_of_getElem? (i := 6) rfl)) (fun _ h9 => h9) rfl (by decide +kernel) rfl rfl (Nat.le_of_ble_eq_true rfl) dX1_begin_66 (fun H locs hP hD hS => ?_)
          replace hP : va_P (dC, dI) vwCl (wX1 cI cZ cJ cA h0 a r4 x5 x6 x7 0 2 x10 x11 x12 0 (-1) v3 f0 f1 f2 f3 V4) H := hP
          replace hD : va_D A (wX1 cI cZ cJ cA h0 a r4 x5 x6 x7 0 2 x10 x11 x12 0 (-1) v3 f0 f1 f2 f3 V4) := hD
          refine lv_aload_n hx hb dX1_begin_69 rfl (lv_at hl 1 rfl) ?_
          refine lv_iconst (v := 1) hx hb dX1_begin_70 (by decide) ?_
          refine va_put (D := (dC, dI)) (ci := 1) (v := .int 1) (ty := .boolean) (C := RX1) (T := TX1) (N := 16) hx hb hts (fun w hw => List.mem_cons_of_mem _ (List.mem_append_right _ hw)) tyX1 tyX1_ok nmX1 hown hK hP hD hS 0 rfl rfl 7 (by decide) (hts (.fieldLink RX1 36 "OldStadium$Heats" "going" "Z") (List.mem_of_getElem? (i := 7) rfl)) (fun _ h9 => h9) rfl (by decide +kernel) rfl rfl (Nat.le_of_ble_eq_true rfl) dX1_begin_71 (fun H locs hP hD hS => ?_)
          replace hP : va_P (dC, dI) vwCl (wX1 cI cZ cJ cA h0 a r4 x5 x6 1 0 2 x10 x11 x12 0 (-1) v3 f0 f1 f2 f3 V4) H := hP
          replace hD : va_D A (wX1 cI cZ cJ cA h0 a r4 x5 x6 1 0 2 x10 x11 x12 0 (-1) v3 f0 f1 f2 f3 V4) := hD
          refine lv_aload_n hx hb dX1_begin_74 rfl (lv_at hl 1 rfl) ?_
          refine lv_iconst (v := (-1)) hx hb dX1_begin_75 (by decide) ?_
          obtain ⟨o12, ho12, hf1⟩ := z_ib hf
          replace hf := hf1
          clear hf1
          refine z_Vv (As := [.int (-1)]) (rest := []) (w := (wX1 cI cZ cJ cA h0 a r4 x5 x6 1 0 2 x10 x11 x12 0 (-1) v3 f0 f1 f2 f3 V4)) (w1 := (wX1 cI cZ cJ cA h0 a r4 x5 x6 1 0 2 o12.1 x11 x12 0 (-1) v3 f0 f1 o12.2 f3 V4)) ⟨hx, hb, hml, hown, hts⟩ (k_X1_enter l dC dI cI cZ cJ cA h0 a r4 H.size N (-1) x5 x6 1 0 2 x10 x11 x12 0 (-1) v3 f0 f1 f2 f3 V4 o12 ho12) (cwV 1 hts gX1_begin_X1_enter rfl rfl rfl (by decide +kernel) ⟨Nat.le_trans (Nat.le_of_ble_eq_true rfl) hRf, Nat.le_trans (Nat.le_of_ble_eq_true rfl) hRl⟩) hK hP hD hS hA hN (ci := 1) rfl rfl rfl rfl hl.1 rfl (Nat.le_of_ble_eq_true rfl) dX1_begin_76 (fun H locs hP hD hS => ?_)
          refine lv_aload_n hx hb dX1_begin_79 rfl (lv_at hl 1 rfl) ?_
          obtain ⟨o13, ho13, hf1⟩ := z_ib hf
          replace hf := hf1
          clear hf1
          refine z_Vi (As := []) (rest := []) (w := (wX1 cI cZ cJ cA h0 a r4 x5 x6 1 0 2 o12.1 x11 x12 0 (-1) v3 f0 f1 o12.2 f3 V4)) (w1 := (wX1 cI cZ cJ cA h0 a r4 x5 x6 1 o13.2.1 2 o12.1 o13.2.2.1 o13.2.2.2.1 o13.2.2.2.2.1 (-1) o13.2.2.2.2.2.1 f0 f1 o13.2.2.2.2.2.2.1 o13.2.2.2.2.2.2.2.1 o13.2.2.2.2.2.2.2.2)) ⟨hx, hb, hml, hown, hts⟩ (k_X1_beginRound l dC dI cI cZ cJ cA h0 a r4 H.size N x5 x6 1 0 2 o12.1 x11 x12 0 (-1) v3 f0 f1 o12.2 f3 V4 o13 ho13) (cwV 0 hts gX1_begin_X1_beginRound rfl rfl rfl (by decide +kernel) ⟨Nat.le_trans (Nat.le_of_ble_eq_true rfl) hRf, Nat.le_trans (Nat.le_of_ble_eq_true rfl) hRl⟩) hK hP hD hS hA hN (ci := 1) rfl rfl rfl rfl hl.1 rfl (Nat.le_of_ble_eq_true rfl) dX1_begin_80 (fun H locs hP hD hS => ?_)
          obtain rfl := Option.some.inj hf
          exact hret _ _ _ _ _ dX1_begin_83 rfl hP hD hS
        · replace hf := z_ip hf c11
          refine lv_iconst (v := (-1)) hx hb dX1_begin_41 (by decide) ?_
          obtain rfl := Option.some.inj hf
          exact hret _ _ _ _ _ dX1_begin_42 rfl hP hD hS
set_option maxHeartbeats 4000000 in
set_option maxRecDepth 100000 in
theorem k_X1_begin (l : Launch) (dC : Nat → ClassId) (dI : Nat → Nat → Nat) (cI cZ cJ cA : ClassId) (h0 : Nat) (a : Nat → Nat) (r4 : Nat → Nat) (sz : Nat) (N : Nat) (v1 : Int32) (v2 : Int32) (v3 : Int32) (x5 : Int32) (x6 : Int32) (x7 : Int32) (x8 : Int32) (x9 : Int32) (x10 : Int32) (x11 : Int32) (x12 : Int32) (x13 : Int32) (x14 : Int32) (x15 : Int32) (f0 : (Nat → Int32)) (f1 : (Nat → Int32)) (f2 : (Nat → Int32)) (f3 : (Nat → Int32)) (V4 : (Nat → Nat → Int32)) (o : (Int32 × Int32 × Int32 × Int32 × Int32 × Int32 × Int32 × Int32 × Int32 × Int32 × (Nat → Int32) × (Nat → Int32) × (Nat → Nat → Int32))) (hf : q_X1_begin N v1 v2 v3 x5 x7 x8 x9 x10 x11 x12 x13 x14 x15 f2 f3 V4 = some o) : Met l yX1_begin wsX1_begin ({ frames := 4, cells := 0, slots := 0, locals := 86 } : Room) (z_Pre dC dI (z_ty cI cZ cJ cA) [.ref h0, .int v1, .int v2, .int v3] sz (wX1 cI cZ cJ cA h0 a r4 x5 x6 x7 x8 x9 x10 x11 x12 x13 x14 x15 f0 f1 f2 f3 V4)) (z_Pi dC dI o.1 (wX1 cI cZ cJ cA h0 a r4 x5 x6 o.2.1 o.2.2.1 o.2.2.2.1 o.2.2.2.2.1 o.2.2.2.2.2.1 o.2.2.2.2.2.2.1 o.2.2.2.2.2.2.2.1 o.2.2.2.2.2.2.2.2.1 o.2.2.2.2.2.2.2.2.2.1 f0 f1 o.2.2.2.2.2.2.2.2.2.2.1 o.2.2.2.2.2.2.2.2.2.2.2.1 o.2.2.2.2.2.2.2.2.2.2.2.2) sz (wX1 cI cZ cJ cA h0 a r4 x5 x6 x7 x8 x9 x10 x11 x12 x13 x14 x15 f0 f1 f2 f3 V4)) 0 0 (va_A (wX1 cI cZ cJ cA h0 a r4 x5 x6 x7 x8 x9 x10 x11 x12 x13 x14 x15 f0 f1 f2 f3 V4) sz) := by
  refine Met.ofW (cc := cX1_begin) (maxL := 5) (ret := (some .int)) (by decide) rfl ?_
  intro p e s m args below meth c s₁ B hml hv
  obtain ⟨rfl, hsz, hP, hK, hD0, hN⟩ := hv
  subst hsz
  have hl := lv_entry ([.ref h0, .int v1, .int v2, .int v3]) (n := 5) (Nat.le_of_ble_eq_true rfl)
  rw [lg_entry_eq]
  refine b_X1_begin N ⟨⟨B.exec, B.bytes, hml, findClass_of_methodNamed B.named, atoms_spec (ws := wsX1_begin) B.pre⟩, Nat.le_refl _, Nat.le_refl _, fun q h => Or.inr h, hN, hK⟩ hf hP hD0.self va_S.rf hl (fun pc H locs ls r hd hr hP hD hS => ?_)
  subst hr
  exact W.iret B.exec B.bytes B.returns (fun t ht hW => ⟨⟨_, (), rfl, rfl, by rw [ht]; exact hP, hD⟩, hS.F ht⟩) hS.2.2 hd
def q_X1_hasTown_L2 (N : Nat) (v1 : Int32) (v2 : Int32) (x9 : Int32) (x10 : Int32) (x11 : Int32) (f0 : (Nat → Int32)) (f2 : (Nat → Int32)) : Nat → Int32 → Option (Sum Int32 Unit)
  | 0, _ => none
  | n + 1, v3 =>
    (Option.bind (q_X1_sizeOf N v1 x9 x10) (fun o1 =>
    (if o1 ≤ v3 then
     (some (Sum.inr ()))
    else
     (Option.bind (q_X1_runnerAt N v1 v3 x9 x10 x11 f2) (fun o3 =>
     (if o3 < 0 then
      (q_X1_hasTown_L2 N v1 v2 x9 x10 x11 f0 f2 n (v3 + 1))
     else
      (if z_in o3 24 then
      (if (f0 (Int32.toNatClampNeg o3)) = v2 then
       (some (Sum.inl 1))
      else
       (q_X1_hasTown_L2 N v1 v2 x9 x10 x11 f0 f2 n (v3 + 1)))
      else none)))))))
set_option maxHeartbeats 4000000 in
set_option maxRecDepth 100000 in
theorem b_X1_hasTown_L2 {p : Program} {l : Launch} {e : Env} {R : Room} {s : State} {m : MethodId} {args : Array Value} {below : List Frame} {meth : Method} {c : Code} {Q : State → Prop} {A : Nat → Prop} {dC : Nat → ClassId} {dI : Nat → Nat → Nat} {cI cZ cJ cA : ClassId} {h0 : Nat} {a : Nat → Nat} {r4 : Nat → Nat} (N : Nat) (C0 : z_Cx p s m args c cX1_hasTown 5 wsX1_hasTown RX1 R 3 64 A dC dI (z_ty cI cZ cJ cA)) : ∀ (n : Nat) {v1 : Int32} {v2 : Int32} {v3 : Int32} {x5 : Int32} {x6 : Int32} {x7 : Int32} {x8 : Int32} {x9 : Int32} {x10 : Int32} {x11 : Int32} {x12 : Int32} {x13 : Int32} {x14 : Int32} {x15 : Int32} {f0 : (Nat → Int32)} {f1 : (Nat → Int32)} {f2 : (Nat → Int32)} {f3 : (Nat → Int32)} {V4 : (Nat → Nat → Int32)} {o : (Sum Int32 Unit)} {H : Heap} {locs : List Loc} {ls : Array Slot}, q_X1_hasTown_L2 N v1 v2 x9 x10 x11 f0 f2 n v3 = some o → va_P (dC, dI) vwCl (wX1 cI cZ cJ cA h0 a r4 x5 x6 x7 x8 x9 x10 x11 x12 x13 x14 x15 f0 f1 f2 f3 V4) H → va_D A (wX1 cI cZ cJ cA h0 a r4 x5 x6 x7 x8 x9 x10 x11 x12 x13 x14 x15 f0 f1 f2 f3 V4) → va_S A s.heap H locs → lv_has ls 5 [(0, .ref h0), (1, .int v1), (2, .int v2), (3, .int v3)] →
    (∀ (t : Int32), o = Sum.inl t → ∀ (pc : Nat) (H : Heap) (locs : List Loc) (ls : Array Slot) (r : Int32), decode cX1_hasTown pc = .ok (.ireturn, 1) → r = t → narrow .boolean (.int r) = .int r → va_P (dC, dI) vwCl (wX1 cI cZ cJ cA h0 a r4 x5 x6 x7 x8 x9 x10 x11 x12 x13 x14 x15 f0 f1 f2 f3 V4) H → va_D A (wX1 cI cZ cJ cA h0 a r4 x5 x6 x7 x8 x9 x10 x11 x12 x13 x14 x15 f0 f1 f2 f3 V4) → va_S A s.heap H locs → W p l e R s m args below meth c H locs 0 0 Q (F0 m pc ls [.int r])) →
    (∀ (t : Unit) (H : Heap) (locs : List Loc) (ls : Array Slot), o = Sum.inr t → va_P (dC, dI) vwCl (wX1 cI cZ cJ cA h0 a r4 x5 x6 x7 x8 x9 x10 x11 x12 x13 x14 x15 f0 f1 f2 f3 V4) H → va_D A (wX1 cI cZ cJ cA h0 a r4 x5 x6 x7 x8 x9 x10 x11 x12 x13 x14 x15 f0 f1 f2 f3 V4) → va_S A s.heap H locs → lv_has ls 5 [] → W p l e R s m args below meth c H locs 0 0 Q (F0 m 43 ls [])) →
    W p l e R s m args below meth c H locs 0 0 Q (F0 m 2 ls []) := by
  obtain ⟨⟨hx, hb, hml, hown, hts⟩, hRf, hRl, hA, hN, hK⟩ := C0
  intro n
  induction n with
  | zero =>
    intro v1 v2 v3 x5 x6 x7 x8 x9 x10 x11 x12 x13 x14 x15 f0 f1 f2 f3 V4 o H locs ls hf
    cases hf
  | succ n ih =>
    intro v1 v2 v3 x5 x6 x7 x8 x9 x10 x11 x12 x13 x14 x15 f0 f1 f2 f3 V4 o H locs ls hf hP hD hS hl hret hexit
    rw [q_X1_hasTown_L2] at hf
    refine lv_iload_n hx hb dX1_hasTown_2 rfl (lv_at hl 3 rfl) ?_
    refine lv_aload_n hx hb dX1_hasTown_3 rfl (lv_at hl 0 rfl) ?_
    refine lv_iload_n hx hb dX1_hasTown_4 rfl (lv_at hl 1 rfl) ?_
    obtain ⟨o1, ho1, hf1⟩ := z_ib hf
    replace hf := hf1
    clear hf1
    refine z_Vi (As := [.int v1]) (rest := [.int v3]) (w := (wX1 cI cZ cJ cA h0 a r4 x5 x6 x7 x8 x9 x10 x11 x12 x13 x14 x15 f0 f1 f2 f3 V4)) (w1 := (wX1 cI cZ cJ cA h0 a r4 x5 x6 x7 x8 x9 x10 x11 x12 x13 x14 x15 f0 f1 f2 f3 V4)) ⟨hx, hb, hml, hown, hts⟩ (k_X1_sizeOf l dC dI cI cZ cJ cA h0 a r4 H.size N v1 x5 x6 x7 x8 x9 x10 x11 x12 x13 x14 x15 f0 f1 f2 f3 V4 o1 ho1) (cwV 1 hts gX1_hasTown_X1_sizeOf rfl rfl rfl (by decide +kernel) ⟨Nat.le_trans (Nat.le_of_ble_eq_true rfl) hRf, Nat.le_trans (Nat.le_of_ble_eq_true rfl) hRl⟩) hK hP hD hS hA hN (ci := 1) rfl rfl rfl rfl hl.1 rfl (Nat.le_of_ble_eq_true rfl) dX1_hasTown_5 (fun H locs hP hD hS => ?_)
    refine lv_icmp_ge (tgt := 43) hx hb dX1_hasTown_8 (by decide) (fun c2 => ?_) (fun c2 => ?_)
    · replace hf := z_ip hf c2
      obtain rfl := Option.some.inj hf
      exact hexit _ _ _ _ rfl hP hD hS (lv_sub hl [] rfl)
    · replace hf := z_im hf c2
      refine lv_aload_n hx hb dX1_hasTown_11 rfl (lv_at hl 0 rfl) ?_
      refine lv_iload_n hx hb dX1_hasTown_12 rfl (lv_at hl 1 rfl) ?_
      refine lv_iload_n hx hb dX1_hasTown_13 rfl (lv_at hl 3 rfl) ?_
      obtain ⟨o3, ho3, hf1⟩ := z_ib hf
      replace hf := hf1
      clear hf1
      refine z_Vi (As := [.int v1, .int v3]) (rest := []) (w := (wX1 cI cZ cJ cA h0 a r4 x5 x6 x7 x8 x9 x10 x11 x12 x13 x14 x15 f0 f1 f2 f3 V4)) (w1 := (wX1 cI cZ cJ cA h0 a r4 x5 x6 x7 x8 x9 x10 x11 x12 x13 x14 x15 f0 f1 f2 f3 V4)) ⟨hx, hb, hml, hown, hts⟩ (k_X1_runnerAt l dC dI cI cZ cJ cA h0 a r4 H.size N v1 v3 x5 x6 x7 x8 x9 x10 x11 x12 x13 x14 x15 f0 f1 f2 f3 V4 o3 ho3) (cwV 2 hts gX1_hasTown_X1_runnerAt rfl rfl rfl (by decide +kernel) ⟨Nat.le_trans (Nat.le_of_ble_eq_true rfl) hRf, Nat.le_trans (Nat.le_of_ble_eq_true rfl) hRl⟩) hK hP hD hS hA hN (ci := 1) rfl rfl rfl rfl hl.1 rfl (Nat.le_of_ble_eq_true rfl) dX1_hasTown_14 (fun H locs hP hD hS => ?_)
      refine lv_istore (lv' := [(4, .int o3), (0, .ref h0), (1, .int v1), (2, .int v2), (3, .int v3)]) hx hb dX1_hasTown_17 hl (by decide) rfl (fun ls hl => ?_)
      refine lv_iload hx hb dX1_hasTown_19 (lv_at hl 0 rfl) ?_
      refine lv_if_lt (tgt := 37) hx hb dX1_hasTown_21 (by decide) (fun c4 => ?_) (fun c4 => ?_)
      · replace hf := z_ip hf c4
        refine lv_iinc (v := (v3 + 1)) (lv' := [(3, .int (v3 + 1)), (4, .int o3), (0, .ref h0), (1, .int v1), (2, .int v2)]) hx hb dX1_hasTown_37 hl (k := 4) rfl rfl (by decide) rfl (fun ls hl => ?_)
        refine lv_goto (tgt := 2) hx hb dX1_hasTown_40 (by decide) ?_
        exact ih hf hP hD hS (lv_sub hl [2, 3, 4, 0] rfl) hret hexit
      · replace hf := z_im hf c4
        refine lv_aload_n hx hb dX1_hasTown_24 rfl (lv_at hl 1 rfl) ?_
        refine va_get (D := (dC, dI)) (ci := 1) (v := .ref (a 0)) (C := RX1) (T := TX1) (N := 16) hx hb hts (fun w hw => List.mem_cons_of_mem _ (List.mem_append_right _ hw)) hown hK hP 0 rfl rfl 0 (by decide) (hts (.fieldLink RX1 11 "OldStadium$Heats" "runnerTowns" "[I") (List.mem_of_getElem? (i := 1) rfl)) (fun _ h9 => h9) rfl dX1_hasTown_25 ?_
        refine lv_iload hx hb dX1_hasTown_28 (lv_at hl 0 rfl) ?_
        have b5 := z_c1 hf
        replace hf := z_c2 hf
        refine va_iald hx hb hK hP 1 0 rfl rfl b5 dX1_hasTown_30 ?_
        refine lv_iload_n hx hb dX1_hasTown_31 rfl (lv_at hl 3 rfl) ?_
        refine lv_icmp_ne (tgt := 37) hx hb dX1_hasTown_32 (by decide) (fun c6 => ?_) (fun c6 => ?_)
        · replace hf := z_im hf c6
          refine lv_iinc (v := (v3 + 1)) (lv' := [(3, .int (v3 + 1)), (4, .int o3), (0, .ref h0), (1, .int v1), (2, .int v2)]) hx hb dX1_hasTown_37 hl (k := 4) rfl rfl (by decide) rfl (fun ls hl => ?_)
          refine lv_goto (tgt := 2) hx hb dX1_hasTown_40 (by decide) ?_
          exact ih hf hP hD hS (lv_sub hl [2, 3, 4, 0] rfl) hret hexit
        · replace hf := z_ip hf c6
          refine lv_iconst (v := 1) hx hb dX1_hasTown_35 (by decide) ?_
          obtain rfl := Option.some.inj hf
          exact hret _ rfl _ _ _ _ _ dX1_hasTown_36 rfl rfl hP hD hS
def q_X1_hasTown (N : Nat) (v1 : Int32) (v2 : Int32) (x9 : Int32) (x10 : Int32) (x11 : Int32) (f0 : (Nat → Int32)) (f2 : (Nat → Int32)) : Option Int32 :=
  (Option.bind (q_X1_hasTown_L2 N v1 v2 x9 x10 x11 f0 f2 N 0) (Sum.elim (fun r3 => (some r3)) (fun s2 =>
  (some 0))))
set_option maxHeartbeats 4000000 in
set_option maxRecDepth 100000 in
theorem b_X1_hasTown {p : Program} {l : Launch} {e : Env} {R : Room} {s : State} {m : MethodId} {args : Array Value} {below : List Frame} {meth : Method} {c : Code} {Q : State → Prop} {A : Nat → Prop} {dC : Nat → ClassId} {dI : Nat → Nat → Nat} {cI cZ cJ cA : ClassId} {h0 : Nat} {a : Nat → Nat} {r4 : Nat → Nat} (N : Nat) (C0 : z_Cx p s m args c cX1_hasTown 5 wsX1_hasTown RX1 R 3 64 A dC dI (z_ty cI cZ cJ cA)) {v1 : Int32} {v2 : Int32} {x5 : Int32} {x6 : Int32} {x7 : Int32} {x8 : Int32} {x9 : Int32} {x10 : Int32} {x11 : Int32} {x12 : Int32} {x13 : Int32} {x14 : Int32} {x15 : Int32} {f0 : (Nat → Int32)} {f1 : (Nat → Int32)} {f2 : (Nat → Int32)} {f3 : (Nat → Int32)} {V4 : (Nat → Nat → Int32)} {o : Int32} {H : Heap} {locs : List Loc} {ls : Array Slot} (hf : q_X1_hasTown N v1 v2 x9 x10 x11 f0 f2 = some o) (hP : va_P (dC, dI) vwCl (wX1 cI cZ cJ cA h0 a r4 x5 x6 x7 x8 x9 x10 x11 x12 x13 x14 x15 f0 f1 f2 f3 V4) H) (hD : va_D A (wX1 cI cZ cJ cA h0 a r4 x5 x6 x7 x8 x9 x10 x11 x12 x13 x14 x15 f0 f1 f2 f3 V4)) (hS : va_S A s.heap H locs) (hl : lv_has ls 5 [(0, .ref h0), (1, .int v1), (2, .int v2)])
    (hret : ∀ (pc : Nat) (H : Heap) (locs : List Loc) (ls : Array Slot) (r : Int32), decode cX1_hasTown pc = .ok (.ireturn, 1) → r = o → narrow .boolean (.int r) = .int r → va_P (dC, dI) vwCl (wX1 cI cZ cJ cA h0 a r4 x5 x6 x7 x8 x9 x10 x11 x12 x13 x14 x15 f0 f1 f2 f3 V4) H → va_D A (wX1 cI cZ cJ cA h0 a r4 x5 x6 x7 x8 x9 x10 x11 x12 x13 x14 x15 f0 f1 f2 f3 V4) → va_S A s.heap H locs → W p l e R s m args below meth c H locs 0 0 Q (F0 m pc ls [.int r])) :
    W p l e R s m args below meth c H locs 0 0 Q (F0 m 0 ls []) := by
  obtain ⟨⟨hx, hb, hml, hown, hts⟩, hRf, hRl, hA, hN, hK⟩ := C0
  unfold q_X1_hasTown at hf
  refine lv_iconst (v := 0) hx hb dX1_hasTown_0 (by decide) ?_
  refine lv_istore_n (lv' := [(3, .int 0), (0, .ref h0), (1, .int v1), (2, .int v2)]) hx hb dX1_hasTown_1 rfl hl (by decide) rfl (fun ls hl => ?_)
  obtain ⟨t1, ht1, hf1⟩ := z_ib hf
  replace hf := hf1
  clear hf1
  refine b_X1_hasTown_L2 N ⟨⟨hx, hb, hml, hown, hts⟩, hRf, hRl, hA, hN, hK⟩ N ht1 hP hD hS (lv_sub hl [1, 2, 3, 0] rfl) (fun r3 e1 pc H locs ls r0 hd hr hn hP hD hS => ?_) (fun s2 H locs ls e1 hP hD hS hl => ?_)
  · subst e1
    have hf := z_sl hf
    obtain rfl := Option.some.inj hf
    exact hret pc H locs ls r0 hd hr hn hP hD hS
  subst e1
  replace hf := z_sr hf
  refine lv_iconst (v := 0) hx hb dX1_hasTown_43 (by decide) ?_
  obtain rfl := Option.some.inj hf
  exact hret _ _ _ _ _ dX1_hasTown_44 rfl rfl hP hD hS
set_option maxHeartbeats 4000000 in
set_option maxRecDepth 100000 in
theorem k_X1_hasTown (l : Launch) (dC : Nat → ClassId) (dI : Nat → Nat → Nat) (cI cZ cJ cA : ClassId) (h0 : Nat) (a : Nat → Nat) (r4 : Nat → Nat) (sz : Nat) (N : Nat) (v1 : Int32) (v2 : Int32) (x5 : Int32) (x6 : Int32) (x7 : Int32) (x8 : Int32) (x9 : Int32) (x10 : Int32) (x11 : Int32) (x12 : Int32) (x13 : Int32) (x14 : Int32) (x15 : Int32) (f0 : (Nat → Int32)) (f1 : (Nat → Int32)) (f2 : (Nat → Int32)) (f3 : (Nat → Int32)) (V4 : (Nat → Nat → Int32)) (o : Int32) (hf : q_X1_hasTown N v1 v2 x9 x10 x11 f0 f2 = some o) : Met l yX1_hasTown wsX1_hasTown ({ frames := 3, cells := 0, slots := 0, locals := 64 } : Room) (z_Pre dC dI (z_ty cI cZ cJ cA) [.ref h0, .int v1, .int v2] sz (wX1 cI cZ cJ cA h0 a r4 x5 x6 x7 x8 x9 x10 x11 x12 x13 x14 x15 f0 f1 f2 f3 V4)) (z_Pi dC dI o (wX1 cI cZ cJ cA h0 a r4 x5 x6 x7 x8 x9 x10 x11 x12 x13 x14 x15 f0 f1 f2 f3 V4) sz (wX1 cI cZ cJ cA h0 a r4 x5 x6 x7 x8 x9 x10 x11 x12 x13 x14 x15 f0 f1 f2 f3 V4)) 0 0 (va_A (wX1 cI cZ cJ cA h0 a r4 x5 x6 x7 x8 x9 x10 x11 x12 x13 x14 x15 f0 f1 f2 f3 V4) sz) := by
  refine Met.ofW (cc := cX1_hasTown) (maxL := 5) (ret := (some .boolean)) (by decide) rfl ?_
  intro p e s m args below meth c s₁ B hml hv
  obtain ⟨rfl, hsz, hP, hK, hD0, hN⟩ := hv
  subst hsz
  have hl := lv_entry ([.ref h0, .int v1, .int v2]) (n := 5) (Nat.le_of_ble_eq_true rfl)
  rw [lg_entry_eq]
  refine b_X1_hasTown N ⟨⟨B.exec, B.bytes, hml, findClass_of_methodNamed B.named, atoms_spec (ws := wsX1_hasTown) B.pre⟩, Nat.le_refl _, Nat.le_refl _, fun q h => Or.inr h, hN, hK⟩ hf hP hD0.self va_S.rf hl (fun pc H locs ls r hd hr hn hP hD hS => ?_)
  subst hr
  exact W.zret B.exec B.bytes B.returns hn (fun t ht hW => ⟨⟨_, (), rfl, rfl, by rw [ht]; exact hP, hD⟩, hS.F ht⟩) hS.2.2 hd
def q_X1_votesFor_L5 (N : Nat) (v1 : Int32) (v2 : Int32) (x6 : Int32) (x9 : Int32) (x10 : Int32) (x11 : Int32) (f0 : (Nat → Int32)) (f1 : (Nat → Int32)) (f2 : (Nat → Int32)) (V4 : (Nat → Nat → Int32)) : Nat → Int32 → Int32 → Option Int32
  | 0, _, _ => none
  | n + 1, v3, v4 =>
    (if x6 ≤ v4 then
     (some v3)
    else
     (if z_in v4 9 then
     (if z_in v1 12 then
     (if (V4 (Int32.toNatClampNeg v4) (Int32.toNatClampNeg v1)) = v2 then
      (Option.bind (q_X1_hasTown N v1 (f1 (Int32.toNatClampNeg v4)) x9 x10 x11 f0 f2) (fun o5 =>
      (if o5 = 0 then
       (q_X1_votesFor_L5 N v1 v2 x6 x9 x10 x11 f0 f1 f2 V4 n (v3 + 1) (v4 + 1))
      else
       (q_X1_votesFor_L5 N v1 v2 x6 x9 x10 x11 f0 f1 f2 V4 n v3 (v4 + 1)))))
     else
      (q_X1_votesFor_L5 N v1 v2 x6 x9 x10 x11 f0 f1 f2 V4 n v3 (v4 + 1)))
     else none)
     else none))
set_option maxHeartbeats 4000000 in
set_option maxRecDepth 100000 in
theorem b_X1_votesFor_L5 {p : Program} {l : Launch} {e : Env} {R : Room} {s : State} {m : MethodId} {args : Array Value} {below : List Frame} {meth : Method} {c : Code} {Q : State → Prop} {A : Nat → Prop} {dC : Nat → ClassId} {dI : Nat → Nat → Nat} {cI cZ cJ cA : ClassId} {h0 : Nat} {a : Nat → Nat} {r4 : Nat → Nat} (N : Nat) (C0 : z_Cx p s m args c cX1_votesFor 5 wsX1_votesFor RX1 R 4 88 A dC dI (z_ty cI cZ cJ cA)) : ∀ (n : Nat) {v1 : Int32} {v2 : Int32} {v3 : Int32} {v4 : Int32} {x5 : Int32} {x6 : Int32} {x7 : Int32} {x8 : Int32} {x9 : Int32} {x10 : Int32} {x11 : Int32} {x12 : Int32} {x13 : Int32} {x14 : Int32} {x15 : Int32} {f0 : (Nat → Int32)} {f1 : (Nat → Int32)} {f2 : (Nat → Int32)} {f3 : (Nat → Int32)} {V4 : (Nat → Nat → Int32)} {o : Int32} {H : Heap} {locs : List Loc} {ls : Array Slot}, q_X1_votesFor_L5 N v1 v2 x6 x9 x10 x11 f0 f1 f2 V4 n v3 v4 = some o → va_P (dC, dI) vwCl (wX1 cI cZ cJ cA h0 a r4 x5 x6 x7 x8 x9 x10 x11 x12 x13 x14 x15 f0 f1 f2 f3 V4) H → va_D A (wX1 cI cZ cJ cA h0 a r4 x5 x6 x7 x8 x9 x10 x11 x12 x13 x14 x15 f0 f1 f2 f3 V4) → va_S A s.heap H locs → lv_has ls 5 [(0, .ref h0), (1, .int v1), (2, .int v2), (3, .int v3), (4, .int v4)] →
    (∀ (H : Heap) (locs : List Loc) (ls : Array Slot), va_P (dC, dI) vwCl (wX1 cI cZ cJ cA h0 a r4 x5 x6 x7 x8 x9 x10 x11 x12 x13 x14 x15 f0 f1 f2 f3 V4) H → va_D A (wX1 cI cZ cJ cA h0 a r4 x5 x6 x7 x8 x9 x10 x11 x12 x13 x14 x15 f0 f1 f2 f3 V4) → va_S A s.heap H locs → lv_has ls 5 [(3, .int o)] → W p l e R s m args below meth c H locs 0 0 Q (F0 m 51 ls [])) →
    W p l e R s m args below meth c H locs 0 0 Q (F0 m 5 ls []) := by
  obtain ⟨⟨hx, hb, hml, hown, hts⟩, hRf, hRl, hA, hN, hK⟩ := C0
  intro n
  induction n with
  | zero =>
    intro v1 v2 v3 v4 x5 x6 x7 x8 x9 x10 x11 x12 x13 x14 x15 f0 f1 f2 f3 V4 o H locs ls hf
    cases hf
  | succ n ih =>
    intro v1 v2 v3 v4 x5 x6 x7 x8 x9 x10 x11 x12 x13 x14 x15 f0 f1 f2 f3 V4 o H locs ls hf hP hD hS hl hexit
    rw [q_X1_votesFor_L5] at hf
    refine lv_iload hx hb dX1_votesFor_5 (lv_at hl 4 rfl) ?_
    refine lv_aload_n hx hb dX1_votesFor_7 rfl (lv_at hl 0 rfl) ?_
    refine va_get (D := (dC, dI)) (ci := 1) (v := .int x6) (C := RX1) (T := TX1) (N := 16) hx hb hts (fun w hw => List.mem_cons_of_mem _ (List.mem_append_right _ hw)) hown hK hP 0 rfl rfl 6 (by decide) (hts (.fieldLink RX1 33 "OldStadium$Heats" "judges" "I") (List.mem_of_getElem? (i := 1) rfl)) (fun _ h9 => h9) rfl dX1_votesFor_8 ?_
    refine lv_icmp_ge (tgt := 51) hx hb dX1_votesFor_11 (by decide) (fun c1 => ?_) (fun c1 => ?_)
    · replace hf := z_ip hf c1
      obtain rfl := Option.some.inj hf
      exact hexit _ _ _ hP hD hS (lv_sub hl [3] rfl)
    · replace hf := z_im hf c1
      refine lv_aload_n hx hb dX1_votesFor_14 rfl (lv_at hl 0 rfl) ?_
      refine va_get (D := (dC, dI)) (ci := 1) (v := .ref (a 4)) (C := RX1) (T := TX1) (N := 16) hx hb hts (fun w hw => List.mem_cons_of_mem _ (List.mem_append_right _ hw)) hown hK hP 0 rfl rfl 4 (by decide) (hts (.fieldLink RX1 26 "OldStadium$Heats" "votes" "[[I") (List.mem_of_getElem? (i := 2) rfl)) (fun _ h9 => h9) rfl dX1_votesFor_15 ?_
      refine lv_iload hx hb dX1_votesFor_18 (lv_at hl 4 rfl) ?_
      have b2 := z_c1 hf
      replace hf := z_c2 hf
      refine z_aald (H0 := s.heap) hx hb hK hP 5 3 rfl rfl b2 dX1_votesFor_20 ?_
      refine lv_iload_n hx hb dX1_votesFor_21 rfl (lv_at hl 1 rfl) ?_
      have b3 := z_c1 hf
      replace hf := z_c2 hf
      refine va_iald hx hb hK hP (6 + (Int32.toNatClampNeg v4)) 0 (zrX1_4 (z_lt b2)) rfl b3 dX1_votesFor_22 ?_
      refine lv_iload_n hx hb dX1_votesFor_23 rfl (lv_at hl 2 rfl) ?_
      refine lv_icmp_ne (tgt := 45) hx hb dX1_votesFor_24 (by decide) (fun c4 => ?_) (fun c4 => ?_)
      · replace hf := z_im hf c4
        refine lv_iinc (v := (v4 + 1)) (lv' := [(4, .int (v4 + 1)), (0, .ref h0), (1, .int v1), (2, .int v2), (3, .int v3)]) hx hb dX1_votesFor_45 hl (k := 4) rfl rfl (by decide) rfl (fun ls hl => ?_)
        refine lv_goto (tgt := 5) hx hb dX1_votesFor_48 (by decide) ?_
        exact ih hf hP hD hS (lv_sub hl [1, 2, 3, 4, 0] rfl) hexit
      · replace hf := z_ip hf c4
        refine lv_aload_n hx hb dX1_votesFor_27 rfl (lv_at hl 0 rfl) ?_
        refine lv_iload_n hx hb dX1_votesFor_28 rfl (lv_at hl 1 rfl) ?_
        refine lv_aload_n hx hb dX1_votesFor_29 rfl (lv_at hl 0 rfl) ?_
        refine va_get (D := (dC, dI)) (ci := 1) (v := .ref (a 1)) (C := RX1) (T := TX1) (N := 16) hx hb hts (fun w hw => List.mem_cons_of_mem _ (List.mem_append_right _ hw)) hown hK hP 0 rfl rfl 1 (by decide) (hts (.fieldLink RX1 15 "OldStadium$Heats" "judgeTowns" "[I") (List.mem_of_getElem? (i := 3) rfl)) (fun _ h9 => h9) rfl dX1_votesFor_30 ?_
        refine lv_iload hx hb dX1_votesFor_33 (lv_at hl 4 rfl) ?_
        refine va_iald hx hb hK hP 2 0 rfl rfl b2 dX1_votesFor_35 ?_
        obtain ⟨o5, ho5, hf1⟩ := z_ib hf
        replace hf := hf1
        clear hf1
        refine z_Vi (As := [.int v1, .int (f1 (Int32.toNatClampNeg v4))]) (rest := []) (w := (wX1 cI cZ cJ cA h0 a r4 x5 x6 x7 x8 x9 x10 x11 x12 x13 x14 x15 f0 f1 f2 f3 V4)) (w1 := (wX1 cI cZ cJ cA h0 a r4 x5 x6 x7 x8 x9 x10 x11 x12 x13 x14 x15 f0 f1 f2 f3 V4)) ⟨hx, hb, hml, hown, hts⟩ (k_X1_hasTown l dC dI cI cZ cJ cA h0 a r4 H.size N v1 (f1 (Int32.toNatClampNeg v4)) x5 x6 x7 x8 x9 x10 x11 x12 x13 x14 x15 f0 f1 f2 f3 V4 o5 ho5) (cwV 2 hts gX1_votesFor_X1_hasTown rfl rfl rfl (by decide +kernel) ⟨Nat.le_trans (Nat.le_of_ble_eq_true rfl) hRf, Nat.le_trans (Nat.le_of_ble_eq_true rfl) hRl⟩) hK hP hD hS hA hN (ci := 1) rfl rfl rfl rfl hl.1 rfl (Nat.le_of_ble_eq_true rfl) dX1_votesFor_36 (fun H locs hP hD hS => ?_)
        refine lv_if_ne (tgt := 45) hx hb dX1_votesFor_39 (by decide) (fun c6 => ?_) (fun c6 => ?_)
        · replace hf := z_im hf c6
          refine lv_iinc (v := (v4 + 1)) (lv' := [(4, .int (v4 + 1)), (0, .ref h0), (1, .int v1), (2, .int v2), (3, .int v3)]) hx hb dX1_votesFor_45 hl (k := 4) rfl rfl (by decide) rfl (fun ls hl => ?_)
          refine lv_goto (tgt := 5) hx hb dX1_votesFor_48 (by decide) ?_
          exact ih hf hP hD hS (lv_sub hl [1, 2, 3, 4, 0] rfl) hexit
        · replace hf := z_ip hf c6
          refine lv_iinc (v := (v3 + 1)) (lv' := [(3, .int (v3 + 1)), (0, .ref h0), (1, .int v1), (2, .int v2), (4, .int v4)]) hx hb dX1_votesFor_42 hl (k := 3) rfl rfl (by decide) rfl (fun ls hl => ?_)
          refine lv_iinc (v := (v4 + 1)) (lv' := [(4, .int (v4 + 1)), (3, .int (v3 + 1)), (0, .ref h0), (1, .int v1), (2, .int v2)]) hx hb dX1_votesFor_45 hl (k := 4) rfl rfl (by decide) rfl (fun ls hl => ?_)
          refine lv_goto (tgt := 5) hx hb dX1_votesFor_48 (by decide) ?_
          exact ih hf hP hD hS (lv_sub hl [2, 3, 4, 1, 0] rfl) hexit
def q_X1_votesFor (N : Nat) (v1 : Int32) (v2 : Int32) (x6 : Int32) (x9 : Int32) (x10 : Int32) (x11 : Int32) (f0 : (Nat → Int32)) (f1 : (Nat → Int32)) (f2 : (Nat → Int32)) (V4 : (Nat → Nat → Int32)) : Option Int32 :=
  (Option.bind (q_X1_votesFor_L5 N v1 v2 x6 x9 x10 x11 f0 f1 f2 V4 N 0 0) (fun t1 =>
  (some t1)))
set_option maxHeartbeats 4000000 in
set_option maxRecDepth 100000 in
theorem b_X1_votesFor {p : Program} {l : Launch} {e : Env} {R : Room} {s : State} {m : MethodId} {args : Array Value} {below : List Frame} {meth : Method} {c : Code} {Q : State → Prop} {A : Nat → Prop} {dC : Nat → ClassId} {dI : Nat → Nat → Nat} {cI cZ cJ cA : ClassId} {h0 : Nat} {a : Nat → Nat} {r4 : Nat → Nat} (N : Nat) (C0 : z_Cx p s m args c cX1_votesFor 5 wsX1_votesFor RX1 R 4 88 A dC dI (z_ty cI cZ cJ cA)) {v1 : Int32} {v2 : Int32} {x5 : Int32} {x6 : Int32} {x7 : Int32} {x8 : Int32} {x9 : Int32} {x10 : Int32} {x11 : Int32} {x12 : Int32} {x13 : Int32} {x14 : Int32} {x15 : Int32} {f0 : (Nat → Int32)} {f1 : (Nat → Int32)} {f2 : (Nat → Int32)} {f3 : (Nat → Int32)} {V4 : (Nat → Nat → Int32)} {o : Int32} {H : Heap} {locs : List Loc} {ls : Array Slot} (hf : q_X1_votesFor N v1 v2 x6 x9 x10 x11 f0 f1 f2 V4 = some o) (hP : va_P (dC, dI) vwCl (wX1 cI cZ cJ cA h0 a r4 x5 x6 x7 x8 x9 x10 x11 x12 x13 x14 x15 f0 f1 f2 f3 V4) H) (hD : va_D A (wX1 cI cZ cJ cA h0 a r4 x5 x6 x7 x8 x9 x10 x11 x12 x13 x14 x15 f0 f1 f2 f3 V4)) (hS : va_S A s.heap H locs) (hl : lv_has ls 5 [(0, .ref h0), (1, .int v1), (2, .int v2)])
    (hret : ∀ (pc : Nat) (H : Heap) (locs : List Loc) (ls : Array Slot) (r : Int32), decode cX1_votesFor pc = .ok (.ireturn, 1) → r = o → va_P (dC, dI) vwCl (wX1 cI cZ cJ cA h0 a r4 x5 x6 x7 x8 x9 x10 x11 x12 x13 x14 x15 f0 f1 f2 f3 V4) H → va_D A (wX1 cI cZ cJ cA h0 a r4 x5 x6 x7 x8 x9 x10 x11 x12 x13 x14 x15 f0 f1 f2 f3 V4) → va_S A s.heap H locs → W p l e R s m args below meth c H locs 0 0 Q (F0 m pc ls [.int r])) :
    W p l e R s m args below meth c H locs 0 0 Q (F0 m 0 ls []) := by
  obtain ⟨⟨hx, hb, hml, hown, hts⟩, hRf, hRl, hA, hN, hK⟩ := C0
  unfold q_X1_votesFor at hf
  refine lv_iconst (v := 0) hx hb dX1_votesFor_0 (by decide) ?_
  refine lv_istore_n (lv' := [(3, .int 0), (0, .ref h0), (1, .int v1), (2, .int v2)]) hx hb dX1_votesFor_1 rfl hl (by decide) rfl (fun ls hl => ?_)
  refine lv_iconst (v := 0) hx hb dX1_votesFor_2 (by decide) ?_
  refine lv_istore (lv' := [(4, .int 0), (3, .int 0), (0, .ref h0), (1, .int v1), (2, .int v2)]) hx hb dX1_votesFor_3 hl (by decide) rfl (fun ls hl => ?_)
  obtain ⟨t1, ht1, hf1⟩ := z_ib hf
  replace hf := hf1
  clear hf1
  refine b_X1_votesFor_L5 N ⟨⟨hx, hb, hml, hown, hts⟩, hRf, hRl, hA, hN, hK⟩ N ht1 hP hD hS (lv_sub hl [2, 3, 4, 1, 0] rfl) (fun H locs ls hP hD hS hl => ?_)
  refine lv_iload_n hx hb dX1_votesFor_51 rfl (lv_at hl 0 rfl) ?_
  obtain rfl := Option.some.inj hf
  exact hret _ _ _ _ _ dX1_votesFor_52 rfl hP hD hS
set_option maxHeartbeats 4000000 in
set_option maxRecDepth 100000 in
theorem k_X1_votesFor (l : Launch) (dC : Nat → ClassId) (dI : Nat → Nat → Nat) (cI cZ cJ cA : ClassId) (h0 : Nat) (a : Nat → Nat) (r4 : Nat → Nat) (sz : Nat) (N : Nat) (v1 : Int32) (v2 : Int32) (x5 : Int32) (x6 : Int32) (x7 : Int32) (x8 : Int32) (x9 : Int32) (x10 : Int32) (x11 : Int32) (x12 : Int32) (x13 : Int32) (x14 : Int32) (x15 : Int32) (f0 : (Nat → Int32)) (f1 : (Nat → Int32)) (f2 : (Nat → Int32)) (f3 : (Nat → Int32)) (V4 : (Nat → Nat → Int32)) (o : Int32) (hf : q_X1_votesFor N v1 v2 x6 x9 x10 x11 f0 f1 f2 V4 = some o) : Met l yX1_votesFor wsX1_votesFor ({ frames := 4, cells := 0, slots := 0, locals := 88 } : Room) (z_Pre dC dI (z_ty cI cZ cJ cA) [.ref h0, .int v1, .int v2] sz (wX1 cI cZ cJ cA h0 a r4 x5 x6 x7 x8 x9 x10 x11 x12 x13 x14 x15 f0 f1 f2 f3 V4)) (z_Pi dC dI o (wX1 cI cZ cJ cA h0 a r4 x5 x6 x7 x8 x9 x10 x11 x12 x13 x14 x15 f0 f1 f2 f3 V4) sz (wX1 cI cZ cJ cA h0 a r4 x5 x6 x7 x8 x9 x10 x11 x12 x13 x14 x15 f0 f1 f2 f3 V4)) 0 0 (va_A (wX1 cI cZ cJ cA h0 a r4 x5 x6 x7 x8 x9 x10 x11 x12 x13 x14 x15 f0 f1 f2 f3 V4) sz) := by
  refine Met.ofW (cc := cX1_votesFor) (maxL := 5) (ret := (some .int)) (by decide) rfl ?_
  intro p e s m args below meth c s₁ B hml hv
  obtain ⟨rfl, hsz, hP, hK, hD0, hN⟩ := hv
  subst hsz
  have hl := lv_entry ([.ref h0, .int v1, .int v2]) (n := 5) (Nat.le_of_ble_eq_true rfl)
  rw [lg_entry_eq]
  refine b_X1_votesFor N ⟨⟨B.exec, B.bytes, hml, findClass_of_methodNamed B.named, atoms_spec (ws := wsX1_votesFor) B.pre⟩, Nat.le_refl _, Nat.le_refl _, fun q h => Or.inr h, hN, hK⟩ hf hP hD0.self va_S.rf hl (fun pc H locs ls r hd hr hP hD hS => ?_)
  subst hr
  exact W.iret B.exec B.bytes B.returns (fun t ht hW => ⟨⟨_, (), rfl, rfl, by rw [ht]; exact hP, hD⟩, hS.F ht⟩) hS.2.2 hd
def q_X1_decideByVotes_L21 (N : Nat) (v1 : Int32) (x6 : Int32) (x9 : Int32) (x10 : Int32) (x11 : Int32) (f0 : (Nat → Int32)) (f1 : (Nat → Int32)) (f2 : (Nat → Int32)) (V4 : (Nat → Nat → Int32)) : Nat → Int32 → Int32 → Option Int32
  | 0, _, _ => none
  | n + 1, v2, v3 =>
    (Option.bind (q_X1_sizeOf N v1 x9 x10) (fun o1 =>
    (if o1 ≤ v3 then
     (some v2)
    else
     (Option.bind (q_X1_runnerAt N v1 v3 x9 x10 x11 f2) (fun o3 =>
     (Option.bind (q_X1_votesFor N v1 o3 x6 x9 x10 x11 f0 f1 f2 V4) (fun o4 =>
     (q_X1_decideByVotes_L21 N v1 x6 x9 x10 x11 f0 f1 f2 V4 n (v2 + o4) (v3 + 1)))))))))
set_option maxHeartbeats 4000000 in
set_option maxRecDepth 100000 in
theorem b_X1_decideByVotes_L21 {p : Program} {l : Launch} {e : Env} {R : Room} {s : State} {m : MethodId} {args : Array Value} {below : List Frame} {meth : Method} {c : Code} {Q : State → Prop} {A : Nat → Prop} {dC : Nat → ClassId} {dI : Nat → Nat → Nat} {cI cZ cJ cA : ClassId} {h0 : Nat} {a : Nat → Nat} {r4 : Nat → Nat} (N : Nat) (C0 : z_Cx p s m args c cX1_decideByVotes 5 wsX1_decideByVotes RX1 R 5 112 A dC dI (z_ty cI cZ cJ cA)) : ∀ (n : Nat) {v1 : Int32} {v2 : Int32} {v3 : Int32} {x5 : Int32} {x6 : Int32} {x7 : Int32} {x8 : Int32} {x9 : Int32} {x10 : Int32} {x11 : Int32} {x12 : Int32} {x13 : Int32} {x14 : Int32} {x15 : Int32} {f0 : (Nat → Int32)} {f1 : (Nat → Int32)} {f2 : (Nat → Int32)} {f3 : (Nat → Int32)} {V4 : (Nat → Nat → Int32)} {o : Int32} {H : Heap} {locs : List Loc} {ls : Array Slot}, q_X1_decideByVotes_L21 N v1 x6 x9 x10 x11 f0 f1 f2 V4 n v2 v3 = some o → va_P (dC, dI) vwCl (wX1 cI cZ cJ cA h0 a r4 x5 x6 x7 x8 x9 x10 x11 x12 x13 x14 x15 f0 f1 f2 f3 V4) H → va_D A (wX1 cI cZ cJ cA h0 a r4 x5 x6 x7 x8 x9 x10 x11 x12 x13 x14 x15 f0 f1 f2 f3 V4) → va_S A s.heap H locs → lv_has ls 5 [(0, .ref h0), (1, .int v1), (2, .int v2), (3, .int v3)] →
    (∀ (H : Heap) (locs : List Loc) (ls : Array Slot), va_P (dC, dI) vwCl (wX1 cI cZ cJ cA h0 a r4 x5 x6 x7 x8 x9 x10 x11 x12 x13 x14 x15 f0 f1 f2 f3 V4) H → va_D A (wX1 cI cZ cJ cA h0 a r4 x5 x6 x7 x8 x9 x10 x11 x12 x13 x14 x15 f0 f1 f2 f3 V4) → va_S A s.heap H locs → lv_has ls 5 [(0, .ref h0), (1, .int v1), (2, .int o)] → W p l e R s m args below meth c H locs 0 0 Q (F0 m 50 ls [])) →
    W p l e R s m args below meth c H locs 0 0 Q (F0 m 21 ls []) := by
  obtain ⟨⟨hx, hb, hml, hown, hts⟩, hRf, hRl, hA, hN, hK⟩ := C0
  intro n
  induction n with
  | zero =>
    intro v1 v2 v3 x5 x6 x7 x8 x9 x10 x11 x12 x13 x14 x15 f0 f1 f2 f3 V4 o H locs ls hf
    cases hf
  | succ n ih =>
    intro v1 v2 v3 x5 x6 x7 x8 x9 x10 x11 x12 x13 x14 x15 f0 f1 f2 f3 V4 o H locs ls hf hP hD hS hl hexit
    rw [q_X1_decideByVotes_L21] at hf
    refine lv_iload_n hx hb dX1_decideByVotes_21 rfl (lv_at hl 3 rfl) ?_
    refine lv_aload_n hx hb dX1_decideByVotes_22 rfl (lv_at hl 0 rfl) ?_
    refine lv_iload_n hx hb dX1_decideByVotes_23 rfl (lv_at hl 1 rfl) ?_
    obtain ⟨o1, ho1, hf1⟩ := z_ib hf
    replace hf := hf1
    clear hf1
    refine z_Vi (As := [.int v1]) (rest := [.int v3]) (w := (wX1 cI cZ cJ cA h0 a r4 x5 x6 x7 x8 x9 x10 x11 x12 x13 x14 x15 f0 f1 f2 f3 V4)) (w1 := (wX1 cI cZ cJ cA h0 a r4 x5 x6 x7 x8 x9 x10 x11 x12 x13 x14 x15 f0 f1 f2 f3 V4)) ⟨hx, hb, hml, hown, hts⟩ (k_X1_sizeOf l dC dI cI cZ cJ cA h0 a r4 H.size N v1 x5 x6 x7 x8 x9 x10 x11 x12 x13 x14 x15 f0 f1 f2 f3 V4 o1 ho1) (cwV 1 hts gX1_decideByVotes_X1_sizeOf rfl rfl rfl (by decide +kernel) ⟨Nat.le_trans (Nat.le_of_ble_eq_true rfl) hRf, Nat.le_trans (Nat.le_of_ble_eq_true rfl) hRl⟩) hK hP hD hS hA hN (ci := 1) rfl rfl rfl rfl hl.1 rfl (Nat.le_of_ble_eq_true rfl) dX1_decideByVotes_24 (fun H locs hP hD hS => ?_)
    refine lv_icmp_ge (tgt := 50) hx hb dX1_decideByVotes_27 (by decide) (fun c2 => ?_) (fun c2 => ?_)
    · replace hf := z_ip hf c2
      obtain rfl := Option.some.inj hf
      exact hexit _ _ _ hP hD hS (lv_sub hl [0, 1, 2] rfl)
    · replace hf := z_im hf c2
      refine lv_iload_n hx hb dX1_decideByVotes_30 rfl (lv_at hl 2 rfl) ?_
      refine lv_aload_n hx hb dX1_decideByVotes_31 rfl (lv_at hl 0 rfl) ?_
      refine lv_iload_n hx hb dX1_decideByVotes_32 rfl (lv_at hl 1 rfl) ?_
      refine lv_aload_n hx hb dX1_decideByVotes_33 rfl (lv_at hl 0 rfl) ?_
      refine lv_iload_n hx hb dX1_decideByVotes_34 rfl (lv_at hl 1 rfl) ?_
      refine lv_iload_n hx hb dX1_decideByVotes_35 rfl (lv_at hl 3 rfl) ?_
      obtain ⟨o3, ho3, hf1⟩ := z_ib hf
      replace hf := hf1
      clear hf1
      refine z_Vi (As := [.int v1, .int v3]) (rest := [.int v1, .ref h0, .int v2]) (w := (wX1 cI cZ cJ cA h0 a r4 x5 x6 x7 x8 x9 x10 x11 x12 x13 x14 x15 f0 f1 f2 f3 V4)) (w1 := (wX1 cI cZ cJ cA h0 a r4 x5 x6 x7 x8 x9 x10 x11 x12 x13 x14 x15 f0 f1 f2 f3 V4)) ⟨hx, hb, hml, hown, hts⟩ (k_X1_runnerAt l dC dI cI cZ cJ cA h0 a r4 H.size N v1 v3 x5 x6 x7 x8 x9 x10 x11 x12 x13 x14 x15 f0 f1 f2 f3 V4 o3 ho3) (cwV 2 hts gX1_decideByVotes_X1_runnerAt rfl rfl rfl (by decide +kernel) ⟨Nat.le_trans (Nat.le_of_ble_eq_true rfl) hRf, Nat.le_trans (Nat.le_of_ble_eq_true rfl) hRl⟩) hK hP hD hS hA hN (ci := 1) rfl rfl rfl rfl hl.1 rfl (Nat.le_of_ble_eq_true rfl) dX1_decideByVotes_36 (fun H locs hP hD hS => ?_)
      obtain ⟨o4, ho4, hf1⟩ := z_ib hf
      replace hf := hf1
      clear hf1
      refine z_Vi (As := [.int v1, .int o3]) (rest := [.int v2]) (w := (wX1 cI cZ cJ cA h0 a r4 x5 x6 x7 x8 x9 x10 x11 x12 x13 x14 x15 f0 f1 f2 f3 V4)) (w1 := (wX1 cI cZ cJ cA h0 a r4 x5 x6 x7 x8 x9 x10 x11 x12 x13 x14 x15 f0 f1 f2 f3 V4)) ⟨hx, hb, hml, hown, hts⟩ (k_X1_votesFor l dC dI cI cZ cJ cA h0 a r4 H.size N v1 o3 x5 x6 x7 x8 x9 x10 x11 x12 x13 x14 x15 f0 f1 f2 f3 V4 o4 ho4) (cwV 2 hts gX1_decideByVotes_X1_votesFor rfl rfl rfl (by decide +kernel) ⟨Nat.le_trans (Nat.le_of_ble_eq_true rfl) hRf, Nat.le_trans (Nat.le_of_ble_eq_true rfl) hRl⟩) hK hP hD hS hA hN (ci := 1) rfl rfl rfl rfl hl.1 rfl (Nat.le_of_ble_eq_true rfl) dX1_decideByVotes_39 (fun H locs hP hD hS => ?_)
      refine lv_iadd hx hb dX1_decideByVotes_42 ?_
      refine lv_istore_n (lv' := [(2, .int (v2 + o4)), (0, .ref h0), (1, .int v1), (3, .int v3)]) hx hb dX1_decideByVotes_43 rfl hl (by decide) rfl (fun ls hl => ?_)
      refine lv_iinc (v := (v3 + 1)) (lv' := [(3, .int (v3 + 1)), (2, .int (v2 + o4)), (0, .ref h0), (1, .int v1)]) hx hb dX1_decideByVotes_44 hl (k := 3) rfl rfl (by decide) rfl (fun ls hl => ?_)
      refine lv_goto (tgt := 21) hx hb dX1_decideByVotes_47 (by decide) ?_
      exact ih hf hP hD hS (lv_sub hl [2, 3, 1, 0] rfl) hexit
def q_X1_decideByVotes_L52 (N : Nat) (v1 : Int32) (v2 : Int32) (x6 : Int32) (x9 : Int32) (x10 : Int32) (x11 : Int32) (f0 : (Nat → Int32)) (f1 : (Nat → Int32)) (f2 : (Nat → Int32)) (f3 : (Nat → Int32)) (V4 : (Nat → Nat → Int32)) : Nat → Int32 → Option (Sum (Int32 × (Nat → Int32)) Unit)
  | 0, _ => none
  | n + 1, v3 =>
    (Option.bind (q_X1_sizeOf N v1 x9 x10) (fun o1 =>
    (if o1 ≤ v3 then
     (some (Sum.inr ()))
    else
     (Option.bind (q_X1_runnerAt N v1 v3 x9 x10 x11 f2) (fun o3 =>
     (Option.bind (q_X1_votesFor N v1 o3 x6 x9 x10 x11 f0 f1 f2 V4) (fun o4 =>
     (if (2 * o4) ≤ v2 then
      (q_X1_decideByVotes_L52 N v1 v2 x6 x9 x10 x11 f0 f1 f2 f3 V4 n (v3 + 1))
     else
      (if z_in v1 12 then
      (some (Sum.inl (o3, (upd f3 (Int32.toNatClampNeg v1) o3))))
      else none)))))))))
set_option maxHeartbeats 4000000 in
set_option maxRecDepth 100000 in
theorem b_X1_decideByVotes_L52 {p : Program} {l : Launch} {e : Env} {R : Room} {s : State} {m : MethodId} {args : Array Value} {below : List Frame} {meth : Method} {c : Code} {Q : State → Prop} {A : Nat → Prop} {dC : Nat → ClassId} {dI : Nat → Nat → Nat} {cI cZ cJ cA : ClassId} {h0 : Nat} {a : Nat → Nat} {r4 : Nat → Nat} (N : Nat) (C0 : z_Cx p s m args c cX1_decideByVotes 5 wsX1_decideByVotes RX1 R 5 112 A dC dI (z_ty cI cZ cJ cA)) : ∀ (n : Nat) {v1 : Int32} {v2 : Int32} {v3 : Int32} {x5 : Int32} {x6 : Int32} {x7 : Int32} {x8 : Int32} {x9 : Int32} {x10 : Int32} {x11 : Int32} {x12 : Int32} {x13 : Int32} {x14 : Int32} {x15 : Int32} {f0 : (Nat → Int32)} {f1 : (Nat → Int32)} {f2 : (Nat → Int32)} {f3 : (Nat → Int32)} {V4 : (Nat → Nat → Int32)} {o : (Sum (Int32 × (Nat → Int32)) Unit)} {H : Heap} {locs : List Loc} {ls : Array Slot}, q_X1_decideByVotes_L52 N v1 v2 x6 x9 x10 x11 f0 f1 f2 f3 V4 n v3 = some o → va_P (dC, dI) vwCl (wX1 cI cZ cJ cA h0 a r4 x5 x6 x7 x8 x9 x10 x11 x12 x13 x14 x15 f0 f1 f2 f3 V4) H → va_D A (wX1 cI cZ cJ cA h0 a r4 x5 x6 x7 x8 x9 x10 x11 x12 x13 x14 x15 f0 f1 f2 f3 V4) → va_S A s.heap H locs → lv_has ls 5 [(0, .ref h0), (1, .int v1), (2, .int v2), (3, .int v3)] →
    (∀ (t : (Int32 × (Nat → Int32))), o = Sum.inl t → ∀ (pc : Nat) (H : Heap) (locs : List Loc) (ls : Array Slot) (r : Int32), decode cX1_decideByVotes pc = .ok (.ireturn, 1) → r = t.1 → va_P (dC, dI) vwCl (wX1 cI cZ cJ cA h0 a r4 x5 x6 x7 x8 x9 x10 x11 x12 x13 x14 x15 f0 f1 f2 t.2 V4) H → va_D A (wX1 cI cZ cJ cA h0 a r4 x5 x6 x7 x8 x9 x10 x11 x12 x13 x14 x15 f0 f1 f2 t.2 V4) → va_S A s.heap H locs → W p l e R s m args below meth c H locs 0 0 Q (F0 m pc ls [.int r])) →
    (∀ (t : Unit) (H : Heap) (locs : List Loc) (ls : Array Slot), o = Sum.inr t → va_P (dC, dI) vwCl (wX1 cI cZ cJ cA h0 a r4 x5 x6 x7 x8 x9 x10 x11 x12 x13 x14 x15 f0 f1 f2 f3 V4) H → va_D A (wX1 cI cZ cJ cA h0 a r4 x5 x6 x7 x8 x9 x10 x11 x12 x13 x14 x15 f0 f1 f2 f3 V4) → va_S A s.heap H locs → lv_has ls 5 [] → W p l e R s m args below meth c H locs 0 0 Q (F0 m 99 ls [])) →
    W p l e R s m args below meth c H locs 0 0 Q (F0 m 52 ls []) := by
  obtain ⟨⟨hx, hb, hml, hown, hts⟩, hRf, hRl, hA, hN, hK⟩ := C0
  intro n
  induction n with
  | zero =>
    intro v1 v2 v3 x5 x6 x7 x8 x9 x10 x11 x12 x13 x14 x15 f0 f1 f2 f3 V4 o H locs ls hf
    cases hf
  | succ n ih =>
    intro v1 v2 v3 x5 x6 x7 x8 x9 x10 x11 x12 x13 x14 x15 f0 f1 f2 f3 V4 o H locs ls hf hP hD hS hl hret hexit
    rw [q_X1_decideByVotes_L52] at hf
    refine lv_iload_n hx hb dX1_decideByVotes_52 rfl (lv_at hl 3 rfl) ?_
    refine lv_aload_n hx hb dX1_decideByVotes_53 rfl (lv_at hl 0 rfl) ?_
    refine lv_iload_n hx hb dX1_decideByVotes_54 rfl (lv_at hl 1 rfl) ?_
    obtain ⟨o1, ho1, hf1⟩ := z_ib hf
    replace hf := hf1
    clear hf1
    refine z_Vi (As := [.int v1]) (rest := [.int v3]) (w := (wX1 cI cZ cJ cA h0 a r4 x5 x6 x7 x8 x9 x10 x11 x12 x13 x14 x15 f0 f1 f2 f3 V4)) (w1 := (wX1 cI cZ cJ cA h0 a r4 x5 x6 x7 x8 x9 x10 x11 x12 x13 x14 x15 f0 f1 f2 f3 V4)) ⟨hx, hb, hml, hown, hts⟩ (k_X1_sizeOf l dC dI cI cZ cJ cA h0 a r4 H.size N v1 x5 x6 x7 x8 x9 x10 x11 x12 x13 x14 x15 f0 f1 f2 f3 V4 o1 ho1) (cwV 1 hts gX1_decideByVotes_X1_sizeOf rfl rfl rfl (by decide +kernel) ⟨Nat.le_trans (Nat.le_of_ble_eq_true rfl) hRf, Nat.le_trans (Nat.le_of_ble_eq_true rfl) hRl⟩) hK hP hD hS hA hN (ci := 1) rfl rfl rfl rfl hl.1 rfl (Nat.le_of_ble_eq_true rfl) dX1_decideByVotes_55 (fun H locs hP hD hS => ?_)
    refine lv_icmp_ge (tgt := 99) hx hb dX1_decideByVotes_58 (by decide) (fun c2 => ?_) (fun c2 => ?_)
    · replace hf := z_ip hf c2
      obtain rfl := Option.some.inj hf
      exact hexit _ _ _ _ rfl hP hD hS (lv_sub hl [] rfl)
    · replace hf := z_im hf c2
      refine lv_aload_n hx hb dX1_decideByVotes_61 rfl (lv_at hl 0 rfl) ?_
      refine lv_iload_n hx hb dX1_decideByVotes_62 rfl (lv_at hl 1 rfl) ?_
      refine lv_iload_n hx hb dX1_decideByVotes_63 rfl (lv_at hl 3 rfl) ?_
      obtain ⟨o3, ho3, hf1⟩ := z_ib hf
      replace hf := hf1
      clear hf1
      refine z_Vi (As := [.int v1, .int v3]) (rest := []) (w := (wX1 cI cZ cJ cA h0 a r4 x5 x6 x7 x8 x9 x10 x11 x12 x13 x14 x15 f0 f1 f2 f3 V4)) (w1 := (wX1 cI cZ cJ cA h0 a r4 x5 x6 x7 x8 x9 x10 x11 x12 x13 x14 x15 f0 f1 f2 f3 V4)) ⟨hx, hb, hml, hown, hts⟩ (k_X1_runnerAt l dC dI cI cZ cJ cA h0 a r4 H.size N v1 v3 x5 x6 x7 x8 x9 x10 x11 x12 x13 x14 x15 f0 f1 f2 f3 V4 o3 ho3) (cwV 2 hts gX1_decideByVotes_X1_runnerAt rfl rfl rfl (by decide +kernel) ⟨Nat.le_trans (Nat.le_of_ble_eq_true rfl) hRf, Nat.le_trans (Nat.le_of_ble_eq_true rfl) hRl⟩) hK hP hD hS hA hN (ci := 1) rfl rfl rfl rfl hl.1 rfl (Nat.le_of_ble_eq_true rfl) dX1_decideByVotes_64 (fun H locs hP hD hS => ?_)
      refine lv_istore (lv' := [(4, .int o3), (0, .ref h0), (1, .int v1), (2, .int v2), (3, .int v3)]) hx hb dX1_decideByVotes_67 hl (by decide) rfl (fun ls hl => ?_)
      refine lv_iconst (v := 2) hx hb dX1_decideByVotes_69 (by decide) ?_
      refine lv_aload_n hx hb dX1_decideByVotes_70 rfl (lv_at hl 1 rfl) ?_
      refine lv_iload_n hx hb dX1_decideByVotes_71 rfl (lv_at hl 2 rfl) ?_
      refine lv_iload hx hb dX1_decideByVotes_72 (lv_at hl 0 rfl) ?_
      obtain ⟨o4, ho4, hf1⟩ := z_ib hf
      replace hf := hf1
      clear hf1
      refine z_Vi (As := [.int v1, .int o3]) (rest := [.int 2]) (w := (wX1 cI cZ cJ cA h0 a r4 x5 x6 x7 x8 x9 x10 x11 x12 x13 x14 x15 f0 f1 f2 f3 V4)) (w1 := (wX1 cI cZ cJ cA h0 a r4 x5 x6 x7 x8 x9 x10 x11 x12 x13 x14 x15 f0 f1 f2 f3 V4)) ⟨hx, hb, hml, hown, hts⟩ (k_X1_votesFor l dC dI cI cZ cJ cA h0 a r4 H.size N v1 o3 x5 x6 x7 x8 x9 x10 x11 x12 x13 x14 x15 f0 f1 f2 f3 V4 o4 ho4) (cwV 2 hts gX1_decideByVotes_X1_votesFor rfl rfl rfl (by decide +kernel) ⟨Nat.le_trans (Nat.le_of_ble_eq_true rfl) hRf, Nat.le_trans (Nat.le_of_ble_eq_true rfl) hRl⟩) hK hP hD hS hA hN (ci := 1) rfl rfl rfl rfl hl.1 rfl (Nat.le_of_ble_eq_true rfl) dX1_decideByVotes_74 (fun H locs hP hD hS => ?_)
      refine lv_imul hx hb dX1_decideByVotes_77 ?_
      refine lv_iload_n hx hb dX1_decideByVotes_78 rfl (lv_at hl 3 rfl) ?_
      refine lv_icmp_le (tgt := 93) hx hb dX1_decideByVotes_79 (by decide) (fun c5 => ?_) (fun c5 => ?_)
      · replace hf := z_ip hf c5
        refine lv_iinc (v := (v3 + 1)) (lv' := [(3, .int (v3 + 1)), (4, .int o3), (0, .ref h0), (1, .int v1), (2, .int v2)]) hx hb dX1_decideByVotes_93 hl (k := 4) rfl rfl (by decide) rfl (fun ls hl => ?_)
        refine lv_goto (tgt := 52) hx hb dX1_decideByVotes_96 (by decide) ?_
        exact ih hf hP hD hS (lv_sub hl [2, 3, 4, 0] rfl) hret hexit
      · replace hf := z_im hf c5
        refine lv_aload_n hx hb dX1_decideByVotes_82 rfl (lv_at hl 1 rfl) ?_
        refine va_get (D := (dC, dI)) (ci := 1) (v := .ref (a 3)) (C := RX1) (T := TX1) (N := 16) hx hb hts (fun w hw => List.mem_cons_of_mem _ (List.mem_append_right _ hw)) hown hK hP 0 rfl rfl 3 (by decide) (hts (.fieldLink RX1 21 "OldStadium$Heats" "winners" "[I") (List.mem_of_getElem? (i := 2) rfl)) (fun _ h9 => h9) rfl dX1_decideByVotes_83 ?_
        refine lv_iload_n hx hb dX1_decideByVotes_86 rfl (lv_at hl 2 rfl) ?_
        refine lv_iload hx hb dX1_decideByVotes_87 (lv_at hl 0 rfl) ?_
        have b6 := z_c1 hf
        replace hf := z_c2 hf
        refine va_iast hx hb hK hP hD hS 4 0 rfl rfl b6 dX1_decideByVotes_89 (fun H locs hP hD hS => ?_)
        replace hP : va_P (dC, dI) vwCl (wX1 cI cZ cJ cA h0 a r4 x5 x6 x7 x8 x9 x10 x11 x12 x13 x14 x15 f0 f1 f2 (upd f3 (Int32.toNatClampNeg v1) o3) V4) H := hP
        replace hD : va_D A (wX1 cI cZ cJ cA h0 a r4 x5 x6 x7 x8 x9 x10 x11 x12 x13 x14 x15 f0 f1 f2 (upd f3 (Int32.toNatClampNeg v1) o3) V4) := hD
        refine lv_iload hx hb dX1_decideByVotes_90 (lv_at hl 0 rfl) ?_
        obtain rfl := Option.some.inj hf
        exact hret _ rfl _ _ _ _ _ dX1_decideByVotes_92 rfl hP hD hS
def q_X1_decideByVotes (N : Nat) (v1 : Int32) (x6 : Int32) (x7 : Int32) (x9 : Int32) (x10 : Int32) (x11 : Int32) (f0 : (Nat → Int32)) (f1 : (Nat → Int32)) (f2 : (Nat → Int32)) (f3 : (Nat → Int32)) (V4 : (Nat → Nat → Int32)) : Option (Int32 × (Nat → Int32)) :=
  (if x7 = 0 then
   (some ((-1), f3))
  else
   (Option.bind (q_X1_isHeat N v1 x11) (fun o2 =>
   (if o2 = 0 then
    (some ((-1), f3))
   else
    (Option.bind (q_X1_decideByVotes_L21 N v1 x6 x9 x10 x11 f0 f1 f2 V4 N 0 0) (fun t4 =>
    (Option.bind (q_X1_decideByVotes_L52 N v1 t4 x6 x9 x10 x11 f0 f1 f2 f3 V4 N 0) (Sum.elim (fun r7 => (some r7)) (fun s6 =>
    (some ((-2), f3)))))))))))
set_option maxHeartbeats 4000000 in
set_option maxRecDepth 100000 in
theorem b_X1_decideByVotes {p : Program} {l : Launch} {e : Env} {R : Room} {s : State} {m : MethodId} {args : Array Value} {below : List Frame} {meth : Method} {c : Code} {Q : State → Prop} {A : Nat → Prop} {dC : Nat → ClassId} {dI : Nat → Nat → Nat} {cI cZ cJ cA : ClassId} {h0 : Nat} {a : Nat → Nat} {r4 : Nat → Nat} (N : Nat) (C0 : z_Cx p s m args c cX1_decideByVotes 5 wsX1_decideByVotes RX1 R 5 112 A dC dI (z_ty cI cZ cJ cA)) {v1 : Int32} {x5 : Int32} {x6 : Int32} {x7 : Int32} {x8 : Int32} {x9 : Int32} {x10 : Int32} {x11 : Int32} {x12 : Int32} {x13 : Int32} {x14 : Int32} {x15 : Int32} {f0 : (Nat → Int32)} {f1 : (Nat → Int32)} {f2 : (Nat → Int32)} {f3 : (Nat → Int32)} {V4 : (Nat → Nat → Int32)} {o : (Int32 × (Nat → Int32))} {H : Heap} {locs : List Loc} {ls : Array Slot} (hf : q_X1_decideByVotes N v1 x6 x7 x9 x10 x11 f0 f1 f2 f3 V4 = some o) (hP : va_P (dC, dI) vwCl (wX1 cI cZ cJ cA h0 a r4 x5 x6 x7 x8 x9 x10 x11 x12 x13 x14 x15 f0 f1 f2 f3 V4) H) (hD : va_D A (wX1 cI cZ cJ cA h0 a r4 x5 x6 x7 x8 x9 x10 x11 x12 x13 x14 x15 f0 f1 f2 f3 V4)) (hS : va_S A s.heap H locs) (hl : lv_has ls 5 [(0, .ref h0), (1, .int v1)])
    (hret : ∀ (pc : Nat) (H : Heap) (locs : List Loc) (ls : Array Slot) (r : Int32), decode cX1_decideByVotes pc = .ok (.ireturn, 1) → r = o.1 → va_P (dC, dI) vwCl (wX1 cI cZ cJ cA h0 a r4 x5 x6 x7 x8 x9 x10 x11 x12 x13 x14 x15 f0 f1 f2 o.2 V4) H → va_D A (wX1 cI cZ cJ cA h0 a r4 x5 x6 x7 x8 x9 x10 x11 x12 x13 x14 x15 f0 f1 f2 o.2 V4) → va_S A s.heap H locs → W p l e R s m args below meth c H locs 0 0 Q (F0 m pc ls [.int r])) :
    W p l e R s m args below meth c H locs 0 0 Q (F0 m 0 ls []) := by
  obtain ⟨⟨hx, hb, hml, hown, hts⟩, hRf, hRl, hA, hN, hK⟩ := C0
  unfold q_X1_decideByVotes at hf
  refine lv_aload_n hx hb dX1_decideByVotes_0 rfl (lv_at hl 0 rfl) ?_
  refine va_get (D := (dC, dI)) (ci := 1) (v := .int x7) (C := RX1) (T := TX1) (N := 16) hx hb hts (fun w hw => List.mem_cons_of_mem _ (List.mem_append_right _ hw)) hown hK hP 0 rfl rfl 7 (by decide) (hts (.fieldLink RX1 36 "OldStadium$Heats" "going" "Z") (List.mem_of_getElem? (i := 1) rfl)) (fun _ h9 => h9) rfl dX1_decideByVotes_1 ?_
  refine lv_if_eq (tgt := 15) hx hb dX1_decideByVotes_4 (by decide) (fun c1 => ?_) (fun c1 => ?_)
  · replace hf := z_ip hf c1
    refine lv_iconst (v := (-1)) hx hb dX1_decideByVotes_15 (by decide) ?_
    obtain rfl := Option.some.inj hf
    exact hret _ _ _ _ _ dX1_decideByVotes_16 rfl hP hD hS
  · replace hf := z_im hf c1
    refine lv_aload_n hx hb dX1_decideByVotes_7 rfl (lv_at hl 0 rfl) ?_
    refine lv_iload_n hx hb dX1_decideByVotes_8 rfl (lv_at hl 1 rfl) ?_
    obtain ⟨o2, ho2, hf1⟩ := z_ib hf
    replace hf := hf1
    clear hf1
    refine z_Vi (As := [.int v1]) (rest := []) (w := (wX1 cI cZ cJ cA h0 a r4 x5 x6 x7 x8 x9 x10 x11 x12 x13 x14 x15 f0 f1 f2 f3 V4)) (w1 := (wX1 cI cZ cJ cA h0 a r4 x5 x6 x7 x8 x9 x10 x11 x12 x13 x14 x15 f0 f1 f2 f3 V4)) ⟨hx, hb, hml, hown, hts⟩ (k_X1_isHeat l dC dI cI cZ cJ cA h0 a r4 H.size N v1 x5 x6 x7 x8 x9 x10 x11 x12 x13 x14 x15 f0 f1 f2 f3 V4 o2 ho2) (cwV 1 hts gX1_decideByVotes_X1_isHeat rfl rfl rfl (by decide +kernel) ⟨Nat.le_trans (Nat.le_of_ble_eq_true rfl) hRf, Nat.le_trans (Nat.le_of_ble_eq_true rfl) hRl⟩) hK hP hD hS hA hN (ci := 1) rfl rfl rfl rfl hl.1 rfl (Nat.le_of_ble_eq_true rfl) dX1_decideByVotes_9 (fun H locs hP hD hS => ?_)
    refine lv_if_ne (tgt := 17) hx hb dX1_decideByVotes_12 (by decide) (fun c3 => ?_) (fun c3 => ?_)
    · replace hf := z_im hf c3
      refine lv_iconst (v := 0) hx hb dX1_decideByVotes_17 (by decide) ?_
      refine lv_istore_n (lv' := [(2, .int 0), (0, .ref h0), (1, .int v1)]) hx hb dX1_decideByVotes_18 rfl hl (by decide) rfl (fun ls hl => ?_)
      refine lv_iconst (v := 0) hx hb dX1_decideByVotes_19 (by decide) ?_
      refine lv_istore_n (lv' := [(3, .int 0), (2, .int 0), (0, .ref h0), (1, .int v1)]) hx hb dX1_decideByVotes_20 rfl hl (by decide) rfl (fun ls hl => ?_)
      obtain ⟨t4, ht4, hf1⟩ := z_ib hf
      replace hf := hf1
      clear hf1
      refine b_X1_decideByVotes_L21 N ⟨⟨hx, hb, hml, hown, hts⟩, hRf, hRl, hA, hN, hK⟩ N ht4 hP hD hS (lv_sub hl [2, 3, 1, 0] rfl) (fun H locs ls hP hD hS hl => ?_)
      refine lv_iconst (v := 0) hx hb dX1_decideByVotes_50 (by decide) ?_
      refine lv_istore_n (lv' := [(3, .int 0), (0, .ref h0), (1, .int v1), (2, .int t4)]) hx hb dX1_decideByVotes_51 rfl hl (by decide) rfl (fun ls hl => ?_)
      obtain ⟨t5, ht5, hf1⟩ := z_ib hf
      replace hf := hf1
      clear hf1
      refine b_X1_decideByVotes_L52 N ⟨⟨hx, hb, hml, hown, hts⟩, hRf, hRl, hA, hN, hK⟩ N ht5 hP hD hS (lv_sub hl [1, 2, 3, 0] rfl) (fun r7 e1 pc H locs ls r0 hd hr hP hD hS => ?_) (fun s6 H locs ls e1 hP hD hS hl => ?_)
      · subst e1
        have hf := z_sl hf
        obtain rfl := Option.some.inj hf
        exact hret pc H locs ls r0 hd hr hP hD hS
      subst e1
      replace hf := z_sr hf
      refine lv_bipush (v := (-2)) hx hb dX1_decideByVotes_99 (by decide) ?_
      obtain rfl := Option.some.inj hf
      exact hret _ _ _ _ _ dX1_decideByVotes_101 rfl hP hD hS
    · replace hf := z_ip hf c3
      refine lv_iconst (v := (-1)) hx hb dX1_decideByVotes_15 (by decide) ?_
      obtain rfl := Option.some.inj hf
      exact hret _ _ _ _ _ dX1_decideByVotes_16 rfl hP hD hS
set_option maxHeartbeats 4000000 in
set_option maxRecDepth 100000 in
theorem k_X1_decideByVotes (l : Launch) (dC : Nat → ClassId) (dI : Nat → Nat → Nat) (cI cZ cJ cA : ClassId) (h0 : Nat) (a : Nat → Nat) (r4 : Nat → Nat) (sz : Nat) (N : Nat) (v1 : Int32) (x5 : Int32) (x6 : Int32) (x7 : Int32) (x8 : Int32) (x9 : Int32) (x10 : Int32) (x11 : Int32) (x12 : Int32) (x13 : Int32) (x14 : Int32) (x15 : Int32) (f0 : (Nat → Int32)) (f1 : (Nat → Int32)) (f2 : (Nat → Int32)) (f3 : (Nat → Int32)) (V4 : (Nat → Nat → Int32)) (o : (Int32 × (Nat → Int32))) (hf : q_X1_decideByVotes N v1 x6 x7 x9 x10 x11 f0 f1 f2 f3 V4 = some o) : Met l yX1_decideByVotes wsX1_decideByVotes ({ frames := 5, cells := 0, slots := 0, locals := 112 } : Room) (z_Pre dC dI (z_ty cI cZ cJ cA) [.ref h0, .int v1] sz (wX1 cI cZ cJ cA h0 a r4 x5 x6 x7 x8 x9 x10 x11 x12 x13 x14 x15 f0 f1 f2 f3 V4)) (z_Pi dC dI o.1 (wX1 cI cZ cJ cA h0 a r4 x5 x6 x7 x8 x9 x10 x11 x12 x13 x14 x15 f0 f1 f2 o.2 V4) sz (wX1 cI cZ cJ cA h0 a r4 x5 x6 x7 x8 x9 x10 x11 x12 x13 x14 x15 f0 f1 f2 f3 V4)) 0 0 (va_A (wX1 cI cZ cJ cA h0 a r4 x5 x6 x7 x8 x9 x10 x11 x12 x13 x14 x15 f0 f1 f2 f3 V4) sz) := by
  refine Met.ofW (cc := cX1_decideByVotes) (maxL := 5) (ret := (some .int)) (by decide) rfl ?_
  intro p e s m args below meth c s₁ B hml hv
  obtain ⟨rfl, hsz, hP, hK, hD0, hN⟩ := hv
  subst hsz
  have hl := lv_entry ([.ref h0, .int v1]) (n := 5) (Nat.le_of_ble_eq_true rfl)
  rw [lg_entry_eq]
  refine b_X1_decideByVotes N ⟨⟨B.exec, B.bytes, hml, findClass_of_methodNamed B.named, atoms_spec (ws := wsX1_decideByVotes) B.pre⟩, Nat.le_refl _, Nat.le_refl _, fun q h => Or.inr h, hN, hK⟩ hf hP hD0.self va_S.rf hl (fun pc H locs ls r hd hr hP hD hS => ?_)
  subst hr
  exact W.iret B.exec B.bytes B.returns (fun t ht hW => ⟨⟨_, (), rfl, rfl, by rw [ht]; exact hP, hD⟩, hS.F ht⟩) hS.2.2 hd
def q_X1_end (N : Nat) (v1 : Int32) (x7 : Int32) (x14 : Int32) : Option (Int32 × Int32 × Int32) :=
  (some (0, 0, v1))
set_option maxHeartbeats 4000000 in
set_option maxRecDepth 100000 in
theorem b_X1_end {p : Program} {l : Launch} {e : Env} {R : Room} {s : State} {m : MethodId} {args : Array Value} {below : List Frame} {meth : Method} {c : Code} {Q : State → Prop} {A : Nat → Prop} {dC : Nat → ClassId} {dI : Nat → Nat → Nat} {cI cZ cJ cA : ClassId} {h0 : Nat} {a : Nat → Nat} {r4 : Nat → Nat} (N : Nat) (C0 : z_Cx p s m args c cX1_end 2 wsX1_end RX1 R 0 0 A dC dI (z_ty cI cZ cJ cA)) {v1 : Int32} {x5 : Int32} {x6 : Int32} {x7 : Int32} {x8 : Int32} {x9 : Int32} {x10 : Int32} {x11 : Int32} {x12 : Int32} {x13 : Int32} {x14 : Int32} {x15 : Int32} {f0 : (Nat → Int32)} {f1 : (Nat → Int32)} {f2 : (Nat → Int32)} {f3 : (Nat → Int32)} {V4 : (Nat → Nat → Int32)} {o : (Int32 × Int32 × Int32)} {H : Heap} {locs : List Loc} {ls : Array Slot} (hf : q_X1_end N v1 x7 x14 = some o) (hP : va_P (dC, dI) vwCl (wX1 cI cZ cJ cA h0 a r4 x5 x6 x7 x8 x9 x10 x11 x12 x13 x14 x15 f0 f1 f2 f3 V4) H) (hD : va_D A (wX1 cI cZ cJ cA h0 a r4 x5 x6 x7 x8 x9 x10 x11 x12 x13 x14 x15 f0 f1 f2 f3 V4)) (hS : va_S A s.heap H locs) (hl : lv_has ls 2 [(0, .ref h0), (1, .int v1)])
    (hret : ∀ (pc : Nat) (H : Heap) (locs : List Loc) (ls : Array Slot) (r : Int32), decode cX1_end pc = .ok (.ireturn, 1) → r = o.1 → va_P (dC, dI) vwCl (wX1 cI cZ cJ cA h0 a r4 x5 x6 o.2.1 x8 x9 x10 x11 x12 x13 o.2.2 x15 f0 f1 f2 f3 V4) H → va_D A (wX1 cI cZ cJ cA h0 a r4 x5 x6 o.2.1 x8 x9 x10 x11 x12 x13 o.2.2 x15 f0 f1 f2 f3 V4) → va_S A s.heap H locs → W p l e R s m args below meth c H locs 0 0 Q (F0 m pc ls [.int r])) :
    W p l e R s m args below meth c H locs 0 0 Q (F0 m 0 ls []) := by
  obtain ⟨⟨hx, hb, hml, hown, hts⟩, hRf, hRl, hA, hN, hK⟩ := C0
  unfold q_X1_end at hf
  refine lv_aload_n hx hb dX1_end_0 rfl (lv_at hl 0 rfl) ?_
  refine lv_iload_n hx hb dX1_end_1 rfl (lv_at hl 1 rfl) ?_
  refine va_put (D := (dC, dI)) (ci := 1) (v := .int v1) (ty := .int) (C := RX1) (T := TX1) (N := 16) hx hb hts (fun w hw => List.mem_cons_of_mem _ (List.mem_append_right _ hw)) tyX1 tyX1_ok nmX1 hown hK hP hD hS 0 rfl rfl 14 (by decide) (hts (.fieldLink RX1 58 "OldStadium$Heats" "victo\x72" "I") (List.mem_of_getElem? (i := 1) rfl)) (fun _ h9 => h9) rfl (by decide +kernel) rfl rfl (Nat.le_of_ble_eq_true rfl) dX1_end_2 (fun H locs hP hD hS => ?_)
  replace hP : va_P (dC, dI) vwCl (wX1 cI cZ cJ cA h0 a r4 x5 x6 x7 x8 x9 x10 x11 x12 x13 v1 x15 f0 f1 f2 f3 V4) H := hP
  replace hD : va_D A (wX1 cI cZ cJ cA h0 a r4 x5 x6 x7 x8 x9 x10 x11 x12 x13 v1 x15 f0 f1 f2 f3 V4) := hD
  refine lv_aload_n hx hb dX1_end_5 rfl (lv_at hl 0 rfl) ?_
  refine lv_iconst (v := 0) hx hb dX1_end_6 (by decide) ?_
  refine va_put (D := (dC, dI)) (ci := 1) (v := .int 0) (ty := .boolean) (C := RX1) (T := TX1) (N := 16) hx hb hts (fun w hw => List.mem_cons_of_mem _ (List.mem_append_right _ hw)) tyX1 tyX1_ok nmX1 hown hK hP hD hS 0 rfl rfl 7 (by decide) (hts (.fieldLink RX1 36 "OldStadium$Heats" "going" "Z") (List.mem_of_getElem? (i := 2) rfl)) (fun _ h9 => h9) rfl (by decide +kernel) rfl rfl (Nat.le_of_ble_eq_true rfl) dX1_end_7 (fun H locs hP hD hS => ?_)
  replace hP : va_P (dC, dI) vwCl (wX1 cI cZ cJ cA h0 a r4 x5 x6 0 x8 x9 x10 x11 x12 x13 v1 x15 f0 f1 f2 f3 V4) H := hP
  replace hD : va_D A (wX1 cI cZ cJ cA h0 a r4 x5 x6 0 x8 x9 x10 x11 x12 x13 v1 x15 f0 f1 f2 f3 V4) := hD
  refine lv_iconst (v := 0) hx hb dX1_end_10 (by decide) ?_
  obtain rfl := Option.some.inj hf
  exact hret _ _ _ _ _ dX1_end_11 rfl hP hD hS
set_option maxHeartbeats 4000000 in
set_option maxRecDepth 100000 in
theorem k_X1_end (l : Launch) (dC : Nat → ClassId) (dI : Nat → Nat → Nat) (cI cZ cJ cA : ClassId) (h0 : Nat) (a : Nat → Nat) (r4 : Nat → Nat) (sz : Nat) (N : Nat) (v1 : Int32) (x5 : Int32) (x6 : Int32) (x7 : Int32) (x8 : Int32) (x9 : Int32) (x10 : Int32) (x11 : Int32) (x12 : Int32) (x13 : Int32) (x14 : Int32) (x15 : Int32) (f0 : (Nat → Int32)) (f1 : (Nat → Int32)) (f2 : (Nat → Int32)) (f3 : (Nat → Int32)) (V4 : (Nat → Nat → Int32)) (o : (Int32 × Int32 × Int32)) (hf : q_X1_end N v1 x7 x14 = some o) : Met l yX1_end wsX1_end ({ frames := 0, cells := 0, slots := 0, locals := 0 } : Room) (z_Pre dC dI (z_ty cI cZ cJ cA) [.ref h0, .int v1] sz (wX1 cI cZ cJ cA h0 a r4 x5 x6 x7 x8 x9 x10 x11 x12 x13 x14 x15 f0 f1 f2 f3 V4)) (z_Pi dC dI o.1 (wX1 cI cZ cJ cA h0 a r4 x5 x6 o.2.1 x8 x9 x10 x11 x12 x13 o.2.2 x15 f0 f1 f2 f3 V4) sz (wX1 cI cZ cJ cA h0 a r4 x5 x6 x7 x8 x9 x10 x11 x12 x13 x14 x15 f0 f1 f2 f3 V4)) 0 0 (va_A (wX1 cI cZ cJ cA h0 a r4 x5 x6 x7 x8 x9 x10 x11 x12 x13 x14 x15 f0 f1 f2 f3 V4) sz) := by
  refine Met.ofW (cc := cX1_end) (maxL := 2) (ret := (some .int)) (by decide) rfl ?_
  intro p e s m args below meth c s₁ B hml hv
  obtain ⟨rfl, hsz, hP, hK, hD0, hN⟩ := hv
  subst hsz
  have hl := lv_entry ([.ref h0, .int v1]) (n := 2) (Nat.le_of_ble_eq_true rfl)
  rw [lg_entry_eq]
  refine b_X1_end N ⟨⟨B.exec, B.bytes, hml, findClass_of_methodNamed B.named, atoms_spec (ws := wsX1_end) B.pre⟩, Nat.le_refl _, Nat.le_refl _, fun q h => Or.inr h, hN, hK⟩ hf hP hD0.self va_S.rf hl (fun pc H locs ls r hd hr hP hD hS => ?_)
  subst hr
  exact W.iret B.exec B.bytes B.returns (fun t ht hW => ⟨⟨_, (), rfl, rfl, by rw [ht]; exact hP, hD⟩, hS.F ht⟩) hS.2.2 hd
def q_X1_goOn_L80 (N : Nat) (x11 : Int32) (f3 : (Nat → Int32)) : Nat → Int32 → Int32 → Option Int32
  | 0, _, _ => none
  | n + 1, v1, v2 =>
    (if x11 ≤ v2 then
     (some v1)
    else
     (if z_in v2 12 then
     (Option.bind (some ((v1 ||| ((1 : Int32) <<< ((f3 (Int32.toNatClampNeg v2)) &&& 31))) : Int32)) (fun n3 =>
     (q_X1_goOn_L80 N x11 f3 n n3 (v2 + 1))))
     else none))
set_option maxHeartbeats 4000000 in
set_option maxRecDepth 100000 in
theorem b_X1_goOn_L80 {p : Program} {l : Launch} {e : Env} {R : Room} {s : State} {m : MethodId} {args : Array Value} {below : List Frame} {meth : Method} {c : Code} {Q : State → Prop} {A : Nat → Prop} {dC : Nat → ClassId} {dI : Nat → Nat → Nat} {cI cZ cJ cA : ClassId} {h0 : Nat} {a : Nat → Nat} {r4 : Nat → Nat} (N : Nat) (C0 : z_Cx p s m args c cX1_goOn 3 wsX1_goOn RX1 R 4 86 A dC dI (z_ty cI cZ cJ cA)) : ∀ (n : Nat) {v1 : Int32} {v2 : Int32} {x5 : Int32} {x6 : Int32} {x7 : Int32} {x8 : Int32} {x9 : Int32} {x10 : Int32} {x11 : Int32} {x12 : Int32} {x13 : Int32} {x14 : Int32} {x15 : Int32} {f0 : (Nat → Int32)} {f1 : (Nat → Int32)} {f2 : (Nat → Int32)} {f3 : (Nat → Int32)} {V4 : (Nat → Nat → Int32)} {o : Int32} {H : Heap} {locs : List Loc} {ls : Array Slot}, q_X1_goOn_L80 N x11 f3 n v1 v2 = some o → va_P (dC, dI) vwCl (wX1 cI cZ cJ cA h0 a r4 x5 x6 x7 x8 x9 x10 x11 x12 x13 x14 x15 f0 f1 f2 f3 V4) H → va_D A (wX1 cI cZ cJ cA h0 a r4 x5 x6 x7 x8 x9 x10 x11 x12 x13 x14 x15 f0 f1 f2 f3 V4) → va_S A s.heap H locs → lv_has ls 3 [(0, .ref h0), (1, .int v1), (2, .int v2)] →
    (∀ (H : Heap) (locs : List Loc) (ls : Array Slot), va_P (dC, dI) vwCl (wX1 cI cZ cJ cA h0 a r4 x5 x6 x7 x8 x9 x10 x11 x12 x13 x14 x15 f0 f1 f2 f3 V4) H → va_D A (wX1 cI cZ cJ cA h0 a r4 x5 x6 x7 x8 x9 x10 x11 x12 x13 x14 x15 f0 f1 f2 f3 V4) → va_S A s.heap H locs → lv_has ls 3 [(0, .ref h0), (1, .int o)] → W p l e R s m args below meth c H locs 0 0 Q (F0 m 105 ls [])) →
    W p l e R s m args below meth c H locs 0 0 Q (F0 m 80 ls []) := by
  obtain ⟨⟨hx, hb, hml, hown, hts⟩, hRf, hRl, hA, hN, hK⟩ := C0
  intro n
  induction n with
  | zero =>
    intro v1 v2 x5 x6 x7 x8 x9 x10 x11 x12 x13 x14 x15 f0 f1 f2 f3 V4 o H locs ls hf
    cases hf
  | succ n ih =>
    intro v1 v2 x5 x6 x7 x8 x9 x10 x11 x12 x13 x14 x15 f0 f1 f2 f3 V4 o H locs ls hf hP hD hS hl hexit
    rw [q_X1_goOn_L80] at hf
    refine lv_iload_n hx hb dX1_goOn_80 rfl (lv_at hl 2 rfl) ?_
    refine lv_aload_n hx hb dX1_goOn_81 rfl (lv_at hl 0 rfl) ?_
    refine va_get (D := (dC, dI)) (ci := 1) (v := .int x11) (C := RX1) (T := TX1) (N := 16) hx hb hts (fun w hw => List.mem_cons_of_mem _ (List.mem_append_right _ hw)) hown hK hP 0 rfl rfl 11 (by decide) (hts (.fieldLink RX1 49 "OldStadium$Heats" "heats" "I") (List.mem_of_getElem? (i := 2) rfl)) (fun _ h9 => h9) rfl dX1_goOn_82 ?_
    refine lv_icmp_ge (tgt := 105) hx hb dX1_goOn_85 (by decide) (fun c1 => ?_) (fun c1 => ?_)
    · replace hf := z_ip hf c1
      obtain rfl := Option.some.inj hf
      exact hexit _ _ _ hP hD hS (lv_sub hl [0, 1] rfl)
    · replace hf := z_im hf c1
      refine lv_iload_n hx hb dX1_goOn_88 rfl (lv_at hl 1 rfl) ?_
      refine lv_iconst (v := 1) hx hb dX1_goOn_89 (by decide) ?_
      refine lv_aload_n hx hb dX1_goOn_90 rfl (lv_at hl 0 rfl) ?_
      refine va_get (D := (dC, dI)) (ci := 1) (v := .ref (a 3)) (C := RX1) (T := TX1) (N := 16) hx hb hts (fun w hw => List.mem_cons_of_mem _ (List.mem_append_right _ hw)) hown hK hP 0 rfl rfl 3 (by decide) (hts (.fieldLink RX1 21 "OldStadium$Heats" "winners" "[I") (List.mem_of_getElem? (i := 4) rfl)) (fun _ h9 => h9) rfl dX1_goOn_91 ?_
      refine lv_iload_n hx hb dX1_goOn_94 rfl (lv_at hl 2 rfl) ?_
      have b2 := z_c1 hf
      replace hf := z_c2 hf
      refine va_iald hx hb hK hP 4 0 rfl rfl b2 dX1_goOn_95 ?_
      refine lv_ishl hx hb dX1_goOn_96 ?_
      refine lv_ior hx hb dX1_goOn_97 ?_
      obtain ⟨n3, hn3, hf1⟩ := z_ib hf
      replace hf := hf1
      clear hf1
      refine lv_topi (fun y9 ey9 => ?_)
      obtain rfl : n3 = y9 := (Option.some.inj hn3).symm.trans ey9.symm
      refine lv_istore_n (lv' := [(1, .int n3), (0, .ref h0), (2, .int v2)]) hx hb dX1_goOn_98 rfl hl (by decide) rfl (fun ls hl => ?_)
      refine lv_iinc (v := (v2 + 1)) (lv' := [(2, .int (v2 + 1)), (1, .int n3), (0, .ref h0)]) hx hb dX1_goOn_99 hl (k := 2) rfl rfl (by decide) rfl (fun ls hl => ?_)
      refine lv_goto (tgt := 80) hx hb dX1_goOn_102 (by decide) ?_
      exact ih hf hP hD hS (lv_sub hl [2, 1, 0] rfl) hexit
def q_X1_goOn (N : Nat) (x5 : Int32) (x7 : Int32) (x8 : Int32) (x9 : Int32) (x10 : Int32) (x11 : Int32) (x12 : Int32) (x13 : Int32) (x14 : Int32) (x15 : Int32) (f2 : (Nat → Int32)) (f3 : (Nat → Int32)) (V4 : (Nat → Nat → Int32)) : Option (Int32 × Int32 × Int32 × Int32 × Int32 × Int32 × Int32 × Int32 × Int32 × (Nat → Int32) × (Nat → Int32) × (Nat → Nat → Int32)) :=
  (if x7 = 0 then
   (some ((-1), x7, x8, x10, x11, x12, x13, x14, x15, f2, f3, V4))
  else
   (Option.bind (q_X1_openHeats N x11 f3) (fun o2 =>
   (if o2 ≤ 0 then
    (if x11 = 0 then
     (Option.bind (q_X1_end N x12 x7 x14) (fun o19 =>
     (some (o19.1, o19.2.1, x8, x10, x11, x12, x13, o19.2.2, x15, f2, f3, V4))))
    else
     (if x11 = 1 then
      (if x12 = (-1) then
       (Option.bind (q_X1_end N (f3 (Int32.toNatClampNeg 0)) x7 x14) (fun o18 =>
       (some (o18.1, o18.2.1, x8, x10, x11, x12, x13, o18.2.2, x15, f2, f3, V4))))
      else
       (Option.bind (q_X1_goOn_L80 N x11 f3 N ((1 : Int32) <<< (x12 &&& 31)) 0) (fun t14 =>
       (Option.bind (q_X1_enter N t14 x5 x10 f2) (fun o15 =>
       (Option.bind (q_X1_beginRound N x8 x9 o15.1 x11 x12 x13 x15 o15.2 f3 V4) (fun o16 =>
       (some (o16.1, x7, o16.2.1, o15.1, o16.2.2.1, o16.2.2.2.1, o16.2.2.2.2.1, x14, o16.2.2.2.2.2.1, o16.2.2.2.2.2.2.1, o16.2.2.2.2.2.2.2.1, o16.2.2.2.2.2.2.2.2)))))))))
     else
      (if x12 = (-1) then
       (Option.bind (q_X1_goOn_L80 N x11 f3 N 0 0) (fun t10 =>
       (Option.bind (q_X1_enter N t10 x5 x10 f2) (fun o11 =>
       (Option.bind (q_X1_beginRound N x8 x9 o11.1 x11 x12 x13 x15 o11.2 f3 V4) (fun o12 =>
       (some (o12.1, x7, o12.2.1, o11.1, o12.2.2.1, o12.2.2.2.1, o12.2.2.2.2.1, x14, o12.2.2.2.2.2.1, o12.2.2.2.2.2.2.1, o12.2.2.2.2.2.2.2.1, o12.2.2.2.2.2.2.2.2))))))))
      else
       (Option.bind (q_X1_goOn_L80 N x11 f3 N ((1 : Int32) <<< (x12 &&& 31)) 0) (fun t7 =>
       (Option.bind (q_X1_enter N t7 x5 x10 f2) (fun o8 =>
       (Option.bind (q_X1_beginRound N x8 x9 o8.1 x11 x12 x13 x15 o8.2 f3 V4) (fun o9 =>
       (some (o9.1, x7, o9.2.1, o8.1, o9.2.2.1, o9.2.2.2.1, o9.2.2.2.2.1, x14, o9.2.2.2.2.2.1, o9.2.2.2.2.2.2.1, o9.2.2.2.2.2.2.2.1, o9.2.2.2.2.2.2.2.2)))))))))))
   else
    (some ((-1), x7, x8, x10, x11, x12, x13, x14, x15, f2, f3, V4))))))
set_option maxHeartbeats 4000000 in
set_option maxRecDepth 100000 in
theorem b_X1_goOn {p : Program} {l : Launch} {e : Env} {R : Room} {s : State} {m : MethodId} {args : Array Value} {below : List Frame} {meth : Method} {c : Code} {Q : State → Prop} {A : Nat → Prop} {dC : Nat → ClassId} {dI : Nat → Nat → Nat} {cI cZ cJ cA : ClassId} {h0 : Nat} {a : Nat → Nat} {r4 : Nat → Nat} (N : Nat) (C0 : z_Cx p s m args c cX1_goOn 3 wsX1_goOn RX1 R 4 86 A dC dI (z_ty cI cZ cJ cA)) {x5 : Int32} {x6 : Int32} {x7 : Int32} {x8 : Int32} {x9 : Int32} {x10 : Int32} {x11 : Int32} {x12 : Int32} {x13 : Int32} {x14 : Int32} {x15 : Int32} {f0 : (Nat → Int32)} {f1 : (Nat → Int32)} {f2 : (Nat → Int32)} {f3 : (Nat → Int32)} {V4 : (Nat → Nat → Int32)} {o : (Int32 × Int32 × Int32 × Int32 × Int32 × Int32 × Int32 × Int32 × Int32 × (Nat → Int32) × (Nat → Int32) × (Nat → Nat → Int32))} {H : Heap} {locs : List Loc} {ls : Array Slot} (hf : q_X1_goOn N x5 x7 x8 x9 x10 x11 x12 x13 x14 x15 f2 f3 V4 = some o) (hP : va_P (dC, dI) vwCl (wX1 cI cZ cJ cA h0 a r4 x5 x6 x7 x8 x9 x10 x11 x12 x13 x14 x15 f0 f1 f2 f3 V4) H) (hD : va_D A (wX1 cI cZ cJ cA h0 a r4 x5 x6 x7 x8 x9 x10 x11 x12 x13 x14 x15 f0 f1 f2 f3 V4)) (hS : va_S A s.heap H locs) (hl : lv_has ls 3 [(0, .ref h0)])
    (hret : ∀ (pc : Nat) (H : Heap) (locs : List Loc) (ls : Array Slot) (r : Int32), decode cX1_goOn pc = .ok (.ireturn, 1) → r = o.1 → va_P (dC, dI) vwCl (wX1 cI cZ cJ cA h0 a r4 x5 x6 o.2.1 o.2.2.1 x9 o.2.2.2.1 o.2.2.2.2.1 o.2.2.2.2.2.1 o.2.2.2.2.2.2.1 o.2.2.2.2.2.2.2.1 o.2.2.2.2.2.2.2.2.1 f0 f1 o.2.2.2.2.2.2.2.2.2.1 o.2.2.2.2.2.2.2.2.2.2.1 o.2.2.2.2.2.2.2.2.2.2.2) H → va_D A (wX1 cI cZ cJ cA h0 a r4 x5 x6 o.2.1 o.2.2.1 x9 o.2.2.2.1 o.2.2.2.2.1 o.2.2.2.2.2.1 o.2.2.2.2.2.2.1 o.2.2.2.2.2.2.2.1 o.2.2.2.2.2.2.2.2.1 f0 f1 o.2.2.2.2.2.2.2.2.2.1 o.2.2.2.2.2.2.2.2.2.2.1 o.2.2.2.2.2.2.2.2.2.2.2) → va_S A s.heap H locs → W p l e R s m args below meth c H locs 0 0 Q (F0 m pc ls [.int r])) :
    W p l e R s m args below meth c H locs 0 0 Q (F0 m 0 ls []) := by
  obtain ⟨⟨hx, hb, hml, hown, hts⟩, hRf, hRl, hA, hN, hK⟩ := C0
  unfold q_X1_goOn at hf
  refine lv_aload_n hx hb dX1_goOn_0 rfl (lv_at hl 0 rfl) ?_
  refine va_get (D := (dC, dI)) (ci := 1) (v := .int x7) (C := RX1) (T := TX1) (N := 16) hx hb hts (fun w hw => List.mem_cons_of_mem _ (List.mem_append_right _ hw)) hown hK hP 0 rfl rfl 7 (by decide) (hts (.fieldLink RX1 36 "OldStadium$Heats" "going" "Z") (List.mem_of_getElem? (i := 1) rfl)) (fun _ h9 => h9) rfl dX1_goOn_1 ?_
  refine lv_if_eq (tgt := 14) hx hb dX1_goOn_4 (by decide) (fun c1 => ?_) (fun c1 => ?_)
  · replace hf := z_ip hf c1
    refine lv_iconst (v := (-1)) hx hb dX1_goOn_14 (by decide) ?_
    obtain rfl := Option.some.inj hf
    exact hret _ _ _ _ _ dX1_goOn_15 rfl hP hD hS
  · replace hf := z_im hf c1
    refine lv_aload_n hx hb dX1_goOn_7 rfl (lv_at hl 0 rfl) ?_
    obtain ⟨o2, ho2, hf1⟩ := z_ib hf
    replace hf := hf1
    clear hf1
    refine z_Vi (As := []) (rest := []) (w := (wX1 cI cZ cJ cA h0 a r4 x5 x6 x7 x8 x9 x10 x11 x12 x13 x14 x15 f0 f1 f2 f3 V4)) (w1 := (wX1 cI cZ cJ cA h0 a r4 x5 x6 x7 x8 x9 x10 x11 x12 x13 x14 x15 f0 f1 f2 f3 V4)) ⟨hx, hb, hml, hown, hts⟩ (k_X1_openHeats l dC dI cI cZ cJ cA h0 a r4 H.size N x5 x6 x7 x8 x9 x10 x11 x12 x13 x14 x15 f0 f1 f2 f3 V4 o2 ho2) (cwV 0 hts gX1_goOn_X1_openHeats rfl rfl rfl (by decide +kernel) ⟨Nat.le_trans (Nat.le_of_ble_eq_true rfl) hRf, Nat.le_trans (Nat.le_of_ble_eq_true rfl) hRl⟩) hK hP hD hS hA hN (ci := 1) rfl rfl rfl rfl hl.1 rfl (Nat.le_of_ble_eq_true rfl) dX1_goOn_8 (fun H locs hP hD hS => ?_)
    refine lv_if_le (tgt := 16) hx hb dX1_goOn_11 (by decide) (fun c3 => ?_) (fun c3 => ?_)
    · replace hf := z_ip hf c3
      refine lv_aload_n hx hb dX1_goOn_16 rfl (lv_at hl 0 rfl) ?_
      refine va_get (D := (dC, dI)) (ci := 1) (v := .int x11) (C := RX1) (T := TX1) (N := 16) hx hb hts (fun w hw => List.mem_cons_of_mem _ (List.mem_append_right _ hw)) hown hK hP 0 rfl rfl 11 (by decide) (hts (.fieldLink RX1 49 "OldStadium$Heats" "heats" "I") (List.mem_of_getElem? (i := 2) rfl)) (fun _ h9 => h9) rfl dX1_goOn_17 ?_
      refine lv_if_ne (tgt := 32) hx hb dX1_goOn_20 (by decide) (fun c4 => ?_) (fun c4 => ?_)
      · replace hf := z_im hf c4
        refine lv_aload_n hx hb dX1_goOn_32 rfl (lv_at hl 0 rfl) ?_
        refine va_get (D := (dC, dI)) (ci := 1) (v := .int x11) (C := RX1) (T := TX1) (N := 16) hx hb hts (fun w hw => List.mem_cons_of_mem _ (List.mem_append_right _ hw)) hown hK hP 0 rfl rfl 11 (by decide) (hts (.fieldLink RX1 49 "OldStadium$Heats" "heats" "I") (List.mem_of_getElem? (i := 2) rfl)) (fun _ h9 => h9) rfl dX1_goOn_33 ?_
        refine lv_iconst (v := 1) hx hb dX1_goOn_36 (by decide) ?_
        refine lv_icmp_ne (tgt := 59) hx hb dX1_goOn_37 (by decide) (fun c5 => ?_) (fun c5 => ?_)
        · replace hf := z_im hf c5
          refine lv_aload_n hx hb dX1_goOn_59 rfl (lv_at hl 0 rfl) ?_
          refine va_get (D := (dC, dI)) (ci := 1) (v := .int x12) (C := RX1) (T := TX1) (N := 16) hx hb hts (fun w hw => List.mem_cons_of_mem _ (List.mem_append_right _ hw)) hown hK hP 0 rfl rfl 12 (by decide) (hts (.fieldLink RX1 52 "OldStadium$Heats" "bye" "I") (List.mem_of_getElem? (i := 3) rfl)) (fun _ h9 => h9) rfl dX1_goOn_60 ?_
          refine lv_iconst (v := (-1)) hx hb dX1_goOn_63 (by decide) ?_
          refine lv_icmp_ne (tgt := 71) hx hb dX1_goOn_64 (by decide) (fun c6 => ?_) (fun c6 => ?_)
          · replace hf := z_im hf c6
            refine lv_iconst (v := 1) hx hb dX1_goOn_71 (by decide) ?_
            refine lv_aload_n hx hb dX1_goOn_72 rfl (lv_at hl 0 rfl) ?_
            refine va_get (D := (dC, dI)) (ci := 1) (v := .int x12) (C := RX1) (T := TX1) (N := 16) hx hb hts (fun w hw => List.mem_cons_of_mem _ (List.mem_append_right _ hw)) hown hK hP 0 rfl rfl 12 (by decide) (hts (.fieldLink RX1 52 "OldStadium$Heats" "bye" "I") (List.mem_of_getElem? (i := 3) rfl)) (fun _ h9 => h9) rfl dX1_goOn_73 ?_
            refine lv_ishl hx hb dX1_goOn_76 ?_
            refine lv_istore_n (lv' := [(1, .int ((1 : Int32) <<< (x12 &&& 31))), (0, .ref h0)]) hx hb dX1_goOn_77 rfl hl (by decide) rfl (fun ls hl => ?_)
            refine lv_iconst (v := 0) hx hb dX1_goOn_78 (by decide) ?_
            refine lv_istore_n (lv' := [(2, .int 0), (1, .int ((1 : Int32) <<< (x12 &&& 31))), (0, .ref h0)]) hx hb dX1_goOn_79 rfl hl (by decide) rfl (fun ls hl => ?_)
            obtain ⟨t7, ht7, hf1⟩ := z_ib hf
            replace hf := hf1
            clear hf1
            refine b_X1_goOn_L80 N ⟨⟨hx, hb, hml, hown, hts⟩, hRf, hRl, hA, hN, hK⟩ N ht7 hP hD hS (lv_sub hl [2, 1, 0] rfl) (fun H locs ls hP hD hS hl => ?_)
            refine lv_aload_n hx hb dX1_goOn_105 rfl (lv_at hl 0 rfl) ?_
            refine lv_iload_n hx hb dX1_goOn_106 rfl (lv_at hl 1 rfl) ?_
            obtain ⟨o8, ho8, hf1⟩ := z_ib hf
            replace hf := hf1
            clear hf1
            refine z_Vv (As := [.int t7]) (rest := []) (w := (wX1 cI cZ cJ cA h0 a r4 x5 x6 x7 x8 x9 x10 x11 x12 x13 x14 x15 f0 f1 f2 f3 V4)) (w1 := (wX1 cI cZ cJ cA h0 a r4 x5 x6 x7 x8 x9 o8.1 x11 x12 x13 x14 x15 f0 f1 o8.2 f3 V4)) ⟨hx, hb, hml, hown, hts⟩ (k_X1_enter l dC dI cI cZ cJ cA h0 a r4 H.size N t7 x5 x6 x7 x8 x9 x10 x11 x12 x13 x14 x15 f0 f1 f2 f3 V4 o8 ho8) (cwV 1 hts gX1_goOn_X1_enter rfl rfl rfl (by decide +kernel) ⟨Nat.le_trans (Nat.le_of_ble_eq_true rfl) hRf, Nat.le_trans (Nat.le_of_ble_eq_true rfl) hRl⟩) hK hP hD hS hA hN (ci := 1) rfl rfl rfl rfl hl.1 rfl (Nat.le_of_ble_eq_true rfl) dX1_goOn_107 (fun H locs hP hD hS => ?_)
            refine lv_aload_n hx hb dX1_goOn_110 rfl (lv_at hl 0 rfl) ?_
            obtain ⟨o9, ho9, hf1⟩ := z_ib hf
            replace hf := hf1
            clear hf1
            refine z_Vi (As := []) (rest := []) (w := (wX1 cI cZ cJ cA h0 a r4 x5 x6 x7 x8 x9 o8.1 x11 x12 x13 x14 x15 f0 f1 o8.2 f3 V4)) (w1 := (wX1 cI cZ cJ cA h0 a r4 x5 x6 x7 o9.2.1 x9 o8.1 o9.2.2.1 o9.2.2.2.1 o9.2.2.2.2.1 x14 o9.2.2.2.2.2.1 f0 f1 o9.2.2.2.2.2.2.1 o9.2.2.2.2.2.2.2.1 o9.2.2.2.2.2.2.2.2)) ⟨hx, hb, hml, hown, hts⟩ (k_X1_beginRound l dC dI cI cZ cJ cA h0 a r4 H.size N x5 x6 x7 x8 x9 o8.1 x11 x12 x13 x14 x15 f0 f1 o8.2 f3 V4 o9 ho9) (cwV 0 hts gX1_goOn_X1_beginRound rfl rfl rfl (by decide +kernel) ⟨Nat.le_trans (Nat.le_of_ble_eq_true rfl) hRf, Nat.le_trans (Nat.le_of_ble_eq_true rfl) hRl⟩) hK hP hD hS hA hN (ci := 1) rfl rfl rfl rfl hl.1 rfl (Nat.le_of_ble_eq_true rfl) dX1_goOn_111 (fun H locs hP hD hS => ?_)
            obtain rfl := Option.some.inj hf
            exact hret _ _ _ _ _ dX1_goOn_114 rfl hP hD hS
          · replace hf := z_ip hf c6
            refine lv_iconst (v := 0) hx hb dX1_goOn_67 (by decide) ?_
            refine lv_goto (tgt := 77) hx hb dX1_goOn_68 (by decide) ?_
            refine lv_istore_n (lv' := [(1, .int 0), (0, .ref h0)]) hx hb dX1_goOn_77 rfl hl (by decide) rfl (fun ls hl => ?_)
            refine lv_iconst (v := 0) hx hb dX1_goOn_78 (by decide) ?_
            refine lv_istore_n (lv' := [(2, .int 0), (1, .int 0), (0, .ref h0)]) hx hb dX1_goOn_79 rfl hl (by decide) rfl (fun ls hl => ?_)
            obtain ⟨t10, ht10, hf1⟩ := z_ib hf
            replace hf := hf1
            clear hf1
            refine b_X1_goOn_L80 N ⟨⟨hx, hb, hml, hown, hts⟩, hRf, hRl, hA, hN, hK⟩ N ht10 hP hD hS (lv_sub hl [2, 1, 0] rfl) (fun H locs ls hP hD hS hl => ?_)
            refine lv_aload_n hx hb dX1_goOn_105 rfl (lv_at hl 0 rfl) ?_
            refine lv_iload_n hx hb dX1_goOn_106 rfl (lv_at hl 1 rfl) ?_
            obtain ⟨o11, ho11, hf1⟩ := z_ib hf
            replace hf := hf1
            clear hf1
            refine z_Vv (As := [.int t10]) (rest := []) (w := (wX1 cI cZ cJ cA h0 a r4 x5 x6 x7 x8 x9 x10 x11 x12 x13 x14 x15 f0 f1 f2 f3 V4)) (w1 := (wX1 cI cZ cJ cA h0 a r4 x5 x6 x7 x8 x9 o11.1 x11 x12 x13 x14 x15 f0 f1 o11.2 f3 V4)) ⟨hx, hb, hml, hown, hts⟩ (k_X1_enter l dC dI cI cZ cJ cA h0 a r4 H.size N t10 x5 x6 x7 x8 x9 x10 x11 x12 x13 x14 x15 f0 f1 f2 f3 V4 o11 ho11) (cwV 1 hts gX1_goOn_X1_enter rfl rfl rfl (by decide +kernel) ⟨Nat.le_trans (Nat.le_of_ble_eq_true rfl) hRf, Nat.le_trans (Nat.le_of_ble_eq_true rfl) hRl⟩) hK hP hD hS hA hN (ci := 1) rfl rfl rfl rfl hl.1 rfl (Nat.le_of_ble_eq_true rfl) dX1_goOn_107 (fun H locs hP hD hS => ?_)
            refine lv_aload_n hx hb dX1_goOn_110 rfl (lv_at hl 0 rfl) ?_
            obtain ⟨o12, ho12, hf1⟩ := z_ib hf
            replace hf := hf1
            clear hf1
            refine z_Vi (As := []) (rest := []) (w := (wX1 cI cZ cJ cA h0 a r4 x5 x6 x7 x8 x9 o11.1 x11 x12 x13 x14 x15 f0 f1 o11.2 f3 V4)) (w1 := (wX1 cI cZ cJ cA h0 a r4 x5 x6 x7 o12.2.1 x9 o11.1 o12.2.2.1 o12.2.2.2.1 o12.2.2.2.2.1 x14 o12.2.2.2.2.2.1 f0 f1 o12.2.2.2.2.2.2.1 o12.2.2.2.2.2.2.2.1 o12.2.2.2.2.2.2.2.2)) ⟨hx, hb, hml, hown, hts⟩ (k_X1_beginRound l dC dI cI cZ cJ cA h0 a r4 H.size N x5 x6 x7 x8 x9 o11.1 x11 x12 x13 x14 x15 f0 f1 o11.2 f3 V4 o12 ho12) (cwV 0 hts gX1_goOn_X1_beginRound rfl rfl rfl (by decide +kernel) ⟨Nat.le_trans (Nat.le_of_ble_eq_true rfl) hRf, Nat.le_trans (Nat.le_of_ble_eq_true rfl) hRl⟩) hK hP hD hS hA hN (ci := 1) rfl rfl rfl rfl hl.1 rfl (Nat.le_of_ble_eq_true rfl) dX1_goOn_111 (fun H locs hP hD hS => ?_)
            obtain rfl := Option.some.inj hf
            exact hret _ _ _ _ _ dX1_goOn_114 rfl hP hD hS
        · replace hf := z_ip hf c5
          refine lv_aload_n hx hb dX1_goOn_40 rfl (lv_at hl 0 rfl) ?_
          refine va_get (D := (dC, dI)) (ci := 1) (v := .int x12) (C := RX1) (T := TX1) (N := 16) hx hb hts (fun w hw => List.mem_cons_of_mem _ (List.mem_append_right _ hw)) hown hK hP 0 rfl rfl 12 (by decide) (hts (.fieldLink RX1 52 "OldStadium$Heats" "bye" "I") (List.mem_of_getElem? (i := 3) rfl)) (fun _ h9 => h9) rfl dX1_goOn_41 ?_
          refine lv_iconst (v := (-1)) hx hb dX1_goOn_44 (by decide) ?_
          refine lv_icmp_ne (tgt := 59) hx hb dX1_goOn_45 (by decide) (fun c13 => ?_) (fun c13 => ?_)
          · replace hf := z_im hf c13
            refine lv_aload_n hx hb dX1_goOn_59 rfl (lv_at hl 0 rfl) ?_
            refine va_get (D := (dC, dI)) (ci := 1) (v := .int x12) (C := RX1) (T := TX1) (N := 16) hx hb hts (fun w hw => List.mem_cons_of_mem _ (List.mem_append_right _ hw)) hown hK hP 0 rfl rfl 12 (by decide) (hts (.fieldLink RX1 52 "OldStadium$Heats" "bye" "I") (List.mem_of_getElem? (i := 3) rfl)) (fun _ h9 => h9) rfl dX1_goOn_60 ?_
            refine lv_iconst (v := (-1)) hx hb dX1_goOn_63 (by decide) ?_
            refine lv_icmp_ne (tgt := 71) hx hb dX1_goOn_64 (by decide) (fun _ => ?_) (fun c0 => absurd c0 c13)
            refine lv_iconst (v := 1) hx hb dX1_goOn_71 (by decide) ?_
            refine lv_aload_n hx hb dX1_goOn_72 rfl (lv_at hl 0 rfl) ?_
            refine va_get (D := (dC, dI)) (ci := 1) (v := .int x12) (C := RX1) (T := TX1) (N := 16) hx hb hts (fun w hw => List.mem_cons_of_mem _ (List.mem_append_right _ hw)) hown hK hP 0 rfl rfl 12 (by decide) (hts (.fieldLink RX1 52 "OldStadium$Heats" "bye" "I") (List.mem_of_getElem? (i := 3) rfl)) (fun _ h9 => h9) rfl dX1_goOn_73 ?_
            refine lv_ishl hx hb dX1_goOn_76 ?_
            refine lv_istore_n (lv' := [(1, .int ((1 : Int32) <<< (x12 &&& 31))), (0, .ref h0)]) hx hb dX1_goOn_77 rfl hl (by decide) rfl (fun ls hl => ?_)
            refine lv_iconst (v := 0) hx hb dX1_goOn_78 (by decide) ?_
            refine lv_istore_n (lv' := [(2, .int 0), (1, .int ((1 : Int32) <<< (x12 &&& 31))), (0, .ref h0)]) hx hb dX1_goOn_79 rfl hl (by decide) rfl (fun ls hl => ?_)
            obtain ⟨t14, ht14, hf1⟩ := z_ib hf
            replace hf := hf1
            clear hf1
            refine b_X1_goOn_L80 N ⟨⟨hx, hb, hml, hown, hts⟩, hRf, hRl, hA, hN, hK⟩ N ht14 hP hD hS (lv_sub hl [2, 1, 0] rfl) (fun H locs ls hP hD hS hl => ?_)
            refine lv_aload_n hx hb dX1_goOn_105 rfl (lv_at hl 0 rfl) ?_
            refine lv_iload_n hx hb dX1_goOn_106 rfl (lv_at hl 1 rfl) ?_
            obtain ⟨o15, ho15, hf1⟩ := z_ib hf
            replace hf := hf1
            clear hf1
            refine z_Vv (As := [.int t14]) (rest := []) (w := (wX1 cI cZ cJ cA h0 a r4 x5 x6 x7 x8 x9 x10 x11 x12 x13 x14 x15 f0 f1 f2 f3 V4)) (w1 := (wX1 cI cZ cJ cA h0 a r4 x5 x6 x7 x8 x9 o15.1 x11 x12 x13 x14 x15 f0 f1 o15.2 f3 V4)) ⟨hx, hb, hml, hown, hts⟩ (k_X1_enter l dC dI cI cZ cJ cA h0 a r4 H.size N t14 x5 x6 x7 x8 x9 x10 x11 x12 x13 x14 x15 f0 f1 f2 f3 V4 o15 ho15) (cwV 1 hts gX1_goOn_X1_enter rfl rfl rfl (by decide +kernel) ⟨Nat.le_trans (Nat.le_of_ble_eq_true rfl) hRf, Nat.le_trans (Nat.le_of_ble_eq_true rfl) hRl⟩) hK hP hD hS hA hN (ci := 1) rfl rfl rfl rfl hl.1 rfl (Nat.le_of_ble_eq_true rfl) dX1_goOn_107 (fun H locs hP hD hS => ?_)
            refine lv_aload_n hx hb dX1_goOn_110 rfl (lv_at hl 0 rfl) ?_
            obtain ⟨o16, ho16, hf1⟩ := z_ib hf
            replace hf := hf1
            clear hf1
            refine z_Vi (As := []) (rest := []) (w := (wX1 cI cZ cJ cA h0 a r4 x5 x6 x7 x8 x9 o15.1 x11 x12 x13 x14 x15 f0 f1 o15.2 f3 V4)) (w1 := (wX1 cI cZ cJ cA h0 a r4 x5 x6 x7 o16.2.1 x9 o15.1 o16.2.2.1 o16.2.2.2.1 o16.2.2.2.2.1 x14 o16.2.2.2.2.2.1 f0 f1 o16.2.2.2.2.2.2.1 o16.2.2.2.2.2.2.2.1 o16.2.2.2.2.2.2.2.2)) ⟨hx, hb, hml, hown, hts⟩ (k_X1_beginRound l dC dI cI cZ cJ cA h0 a r4 H.size N x5 x6 x7 x8 x9 o15.1 x11 x12 x13 x14 x15 f0 f1 o15.2 f3 V4 o16 ho16) (cwV 0 hts gX1_goOn_X1_beginRound rfl rfl rfl (by decide +kernel) ⟨Nat.le_trans (Nat.le_of_ble_eq_true rfl) hRf, Nat.le_trans (Nat.le_of_ble_eq_true rfl) hRl⟩) hK hP hD hS hA hN (ci := 1) rfl rfl rfl rfl hl.1 rfl (Nat.le_of_ble_eq_true rfl) dX1_goOn_111 (fun H locs hP hD hS => ?_)
            obtain rfl := Option.some.inj hf
            exact hret _ _ _ _ _ dX1_goOn_114 rfl hP hD hS
          · replace hf := z_ip hf c13
            refine lv_aload_n hx hb dX1_goOn_48 rfl (lv_at hl 0 rfl) ?_
            refine lv_aload_n hx hb dX1_goOn_49 rfl (lv_at hl 0 rfl) ?_
            refine va_get (D := (dC, dI)) (ci := 1) (v := .ref (a 3)) (C := RX1) (T := TX1) (N := 16) hx hb hts (fun w hw => List.mem_cons_of_mem _ (List.mem_append_right _ hw)) hown hK hP 0 rfl rfl 3 (by decide) (hts (.fieldLink RX1 21 "OldStadium$Heats" "winners" "[I") (List.mem_of_getElem? (i := 4) rfl)) (fun _ h9 => h9) rfl dX1_goOn_50 ?_
            refine lv_iconst (v := 0) hx hb dX1_goOn_53 (by decide) ?_
            have b17 : z_in 0 12 := by decide
            refine va_iald hx hb hK hP 4 0 rfl rfl b17 dX1_goOn_54 ?_
            obtain ⟨o18, ho18, hf1⟩ := z_ib hf
            replace hf := hf1
            clear hf1
            refine z_Vi (As := [.int (f3 (Int32.toNatClampNeg 0))]) (rest := []) (w := (wX1 cI cZ cJ cA h0 a r4 x5 x6 x7 x8 x9 x10 x11 x12 x13 x14 x15 f0 f1 f2 f3 V4)) (w1 := (wX1 cI cZ cJ cA h0 a r4 x5 x6 o18.2.1 x8 x9 x10 x11 x12 x13 o18.2.2 x15 f0 f1 f2 f3 V4)) ⟨hx, hb, hml, hown, hts⟩ (k_X1_end l dC dI cI cZ cJ cA h0 a r4 H.size N (f3 (Int32.toNatClampNeg 0)) x5 x6 x7 x8 x9 x10 x11 x12 x13 x14 x15 f0 f1 f2 f3 V4 o18 ho18) (cwV 1 hts gX1_goOn_X1_end rfl rfl rfl (by decide +kernel) ⟨Nat.le_trans (Nat.le_of_ble_eq_true rfl) hRf, Nat.le_trans (Nat.le_of_ble_eq_true rfl) hRl⟩) hK hP hD hS hA hN (ci := 1) rfl rfl rfl rfl hl.1 rfl (Nat.le_of_ble_eq_true rfl) dX1_goOn_55 (fun H locs hP hD hS => ?_)
            obtain rfl := Option.some.inj hf
            exact hret _ _ _ _ _ dX1_goOn_58 rfl hP hD hS
      · replace hf := z_ip hf c4
        refine lv_aload_n hx hb dX1_goOn_23 rfl (lv_at hl 0 rfl) ?_
        refine lv_aload_n hx hb dX1_goOn_24 rfl (lv_at hl 0 rfl) ?_
        refine va_get (D := (dC, dI)) (ci := 1) (v := .int x12) (C := RX1) (T := TX1) (N := 16) hx hb hts (fun w hw => List.mem_cons_of_mem _ (List.mem_append_right _ hw)) hown hK hP 0 rfl rfl 12 (by decide) (hts (.fieldLink RX1 52 "OldStadium$Heats" "bye" "I") (List.mem_of_getElem? (i := 3) rfl)) (fun _ h9 => h9) rfl dX1_goOn_25 ?_
        obtain ⟨o19, ho19, hf1⟩ := z_ib hf
        replace hf := hf1
        clear hf1
        refine z_Vi (As := [.int x12]) (rest := []) (w := (wX1 cI cZ cJ cA h0 a r4 x5 x6 x7 x8 x9 x10 x11 x12 x13 x14 x15 f0 f1 f2 f3 V4)) (w1 := (wX1 cI cZ cJ cA h0 a r4 x5 x6 o19.2.1 x8 x9 x10 x11 x12 x13 o19.2.2 x15 f0 f1 f2 f3 V4)) ⟨hx, hb, hml, hown, hts⟩ (k_X1_end l dC dI cI cZ cJ cA h0 a r4 H.size N x12 x5 x6 x7 x8 x9 x10 x11 x12 x13 x14 x15 f0 f1 f2 f3 V4 o19 ho19) (cwV 1 hts gX1_goOn_X1_end rfl rfl rfl (by decide +kernel) ⟨Nat.le_trans (Nat.le_of_ble_eq_true rfl) hRf, Nat.le_trans (Nat.le_of_ble_eq_true rfl) hRl⟩) hK hP hD hS hA hN (ci := 1) rfl rfl rfl rfl hl.1 rfl (Nat.le_of_ble_eq_true rfl) dX1_goOn_28 (fun H locs hP hD hS => ?_)
        obtain rfl := Option.some.inj hf
        exact hret _ _ _ _ _ dX1_goOn_31 rfl hP hD hS
    · replace hf := z_im hf c3
      refine lv_iconst (v := (-1)) hx hb dX1_goOn_14 (by decide) ?_
      obtain rfl := Option.some.inj hf
      exact hret _ _ _ _ _ dX1_goOn_15 rfl hP hD hS
set_option maxHeartbeats 4000000 in
set_option maxRecDepth 100000 in
theorem k_X1_goOn (l : Launch) (dC : Nat → ClassId) (dI : Nat → Nat → Nat) (cI cZ cJ cA : ClassId) (h0 : Nat) (a : Nat → Nat) (r4 : Nat → Nat) (sz : Nat) (N : Nat) (x5 : Int32) (x6 : Int32) (x7 : Int32) (x8 : Int32) (x9 : Int32) (x10 : Int32) (x11 : Int32) (x12 : Int32) (x13 : Int32) (x14 : Int32) (x15 : Int32) (f0 : (Nat → Int32)) (f1 : (Nat → Int32)) (f2 : (Nat → Int32)) (f3 : (Nat → Int32)) (V4 : (Nat → Nat → Int32)) (o : (Int32 × Int32 × Int32 × Int32 × Int32 × Int32 × Int32 × Int32 × Int32 × (Nat → Int32) × (Nat → Int32) × (Nat → Nat → Int32))) (hf : q_X1_goOn N x5 x7 x8 x9 x10 x11 x12 x13 x14 x15 f2 f3 V4 = some o) : Met l yX1_goOn wsX1_goOn ({ frames := 4, cells := 0, slots := 0, locals := 86 } : Room) (z_Pre dC dI (z_ty cI cZ cJ cA) [.ref h0] sz (wX1 cI cZ cJ cA h0 a r4 x5 x6 x7 x8 x9 x10 x11 x12 x13 x14 x15 f0 f1 f2 f3 V4)) (z_Pi dC dI o.1 (wX1 cI cZ cJ cA h0 a r4 x5 x6 o.2.1 o.2.2.1 x9 o.2.2.2.1 o.2.2.2.2.1 o.2.2.2.2.2.1 o.2.2.2.2.2.2.1 o.2.2.2.2.2.2.2.1 o.2.2.2.2.2.2.2.2.1 f0 f1 o.2.2.2.2.2.2.2.2.2.1 o.2.2.2.2.2.2.2.2.2.2.1 o.2.2.2.2.2.2.2.2.2.2.2) sz (wX1 cI cZ cJ cA h0 a r4 x5 x6 x7 x8 x9 x10 x11 x12 x13 x14 x15 f0 f1 f2 f3 V4)) 0 0 (va_A (wX1 cI cZ cJ cA h0 a r4 x5 x6 x7 x8 x9 x10 x11 x12 x13 x14 x15 f0 f1 f2 f3 V4) sz) := by
  refine Met.ofW (cc := cX1_goOn) (maxL := 3) (ret := (some .int)) (by decide) rfl ?_
  intro p e s m args below meth c s₁ B hml hv
  obtain ⟨rfl, hsz, hP, hK, hD0, hN⟩ := hv
  subst hsz
  have hl := lv_entry ([.ref h0]) (n := 3) (Nat.le_of_ble_eq_true rfl)
  rw [lg_entry_eq]
  refine b_X1_goOn N ⟨⟨B.exec, B.bytes, hml, findClass_of_methodNamed B.named, atoms_spec (ws := wsX1_goOn) B.pre⟩, Nat.le_refl _, Nat.le_refl _, fun q h => Or.inr h, hN, hK⟩ hf hP hD0.self va_S.rf hl (fun pc H locs ls r hd hr hP hD hS => ?_)
  subst hr
  exact W.iret B.exec B.bytes B.returns (fun t ht hW => ⟨⟨_, (), rfl, rfl, by rw [ht]; exact hP, hD⟩, hS.F ht⟩) hS.2.2 hd

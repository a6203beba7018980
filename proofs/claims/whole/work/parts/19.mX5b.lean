def q_X5_five_L23 (N : Nat) (v1 : Int32) : Nat → Int32 → (Nat → Int32) → (Nat → Int32) → Option ((Nat → Int32) × (Nat → Int32))
  | 0, _, _, _ => none
  | n + 1, v2, f17, f18 =>
    (if v1 ≤ v2 then
     (some (f17, f18))
    else
     (if z_in v2 4 then
     (q_X5_five_L23 N v1 n (v2 + 1) (upd f17 (Int32.toNatClampNeg v2) 0) (upd f18 (Int32.toNatClampNeg v2) 0))
     else none))
set_option maxHeartbeats 4000000 in
set_option maxRecDepth 100000 in
theorem b_X5_five_L23 {p : Program} {l : Launch} {e : Env} {R : Room} {s : State} {m : MethodId} {args : Array Value} {below : List Frame} {meth : Method} {c : Code} {Q : State → Prop} {A : Nat → Prop} {dC : Nat → ClassId} {dI : Nat → Nat → Nat} {cI cZ cJ cA : ClassId} {h0 : Nat} {a : Nat → Nat} (N : Nat) (C0 : z_Cx p s m args c cX5_five 3 wsX5_five RX5 R 1 22 A dC dI (z_ty cI cZ cJ cA)) : ∀ (n : Nat) {v1 : Int32} {v2 : Int32} {x1 : Int32} {x3 : Int32} {x4 : Int32} {x5 : Int32} {x6 : Int32} {x7 : Int32} {x9 : Int32} {x10 : Int32} {x14 : Int32} {x15 : Int32} {x16 : Int32} {x19 : Int32} {x20 : Int32} {x21 : Int32} {x22 : Int32} {x23 : Int32} {x24 : Int32} {x41 : Int32} {x42 : Int32} {f0 : (Nat → Int32)} {f2 : (Nat → Int32)} {f8 : (Nat → Int32)} {f11 : (Nat → Int32)} {f12 : (Nat → Int32)} {f13 : (Nat → Int32)} {f17 : (Nat → Int32)} {f18 : (Nat → Int32)} {f25 : (Nat → Int32)} {f26 : (Nat → Int32)} {f27 : (Nat → Int32)} {f28 : (Nat → Int32)} {f29 : (Nat → Int32)} {f30 : (Nat → Int32)} {f31 : (Nat → Int32)} {f32 : (Nat → Int32)} {f33 : (Nat → Int32)} {f34 : (Nat → Int32)} {f35 : (Nat → Int32)} {f36 : (Nat → Int32)} {f37 : (Nat → Int32)} {f38 : (Nat → Int32)} {f39 : (Nat → Int32)} {f40 : (Nat → Int32)} {f43 : (Nat → Int32)} {o : ((Nat → Int32) × (Nat → Int32))} {H : Heap} {locs : List Loc} {ls : Array Slot}, q_X5_five_L23 N v1 n v2 f17 f18 = some o → va_P (dC, dI) vwCl (wX5 cI cZ cJ cA h0 a x1 x3 x4 x5 x6 x7 x9 x10 x14 x15 x16 x19 x20 x21 x22 x23 x24 x41 x42 f0 f2 f8 f11 f12 f13 f17 f18 f25 f26 f27 f28 f29 f30 f31 f32 f33 f34 f35 f36 f37 f38 f39 f40 f43) H → va_D A (wX5 cI cZ cJ cA h0 a x1 x3 x4 x5 x6 x7 x9 x10 x14 x15 x16 x19 x20 x21 x22 x23 x24 x41 x42 f0 f2 f8 f11 f12 f13 f17 f18 f25 f26 f27 f28 f29 f30 f31 f32 f33 f34 f35 f36 f37 f38 f39 f40 f43) → va_S A s.heap H locs → lv_has ls 3 [(0, .ref h0), (1, .int v1), (2, .int v2)] →
    (∀ (H : Heap) (locs : List Loc) (ls : Array Slot), va_P (dC, dI) vwCl (wX5 cI cZ cJ cA h0 a x1 x3 x4 x5 x6 x7 x9 x10 x14 x15 x16 x19 x20 x21 x22 x23 x24 x41 x42 f0 f2 f8 f11 f12 f13 o.1 o.2 f25 f26 f27 f28 f29 f30 f31 f32 f33 f34 f35 f36 f37 f38 f39 f40 f43) H → va_D A (wX5 cI cZ cJ cA h0 a x1 x3 x4 x5 x6 x7 x9 x10 x14 x15 x16 x19 x20 x21 x22 x23 x24 x41 x42 f0 f2 f8 f11 f12 f13 o.1 o.2 f25 f26 f27 f28 f29 f30 f31 f32 f33 f34 f35 f36 f37 f38 f39 f40 f43) → va_S A s.heap H locs → lv_has ls 3 [] → W p l e R s m args below meth c H locs 0 0 Q (F0 m 48 ls [])) →
    W p l e R s m args below meth c H locs 0 0 Q (F0 m 23 ls []) := by
  obtain ⟨⟨hx, hb, hml, hown, hts⟩, hRf, hRl, hA, hN, hK⟩ := C0
  intro n
  induction n with
  | zero =>
    intro v1 v2 x1 x3 x4 x5 x6 x7 x9 x10 x14 x15 x16 x19 x20 x21 x22 x23 x24 x41 x42 f0 f2 f8 f11 f12 f13 f17 f18 f25 f26 f27 f28 f29 f30 f31 f32 f33 f34 f35 f36 f37 f38 f39 f40 f43 o H locs ls hf
    cases hf
  | succ n ih =>
    intro v1 v2 x1 x3 x4 x5 x6 x7 x9 x10 x14 x15 x16 x19 x20 x21 x22 x23 x24 x41 x42 f0 f2 f8 f11 f12 f13 f17 f18 f25 f26 f27 f28 f29 f30 f31 f32 f33 f34 f35 f36 f37 f38 f39 f40 f43 o H locs ls hf hP hD hS hl hexit
    rw [q_X5_five_L23] at hf
    refine lv_iload_n hx hb dX5_five_23 rfl (lv_at hl 2 rfl) ?_
    refine lv_iload_n hx hb dX5_five_24 rfl (lv_at hl 1 rfl) ?_
    refine lv_icmp_ge (tgt := 48) hx hb dX5_five_25 (by decide) (fun c1 => ?_) (fun c1 => ?_)
    · replace hf := z_ip hf c1
      obtain rfl := Option.some.inj hf
      exact hexit _ _ _ hP hD hS (lv_sub hl [] rfl)
    · replace hf := z_im hf c1
      refine lv_aload_n hx hb dX5_five_28 rfl (lv_at hl 0 rfl) ?_
      refine va_get (D := (dC, dI)) (ci := 5) (v := .ref (a 17)) (C := RX5) (T := TX5) (N := 44) hx hb hts (fun w hw => List.mem_cons_of_mem _ (List.mem_append_right _ hw)) hown hK hP 0 rfl rfl 17 (by decide) (hts (.fieldLink RX5 36 "OldStadiumModel" "wins" "[I") (List.mem_of_getElem? (i := 3) rfl)) (fun _ h9 => h9) rfl dX5_five_29 ?_
      refine lv_iload_n hx hb dX5_five_32 rfl (lv_at hl 2 rfl) ?_
      refine lv_iconst (v := 0) hx hb dX5_five_33 (by decide) ?_
      have b2 := z_c1 hf
      replace hf := z_c2 hf
      refine va_iast hx hb hK hP hD hS 7 0 rfl rfl b2 dX5_five_34 (fun H locs hP hD hS => ?_)
      replace hP : va_P (dC, dI) vwCl (wX5 cI cZ cJ cA h0 a x1 x3 x4 x5 x6 x7 x9 x10 x14 x15 x16 x19 x20 x21 x22 x23 x24 x41 x42 f0 f2 f8 f11 f12 f13 (upd f17 (Int32.toNatClampNeg v2) 0) f18 f25 f26 f27 f28 f29 f30 f31 f32 f33 f34 f35 f36 f37 f38 f39 f40 f43) H := hP
      replace hD : va_D A (wX5 cI cZ cJ cA h0 a x1 x3 x4 x5 x6 x7 x9 x10 x14 x15 x16 x19 x20 x21 x22 x23 x24 x41 x42 f0 f2 f8 f11 f12 f13 (upd f17 (Int32.toNatClampNeg v2) 0) f18 f25 f26 f27 f28 f29 f30 f31 f32 f33 f34 f35 f36 f37 f38 f39 f40 f43) := hD
      refine lv_aload_n hx hb dX5_five_35 rfl (lv_at hl 0 rfl) ?_
      refine va_get (D := (dC, dI)) (ci := 5) (v := .ref (a 18)) (C := RX5) (T := TX5) (N := 44) hx hb hts (fun w hw => List.mem_cons_of_mem _ (List.mem_append_right _ hw)) hown hK hP 0 rfl rfl 18 (by decide) (hts (.fieldLink RX5 39 "OldStadiumModel" "sums" "[I") (List.mem_of_getElem? (i := 4) rfl)) (fun _ h9 => h9) rfl dX5_five_36 ?_
      refine lv_iload_n hx hb dX5_five_39 rfl (lv_at hl 2 rfl) ?_
      refine lv_iconst (v := 0) hx hb dX5_five_40 (by decide) ?_
      refine va_iast hx hb hK hP hD hS 8 0 rfl rfl b2 dX5_five_41 (fun H locs hP hD hS => ?_)
      replace hP : va_P (dC, dI) vwCl (wX5 cI cZ cJ cA h0 a x1 x3 x4 x5 x6 x7 x9 x10 x14 x15 x16 x19 x20 x21 x22 x23 x24 x41 x42 f0 f2 f8 f11 f12 f13 (upd f17 (Int32.toNatClampNeg v2) 0) (upd f18 (Int32.toNatClampNeg v2) 0) f25 f26 f27 f28 f29 f30 f31 f32 f33 f34 f35 f36 f37 f38 f39 f40 f43) H := hP
      replace hD : va_D A (wX5 cI cZ cJ cA h0 a x1 x3 x4 x5 x6 x7 x9 x10 x14 x15 x16 x19 x20 x21 x22 x23 x24 x41 x42 f0 f2 f8 f11 f12 f13 (upd f17 (Int32.toNatClampNeg v2) 0) (upd f18 (Int32.toNatClampNeg v2) 0) f25 f26 f27 f28 f29 f30 f31 f32 f33 f34 f35 f36 f37 f38 f39 f40 f43) := hD
      refine lv_iinc (v := (v2 + 1)) (lv' := [(2, .int (v2 + 1)), (0, .ref h0), (1, .int v1)]) hx hb dX5_five_42 hl (k := 2) rfl rfl (by decide) rfl (fun ls hl => ?_)
      refine lv_goto (tgt := 23) hx hb dX5_five_45 (by decide) ?_
      exact ih hf hP hD hS (lv_sub hl [1, 2, 0] rfl) hexit
def q_X5_five (N : Nat) (v1 : Int32) (x15 : Int32) (x16 : Int32) (f17 : (Nat → Int32)) (f18 : (Nat → Int32)) : Option (Int32 × Int32 × Int32 × (Nat → Int32) × (Nat → Int32)) :=
  (Option.bind (q_X5_in N v1 1 4) (fun o1 =>
  (if o1 = 0 then
   (some (0, x15, x16, f17, f18))
  else
   (Option.bind (q_X5_five_L23 N v1 N 0 f17 f18) (fun t3 =>
   (some (1, v1, 0, t3.1, t3.2)))))))
set_option maxHeartbeats 4000000 in
set_option maxRecDepth 100000 in
theorem b_X5_five {p : Program} {l : Launch} {e : Env} {R : Room} {s : State} {m : MethodId} {args : Array Value} {below : List Frame} {meth : Method} {c : Code} {Q : State → Prop} {A : Nat → Prop} {dC : Nat → ClassId} {dI : Nat → Nat → Nat} {cI cZ cJ cA : ClassId} {h0 : Nat} {a : Nat → Nat} (N : Nat) (C0 : z_Cx p s m args c cX5_five 3 wsX5_five RX5 R 1 22 A dC dI (z_ty cI cZ cJ cA)) {v1 : Int32} {x1 : Int32} {x3 : Int32} {x4 : Int32} {x5 : Int32} {x6 : Int32} {x7 : Int32} {x9 : Int32} {x10 : Int32} {x14 : Int32} {x15 : Int32} {x16 : Int32} {x19 : Int32} {x20 : Int32} {x21 : Int32} {x22 : Int32} {x23 : Int32} {x24 : Int32} {x41 : Int32} {x42 : Int32} {f0 : (Nat → Int32)} {f2 : (Nat → Int32)} {f8 : (Nat → Int32)} {f11 : (Nat → Int32)} {f12 : (Nat → Int32)} {f13 : (Nat → Int32)} {f17 : (Nat → Int32)} {f18 : (Nat → Int32)} {f25 : (Nat → Int32)} {f26 : (Nat → Int32)} {f27 : (Nat → Int32)} {f28 : (Nat → Int32)} {f29 : (Nat → Int32)} {f30 : (Nat → Int32)} {f31 : (Nat → Int32)} {f32 : (Nat → Int32)} {f33 : (Nat → Int32)} {f34 : (Nat → Int32)} {f35 : (Nat → Int32)} {f36 : (Nat → Int32)} {f37 : (Nat → Int32)} {f38 : (Nat → Int32)} {f39 : (Nat → Int32)} {f40 : (Nat → Int32)} {f43 : (Nat → Int32)} {o : (Int32 × Int32 × Int32 × (Nat → Int32) × (Nat → Int32))} {H : Heap} {locs : List Loc} {ls : Array Slot} (hf : q_X5_five N v1 x15 x16 f17 f18 = some o) (hP : va_P (dC, dI) vwCl (wX5 cI cZ cJ cA h0 a x1 x3 x4 x5 x6 x7 x9 x10 x14 x15 x16 x19 x20 x21 x22 x23 x24 x41 x42 f0 f2 f8 f11 f12 f13 f17 f18 f25 f26 f27 f28 f29 f30 f31 f32 f33 f34 f35 f36 f37 f38 f39 f40 f43) H) (hD : va_D A (wX5 cI cZ cJ cA h0 a x1 x3 x4 x5 x6 x7 x9 x10 x14 x15 x16 x19 x20 x21 x22 x23 x24 x41 x42 f0 f2 f8 f11 f12 f13 f17 f18 f25 f26 f27 f28 f29 f30 f31 f32 f33 f34 f35 f36 f37 f38 f39 f40 f43)) (hS : va_S A s.heap H locs) (hl : lv_has ls 3 [(0, .ref h0), (1, .int v1)])
    (hret : ∀ (pc : Nat) (H : Heap) (locs : List Loc) (ls : Array Slot) (r : Int32), decode cX5_five pc = .ok (.ireturn, 1) → r = o.1 → narrow .boolean (.int r) = .int r → va_P (dC, dI) vwCl (wX5 cI cZ cJ cA h0 a x1 x3 x4 x5 x6 x7 x9 x10 x14 o.2.1 o.2.2.1 x19 x20 x21 x22 x23 x24 x41 x42 f0 f2 f8 f11 f12 f13 o.2.2.2.1 o.2.2.2.2 f25 f26 f27 f28 f29 f30 f31 f32 f33 f34 f35 f36 f37 f38 f39 f40 f43) H → va_D A (wX5 cI cZ cJ cA h0 a x1 x3 x4 x5 x6 x7 x9 x10 x14 o.2.1 o.2.2.1 x19 x20 x21 x22 x23 x24 x41 x42 f0 f2 f8 f11 f12 f13 o.2.2.2.1 o.2.2.2.2 f25 f26 f27 f28 f29 f30 f31 f32 f33 f34 f35 f36 f37 f38 f39 f40 f43) → va_S A s.heap H locs → W p l e R s m args below meth c H locs 0 0 Q (F0 m pc ls [.int r])) :
    W p l e R s m args below meth c H locs 0 0 Q (F0 m 0 ls []) := by
  obtain ⟨⟨hx, hb, hml, hown, hts⟩, hRf, hRl, hA, hN, hK⟩ := C0
  unfold q_X5_five at hf
  refine lv_iload_n hx hb dX5_five_0 rfl (lv_at hl 1 rfl) ?_
  refine lv_iconst (v := 1) hx hb dX5_five_1 (by decide) ?_
  refine lv_iconst (v := 4) hx hb dX5_five_2 (by decide) ?_
  obtain ⟨o1, ho1, hf1⟩ := z_ib hf
  replace hf := hf1
  clear hf1
  refine z_S0 (As := [.int v1, .int 1, .int 4]) (rest := []) ⟨hx, hb, hml, hown, hts⟩ (k_X5_in l dC dI cI cZ cJ cA H.size N v1 1 4 o1 ho1) (va_cwS 3 hts gX5_five_X5_in rfl rfl rfl (by decide +kernel) ⟨Nat.le_trans (Nat.le_of_ble_eq_true rfl) hRf, Nat.le_trans (Nat.le_of_ble_eq_true rfl) hRl⟩) hK hP hS hA hN rfl hl.1 rfl (Nat.le_of_ble_eq_true rfl) dX5_five_3 (fun H locs hP hS => ?_)
  refine lv_if_ne (tgt := 11) hx hb dX5_five_6 (by decide) (fun c2 => ?_) (fun c2 => ?_)
  · replace hf := z_im hf c2
    refine lv_aload_n hx hb dX5_five_11 rfl (lv_at hl 0 rfl) ?_
    refine lv_iload_n hx hb dX5_five_12 rfl (lv_at hl 1 rfl) ?_
    refine va_put (D := (dC, dI)) (ci := 5) (v := .int v1) (ty := .int) (C := RX5) (T := TX5) (N := 44) hx hb hts (fun w hw => List.mem_cons_of_mem _ (List.mem_append_right _ hw)) tyX5 tyX5_ok nmX5 hown hK hP hD hS 0 rfl rfl 15 (by decide) (hts (.fieldLink RX5 148 "OldStadiumModel" "athletes" "I") (List.mem_of_getElem? (i := 1) rfl)) (fun _ h9 => h9) rfl (by decide +kernel) rfl rfl (Nat.le_of_ble_eq_true rfl) dX5_five_13 (fun H locs hP hD hS => ?_)
    replace hP : va_P (dC, dI) vwCl (wX5 cI cZ cJ cA h0 a x1 x3 x4 x5 x6 x7 x9 x10 x14 v1 x16 x19 x20 x21 x22 x23 x24 x41 x42 f0 f2 f8 f11 f12 f13 f17 f18 f25 f26 f27 f28 f29 f30 f31 f32 f33 f34 f35 f36 f37 f38 f39 f40 f43) H := hP
    replace hD : va_D A (wX5 cI cZ cJ cA h0 a x1 x3 x4 x5 x6 x7 x9 x10 x14 v1 x16 x19 x20 x21 x22 x23 x24 x41 x42 f0 f2 f8 f11 f12 f13 f17 f18 f25 f26 f27 f28 f29 f30 f31 f32 f33 f34 f35 f36 f37 f38 f39 f40 f43) := hD
    refine lv_aload_n hx hb dX5_five_16 rfl (lv_at hl 0 rfl) ?_
    refine lv_iconst (v := 0) hx hb dX5_five_17 (by decide) ?_
    refine va_put (D := (dC, dI)) (ci := 5) (v := .int 0) (ty := .int) (C := RX5) (T := TX5) (N := 44) hx hb hts (fun w hw => List.mem_cons_of_mem _ (List.mem_append_right _ hw)) tyX5 tyX5_ok nmX5 hown hK hP hD hS 0 rfl rfl 16 (by decide) (hts (.fieldLink RX5 151 "OldStadiumModel" "events" "I") (List.mem_of_getElem? (i := 2) rfl)) (fun _ h9 => h9) rfl (by decide +kernel) rfl rfl (Nat.le_of_ble_eq_true rfl) dX5_five_18 (fun H locs hP hD hS => ?_)
    replace hP : va_P (dC, dI) vwCl (wX5 cI cZ cJ cA h0 a x1 x3 x4 x5 x6 x7 x9 x10 x14 v1 0 x19 x20 x21 x22 x23 x24 x41 x42 f0 f2 f8 f11 f12 f13 f17 f18 f25 f26 f27 f28 f29 f30 f31 f32 f33 f34 f35 f36 f37 f38 f39 f40 f43) H := hP
    replace hD : va_D A (wX5 cI cZ cJ cA h0 a x1 x3 x4 x5 x6 x7 x9 x10 x14 v1 0 x19 x20 x21 x22 x23 x24 x41 x42 f0 f2 f8 f11 f12 f13 f17 f18 f25 f26 f27 f28 f29 f30 f31 f32 f33 f34 f35 f36 f37 f38 f39 f40 f43) := hD
    refine lv_iconst (v := 0) hx hb dX5_five_21 (by decide) ?_
    refine lv_istore_n (lv' := [(2, .int 0), (0, .ref h0), (1, .int v1)]) hx hb dX5_five_22 rfl hl (by decide) rfl (fun ls hl => ?_)
    obtain ⟨t3, ht3, hf1⟩ := z_ib hf
    replace hf := hf1
    clear hf1
    refine b_X5_five_L23 N ⟨⟨hx, hb, hml, hown, hts⟩, hRf, hRl, hA, hN, hK⟩ N ht3 hP hD hS (lv_sub hl [1, 2, 0] rfl) (fun H locs ls hP hD hS hl => ?_)
    refine lv_iconst (v := 1) hx hb dX5_five_48 (by decide) ?_
    obtain rfl := Option.some.inj hf
    exact hret _ _ _ _ _ dX5_five_49 rfl rfl hP hD hS
  · replace hf := z_ip hf c2
    refine lv_iconst (v := 0) hx hb dX5_five_9 (by decide) ?_
    obtain rfl := Option.some.inj hf
    exact hret _ _ _ _ _ dX5_five_10 rfl rfl hP hD hS
set_option maxHeartbeats 4000000 in
set_option maxRecDepth 100000 in
theorem k_X5_five (l : Launch) (dC : Nat → ClassId) (dI : Nat → Nat → Nat) (cI cZ cJ cA : ClassId) (h0 : Nat) (a : Nat → Nat) (sz : Nat) (N : Nat) (v1 : Int32) (x1 : Int32) (x3 : Int32) (x4 : Int32) (x5 : Int32) (x6 : Int32) (x7 : Int32) (x9 : Int32) (x10 : Int32) (x14 : Int32) (x15 : Int32) (x16 : Int32) (x19 : Int32) (x20 : Int32) (x21 : Int32) (x22 : Int32) (x23 : Int32) (x24 : Int32) (x41 : Int32) (x42 : Int32) (f0 : (Nat → Int32)) (f2 : (Nat → Int32)) (f8 : (Nat → Int32)) (f11 : (Nat → Int32)) (f12 : (Nat → Int32)) (f13 : (Nat → Int32)) (f17 : (Nat → Int32)) (f18 : (Nat → Int32)) (f25 : (Nat → Int32)) (f26 : (Nat → Int32)) (f27 : (Nat → Int32)) (f28 : (Nat → Int32)) (f29 : (Nat → Int32)) (f30 : (Nat → Int32)) (f31 : (Nat → Int32)) (f32 : (Nat → Int32)) (f33 : (Nat → Int32)) (f34 : (Nat → Int32)) (f35 : (Nat → Int32)) (f36 : (Nat → Int32)) (f37 : (Nat → Int32)) (f38 : (Nat → Int32)) (f39 : (Nat → Int32)) (f40 : (Nat → Int32)) (f43 : (Nat → Int32)) (o : (Int32 × Int32 × Int32 × (Nat → Int32) × (Nat → Int32))) (hf : q_X5_five N v1 x15 x16 f17 f18 = some o) : Met l yX5_five wsX5_five ({ frames := 1, cells := 0, slots := 0, locals := 22 } : Room) (z_Pre dC dI (z_ty cI cZ cJ cA) [.ref h0, .int v1] sz (wX5 cI cZ cJ cA h0 a x1 x3 x4 x5 x6 x7 x9 x10 x14 x15 x16 x19 x20 x21 x22 x23 x24 x41 x42 f0 f2 f8 f11 f12 f13 f17 f18 f25 f26 f27 f28 f29 f30 f31 f32 f33 f34 f35 f36 f37 f38 f39 f40 f43)) (z_Pi dC dI o.1 (wX5 cI cZ cJ cA h0 a x1 x3 x4 x5 x6 x7 x9 x10 x14 o.2.1 o.2.2.1 x19 x20 x21 x22 x23 x24 x41 x42 f0 f2 f8 f11 f12 f13 o.2.2.2.1 o.2.2.2.2 f25 f26 f27 f28 f29 f30 f31 f32 f33 f34 f35 f36 f37 f38 f39 f40 f43) sz (wX5 cI cZ cJ cA h0 a x1 x3 x4 x5 x6 x7 x9 x10 x14 x15 x16 x19 x20 x21 x22 x23 x24 x41 x42 f0 f2 f8 f11 f12 f13 f17 f18 f25 f26 f27 f28 f29 f30 f31 f32 f33 f34 f35 f36 f37 f38 f39 f40 f43)) 0 0 (va_A (wX5 cI cZ cJ cA h0 a x1 x3 x4 x5 x6 x7 x9 x10 x14 x15 x16 x19 x20 x21 x22 x23 x24 x41 x42 f0 f2 f8 f11 f12 f13 f17 f18 f25 f26 f27 f28 f29 f30 f31 f32 f33 f34 f35 f36 f37 f38 f39 f40 f43) sz) := by
  refine Met.ofW (cc := cX5_five) (maxL := 3) (ret := (some .boolean)) (by decide) rfl ?_
  intro p e s m args below meth c s₁ B hml hv
  obtain ⟨rfl, hsz, hP, hK, hD0, hN⟩ := hv
  subst hsz
  have hl := lv_entry ([.ref h0, .int v1]) (n := 3) (Nat.le_of_ble_eq_true rfl)
  rw [lg_entry_eq]
  refine b_X5_five N ⟨⟨B.exec, B.bytes, hml, findClass_of_methodNamed B.named, atoms_spec (ws := wsX5_five) B.pre⟩, Nat.le_refl _, Nat.le_refl _, fun q h => Or.inr h, hN, hK⟩ hf hP hD0.self va_S.rf hl (fun pc H locs ls r hd hr hn hP hD hS => ?_)
  subst hr
  exact W.zret B.exec B.bytes B.returns hn (fun t ht hW => ⟨⟨_, (), rfl, rfl, by rw [ht]; exact hP, hD⟩, hS.F ht⟩) hS.2.2 hd
def q_X5_won_L4 (N : Nat) (x15 : Int32) (f17 : (Nat → Int32)) (f18 : (Nat → Int32)) : Nat → Int32 → Int32 → Option (Sum Int32 Int32)
  | 0, _, _ => none
  | n + 1, v1, v2 =>
    (if x15 ≤ v2 then
     (some (Sum.inr v1))
    else
     (if z_in v2 4 then
     (if (f17 (Int32.toNatClampNeg v2)) ≤ 2 then
      (if v1 = (-1) then
       (q_X5_won_L4 N x15 f17 f18 n v2 (v2 + 1))
      else
       (if z_in v1 4 then
       (if (f17 (Int32.toNatClampNeg v1)) < (f17 (Int32.toNatClampNeg v2)) then
        (q_X5_won_L4 N x15 f17 f18 n v2 (v2 + 1))
       else
        (if (f17 (Int32.toNatClampNeg v2)) = (f17 (Int32.toNatClampNeg v1)) then
         (if (f18 (Int32.toNatClampNeg v1)) ≤ (f18 (Int32.toNatClampNeg v2)) then
          (q_X5_won_L4 N x15 f17 f18 n v1 (v2 + 1))
         else
          (q_X5_won_L4 N x15 f17 f18 n v2 (v2 + 1)))
        else
         (q_X5_won_L4 N x15 f17 f18 n v1 (v2 + 1))))
       else none))
     else
      (some (Sum.inl v2)))
     else none))
set_option maxHeartbeats 4000000 in
set_option maxRecDepth 100000 in
theorem b_X5_won_L4 {p : Program} {l : Launch} {e : Env} {R : Room} {s : State} {m : MethodId} {args : Array Value} {below : List Frame} {meth : Method} {c : Code} {Q : State → Prop} {A : Nat → Prop} {dC : Nat → ClassId} {dI : Nat → Nat → Nat} {cI cZ cJ cA : ClassId} {h0 : Nat} {a : Nat → Nat} (N : Nat) (C0 : z_Cx p s m args c cX5_won 3 wsX5_won RX5 R 0 0 A dC dI (z_ty cI cZ cJ cA)) : ∀ (n : Nat) {v1 : Int32} {v2 : Int32} {x1 : Int32} {x3 : Int32} {x4 : Int32} {x5 : Int32} {x6 : Int32} {x7 : Int32} {x9 : Int32} {x10 : Int32} {x14 : Int32} {x15 : Int32} {x16 : Int32} {x19 : Int32} {x20 : Int32} {x21 : Int32} {x22 : Int32} {x23 : Int32} {x24 : Int32} {x41 : Int32} {x42 : Int32} {f0 : (Nat → Int32)} {f2 : (Nat → Int32)} {f8 : (Nat → Int32)} {f11 : (Nat → Int32)} {f12 : (Nat → Int32)} {f13 : (Nat → Int32)} {f17 : (Nat → Int32)} {f18 : (Nat → Int32)} {f25 : (Nat → Int32)} {f26 : (Nat → Int32)} {f27 : (Nat → Int32)} {f28 : (Nat → Int32)} {f29 : (Nat → Int32)} {f30 : (Nat → Int32)} {f31 : (Nat → Int32)} {f32 : (Nat → Int32)} {f33 : (Nat → Int32)} {f34 : (Nat → Int32)} {f35 : (Nat → Int32)} {f36 : (Nat → Int32)} {f37 : (Nat → Int32)} {f38 : (Nat → Int32)} {f39 : (Nat → Int32)} {f40 : (Nat → Int32)} {f43 : (Nat → Int32)} {o : (Sum Int32 Int32)} {H : Heap} {locs : List Loc} {ls : Array Slot}, q_X5_won_L4 N x15 f17 f18 n v1 v2 = some o → va_P (dC, dI) vwCl (wX5 cI cZ cJ cA h0 a x1 x3 x4 x5 x6 x7 x9 x10 x14 x15 x16 x19 x20 x21 x22 x23 x24 x41 x42 f0 f2 f8 f11 f12 f13 f17 f18 f25 f26 f27 f28 f29 f30 f31 f32 f33 f34 f35 f36 f37 f38 f39 f40 f43) H → va_D A (wX5 cI cZ cJ cA h0 a x1 x3 x4 x5 x6 x7 x9 x10 x14 x15 x16 x19 x20 x21 x22 x23 x24 x41 x42 f0 f2 f8 f11 f12 f13 f17 f18 f25 f26 f27 f28 f29 f30 f31 f32 f33 f34 f35 f36 f37 f38 f39 f40 f43) → va_S A s.heap H locs → lv_has ls 3 [(0, .ref h0), (1, .int v1), (2, .int v2)] →
    (∀ (t : Int32), o = Sum.inl t → ∀ (pc : Nat) (H : Heap) (locs : List Loc) (ls : Array Slot) (r : Int32), decode cX5_won pc = .ok (.ireturn, 1) → r = t → va_P (dC, dI) vwCl (wX5 cI cZ cJ cA h0 a x1 x3 x4 x5 x6 x7 x9 x10 x14 x15 x16 x19 x20 x21 x22 x23 x24 x41 x42 f0 f2 f8 f11 f12 f13 f17 f18 f25 f26 f27 f28 f29 f30 f31 f32 f33 f34 f35 f36 f37 f38 f39 f40 f43) H → va_D A (wX5 cI cZ cJ cA h0 a x1 x3 x4 x5 x6 x7 x9 x10 x14 x15 x16 x19 x20 x21 x22 x23 x24 x41 x42 f0 f2 f8 f11 f12 f13 f17 f18 f25 f26 f27 f28 f29 f30 f31 f32 f33 f34 f35 f36 f37 f38 f39 f40 f43) → va_S A s.heap H locs → W p l e R s m args below meth c H locs 0 0 Q (F0 m pc ls [.int r])) →
    (∀ (t : Int32) (H : Heap) (locs : List Loc) (ls : Array Slot), o = Sum.inr t → va_P (dC, dI) vwCl (wX5 cI cZ cJ cA h0 a x1 x3 x4 x5 x6 x7 x9 x10 x14 x15 x16 x19 x20 x21 x22 x23 x24 x41 x42 f0 f2 f8 f11 f12 f13 f17 f18 f25 f26 f27 f28 f29 f30 f31 f32 f33 f34 f35 f36 f37 f38 f39 f40 f43) H → va_D A (wX5 cI cZ cJ cA h0 a x1 x3 x4 x5 x6 x7 x9 x10 x14 x15 x16 x19 x20 x21 x22 x23 x24 x41 x42 f0 f2 f8 f11 f12 f13 f17 f18 f25 f26 f27 f28 f29 f30 f31 f32 f33 f34 f35 f36 f37 f38 f39 f40 f43) → va_S A s.heap H locs → lv_has ls 3 [(0, .ref h0), (1, .int t)] → W p l e R s m args below meth c H locs 0 0 Q (F0 m 82 ls [])) →
    W p l e R s m args below meth c H locs 0 0 Q (F0 m 4 ls []) := by
  obtain ⟨⟨hx, hb, hml, hown, hts⟩, hRf, hRl, hA, hN, hK⟩ := C0
  intro n
  induction n with
  | zero =>
    intro v1 v2 x1 x3 x4 x5 x6 x7 x9 x10 x14 x15 x16 x19 x20 x21 x22 x23 x24 x41 x42 f0 f2 f8 f11 f12 f13 f17 f18 f25 f26 f27 f28 f29 f30 f31 f32 f33 f34 f35 f36 f37 f38 f39 f40 f43 o H locs ls hf
    cases hf
  | succ n ih =>
    intro v1 v2 x1 x3 x4 x5 x6 x7 x9 x10 x14 x15 x16 x19 x20 x21 x22 x23 x24 x41 x42 f0 f2 f8 f11 f12 f13 f17 f18 f25 f26 f27 f28 f29 f30 f31 f32 f33 f34 f35 f36 f37 f38 f39 f40 f43 o H locs ls hf hP hD hS hl hret hexit
    rw [q_X5_won_L4] at hf
    refine lv_iload_n hx hb dX5_won_4 rfl (lv_at hl 2 rfl) ?_
    refine lv_aload_n hx hb dX5_won_5 rfl (lv_at hl 0 rfl) ?_
    refine va_get (D := (dC, dI)) (ci := 5) (v := .int x15) (C := RX5) (T := TX5) (N := 44) hx hb hts (fun w hw => List.mem_cons_of_mem _ (List.mem_append_right _ hw)) hown hK hP 0 rfl rfl 15 (by decide) (hts (.fieldLink RX5 148 "OldStadiumModel" "athletes" "I") (List.mem_of_getElem? (i := 1) rfl)) (fun _ h9 => h9) rfl dX5_won_6 ?_
    refine lv_icmp_ge (tgt := 82) hx hb dX5_won_9 (by decide) (fun c1 => ?_) (fun c1 => ?_)
    · replace hf := z_ip hf c1
      obtain rfl := Option.some.inj hf
      exact hexit _ _ _ _ rfl hP hD hS (lv_sub hl [0, 1] rfl)
    · replace hf := z_im hf c1
      refine lv_aload_n hx hb dX5_won_12 rfl (lv_at hl 0 rfl) ?_
      refine va_get (D := (dC, dI)) (ci := 5) (v := .ref (a 17)) (C := RX5) (T := TX5) (N := 44) hx hb hts (fun w hw => List.mem_cons_of_mem _ (List.mem_append_right _ hw)) hown hK hP 0 rfl rfl 17 (by decide) (hts (.fieldLink RX5 36 "OldStadiumModel" "wins" "[I") (List.mem_of_getElem? (i := 2) rfl)) (fun _ h9 => h9) rfl dX5_won_13 ?_
      refine lv_iload_n hx hb dX5_won_16 rfl (lv_at hl 2 rfl) ?_
      have b2 := z_c1 hf
      replace hf := z_c2 hf
      refine va_iald hx hb hK hP 7 0 rfl rfl b2 dX5_won_17 ?_
      refine lv_iconst (v := 2) hx hb dX5_won_18 (by decide) ?_
      refine lv_icmp_le (tgt := 24) hx hb dX5_won_19 (by decide) (fun c3 => ?_) (fun c3 => ?_)
      · replace hf := z_ip hf c3
        refine lv_iload_n hx hb dX5_won_24 rfl (lv_at hl 1 rfl) ?_
        refine lv_iconst (v := (-1)) hx hb dX5_won_25 (by decide) ?_
        refine lv_icmp_eq (tgt := 74) hx hb dX5_won_26 (by decide) (fun c4 => ?_) (fun c4 => ?_)
        · replace hf := z_ip hf c4
          refine lv_iload_n hx hb dX5_won_74 rfl (lv_at hl 2 rfl) ?_
          refine lv_istore_n (lv' := [(1, .int v2), (0, .ref h0), (2, .int v2)]) hx hb dX5_won_75 rfl hl (by decide) rfl (fun ls hl => ?_)
          refine lv_iinc (v := (v2 + 1)) (lv' := [(2, .int (v2 + 1)), (1, .int v2), (0, .ref h0)]) hx hb dX5_won_76 hl (k := 2) rfl rfl (by decide) rfl (fun ls hl => ?_)
          refine lv_goto (tgt := 4) hx hb dX5_won_79 (by decide) ?_
          exact ih hf hP hD hS (lv_sub hl [2, 1, 0] rfl) hret hexit
        · replace hf := z_im hf c4
          refine lv_aload_n hx hb dX5_won_29 rfl (lv_at hl 0 rfl) ?_
          refine va_get (D := (dC, dI)) (ci := 5) (v := .ref (a 17)) (C := RX5) (T := TX5) (N := 44) hx hb hts (fun w hw => List.mem_cons_of_mem _ (List.mem_append_right _ hw)) hown hK hP 0 rfl rfl 17 (by decide) (hts (.fieldLink RX5 36 "OldStadiumModel" "wins" "[I") (List.mem_of_getElem? (i := 2) rfl)) (fun _ h9 => h9) rfl dX5_won_30 ?_
          refine lv_iload_n hx hb dX5_won_33 rfl (lv_at hl 2 rfl) ?_
          refine va_iald hx hb hK hP 7 0 rfl rfl b2 dX5_won_34 ?_
          refine lv_aload_n hx hb dX5_won_35 rfl (lv_at hl 0 rfl) ?_
          refine va_get (D := (dC, dI)) (ci := 5) (v := .ref (a 17)) (C := RX5) (T := TX5) (N := 44) hx hb hts (fun w hw => List.mem_cons_of_mem _ (List.mem_append_right _ hw)) hown hK hP 0 rfl rfl 17 (by decide) (hts (.fieldLink RX5 36 "OldStadiumModel" "wins" "[I") (List.mem_of_getElem? (i := 2) rfl)) (fun _ h9 => h9) rfl dX5_won_36 ?_
          refine lv_iload_n hx hb dX5_won_39 rfl (lv_at hl 1 rfl) ?_
          have b5 := z_c1 hf
          replace hf := z_c2 hf
          refine va_iald hx hb hK hP 7 0 rfl rfl b5 dX5_won_40 ?_
          refine lv_icmp_gt (tgt := 74) hx hb dX5_won_41 (by decide) (fun c6 => ?_) (fun c6 => ?_)
          · replace hf := z_ip hf c6
            refine lv_iload_n hx hb dX5_won_74 rfl (lv_at hl 2 rfl) ?_
            refine lv_istore_n (lv' := [(1, .int v2), (0, .ref h0), (2, .int v2)]) hx hb dX5_won_75 rfl hl (by decide) rfl (fun ls hl => ?_)
            refine lv_iinc (v := (v2 + 1)) (lv' := [(2, .int (v2 + 1)), (1, .int v2), (0, .ref h0)]) hx hb dX5_won_76 hl (k := 2) rfl rfl (by decide) rfl (fun ls hl => ?_)
            refine lv_goto (tgt := 4) hx hb dX5_won_79 (by decide) ?_
            exact ih hf hP hD hS (lv_sub hl [2, 1, 0] rfl) hret hexit
          · replace hf := z_im hf c6
            refine lv_aload_n hx hb dX5_won_44 rfl (lv_at hl 0 rfl) ?_
            refine va_get (D := (dC, dI)) (ci := 5) (v := .ref (a 17)) (C := RX5) (T := TX5) (N := 44) hx hb hts (fun w hw => List.mem_cons_of_mem _ (List.mem_append_right _ hw)) hown hK hP 0 rfl rfl 17 (by decide) (hts (.fieldLink RX5 36 "OldStadiumModel" "wins" "[I") (List.mem_of_getElem? (i := 2) rfl)) (fun _ h9 => h9) rfl dX5_won_45 ?_
            refine lv_iload_n hx hb dX5_won_48 rfl (lv_at hl 2 rfl) ?_
            refine va_iald hx hb hK hP 7 0 rfl rfl b2 dX5_won_49 ?_
            refine lv_aload_n hx hb dX5_won_50 rfl (lv_at hl 0 rfl) ?_
            refine va_get (D := (dC, dI)) (ci := 5) (v := .ref (a 17)) (C := RX5) (T := TX5) (N := 44) hx hb hts (fun w hw => List.mem_cons_of_mem _ (List.mem_append_right _ hw)) hown hK hP 0 rfl rfl 17 (by decide) (hts (.fieldLink RX5 36 "OldStadiumModel" "wins" "[I") (List.mem_of_getElem? (i := 2) rfl)) (fun _ h9 => h9) rfl dX5_won_51 ?_
            refine lv_iload_n hx hb dX5_won_54 rfl (lv_at hl 1 rfl) ?_
            refine va_iald hx hb hK hP 7 0 rfl rfl b5 dX5_won_55 ?_
            refine lv_icmp_ne (tgt := 76) hx hb dX5_won_56 (by decide) (fun c7 => ?_) (fun c7 => ?_)
            · replace hf := z_im hf c7
              refine lv_iinc (v := (v2 + 1)) (lv' := [(2, .int (v2 + 1)), (0, .ref h0), (1, .int v1)]) hx hb dX5_won_76 hl (k := 2) rfl rfl (by decide) rfl (fun ls hl => ?_)
              refine lv_goto (tgt := 4) hx hb dX5_won_79 (by decide) ?_
              exact ih hf hP hD hS (lv_sub hl [1, 2, 0] rfl) hret hexit
            · replace hf := z_ip hf c7
              refine lv_aload_n hx hb dX5_won_59 rfl (lv_at hl 0 rfl) ?_
              refine va_get (D := (dC, dI)) (ci := 5) (v := .ref (a 18)) (C := RX5) (T := TX5) (N := 44) hx hb hts (fun w hw => List.mem_cons_of_mem _ (List.mem_append_right _ hw)) hown hK hP 0 rfl rfl 18 (by decide) (hts (.fieldLink RX5 39 "OldStadiumModel" "sums" "[I") (List.mem_of_getElem? (i := 3) rfl)) (fun _ h9 => h9) rfl dX5_won_60 ?_
              refine lv_iload_n hx hb dX5_won_63 rfl (lv_at hl 2 rfl) ?_
              refine va_iald hx hb hK hP 8 0 rfl rfl b2 dX5_won_64 ?_
              refine lv_aload_n hx hb dX5_won_65 rfl (lv_at hl 0 rfl) ?_
              refine va_get (D := (dC, dI)) (ci := 5) (v := .ref (a 18)) (C := RX5) (T := TX5) (N := 44) hx hb hts (fun w hw => List.mem_cons_of_mem _ (List.mem_append_right _ hw)) hown hK hP 0 rfl rfl 18 (by decide) (hts (.fieldLink RX5 39 "OldStadiumModel" "sums" "[I") (List.mem_of_getElem? (i := 3) rfl)) (fun _ h9 => h9) rfl dX5_won_66 ?_
              refine lv_iload_n hx hb dX5_won_69 rfl (lv_at hl 1 rfl) ?_
              refine va_iald hx hb hK hP 8 0 rfl rfl b5 dX5_won_70 ?_
              refine lv_icmp_ge (tgt := 76) hx hb dX5_won_71 (by decide) (fun c8 => ?_) (fun c8 => ?_)
              · replace hf := z_ip hf c8
                refine lv_iinc (v := (v2 + 1)) (lv' := [(2, .int (v2 + 1)), (0, .ref h0), (1, .int v1)]) hx hb dX5_won_76 hl (k := 2) rfl rfl (by decide) rfl (fun ls hl => ?_)
                refine lv_goto (tgt := 4) hx hb dX5_won_79 (by decide) ?_
                exact ih hf hP hD hS (lv_sub hl [1, 2, 0] rfl) hret hexit
              · replace hf := z_im hf c8
                refine lv_iload_n hx hb dX5_won_74 rfl (lv_at hl 2 rfl) ?_
                refine lv_istore_n (lv' := [(1, .int v2), (0, .ref h0), (2, .int v2)]) hx hb dX5_won_75 rfl hl (by decide) rfl (fun ls hl => ?_)
                refine lv_iinc (v := (v2 + 1)) (lv' := [(2, .int (v2 + 1)), (1, .int v2), (0, .ref h0)]) hx hb dX5_won_76 hl (k := 2) rfl rfl (by decide) rfl (fun ls hl => ?_)
                refine lv_goto (tgt := 4) hx hb dX5_won_79 (by decide) ?_
                exact ih hf hP hD hS (lv_sub hl [2, 1, 0] rfl) hret hexit
      · replace hf := z_im hf c3
        refine lv_iload_n hx hb dX5_won_22 rfl (lv_at hl 2 rfl) ?_
        obtain rfl := Option.some.inj hf
        exact hret _ rfl _ _ _ _ _ dX5_won_23 rfl hP hD hS
def q_X5_won (N : Nat) (x15 : Int32) (x16 : Int32) (f17 : (Nat → Int32)) (f18 : (Nat → Int32)) : Option Int32 :=
  (Option.bind (q_X5_won_L4 N x15 f17 f18 N (-1) 0) (Sum.elim (fun r3 => (some r3)) (fun s2 =>
  (if x16 = 5 then
   (some s2)
  else
   (some (-1))))))
set_option maxHeartbeats 4000000 in
set_option maxRecDepth 100000 in
theorem b_X5_won {p : Program} {l : Launch} {e : Env} {R : Room} {s : State} {m : MethodId} {args : Array Value} {below : List Frame} {meth : Method} {c : Code} {Q : State → Prop} {A : Nat → Prop} {dC : Nat → ClassId} {dI : Nat → Nat → Nat} {cI cZ cJ cA : ClassId} {h0 : Nat} {a : Nat → Nat} (N : Nat) (C0 : z_Cx p s m args c cX5_won 3 wsX5_won RX5 R 0 0 A dC dI (z_ty cI cZ cJ cA)) {x1 : Int32} {x3 : Int32} {x4 : Int32} {x5 : Int32} {x6 : Int32} {x7 : Int32} {x9 : Int32} {x10 : Int32} {x14 : Int32} {x15 : Int32} {x16 : Int32} {x19 : Int32} {x20 : Int32} {x21 : Int32} {x22 : Int32} {x23 : Int32} {x24 : Int32} {x41 : Int32} {x42 : Int32} {f0 : (Nat → Int32)} {f2 : (Nat → Int32)} {f8 : (Nat → Int32)} {f11 : (Nat → Int32)} {f12 : (Nat → Int32)} {f13 : (Nat → Int32)} {f17 : (Nat → Int32)} {f18 : (Nat → Int32)} {f25 : (Nat → Int32)} {f26 : (Nat → Int32)} {f27 : (Nat → Int32)} {f28 : (Nat → Int32)} {f29 : (Nat → Int32)} {f30 : (Nat → Int32)} {f31 : (Nat → Int32)} {f32 : (Nat → Int32)} {f33 : (Nat → Int32)} {f34 : (Nat → Int32)} {f35 : (Nat → Int32)} {f36 : (Nat → Int32)} {f37 : (Nat → Int32)} {f38 : (Nat → Int32)} {f39 : (Nat → Int32)} {f40 : (Nat → Int32)} {f43 : (Nat → Int32)} {o : Int32} {H : Heap} {locs : List Loc} {ls : Array Slot} (hf : q_X5_won N x15 x16 f17 f18 = some o) (hP : va_P (dC, dI) vwCl (wX5 cI cZ cJ cA h0 a x1 x3 x4 x5 x6 x7 x9 x10 x14 x15 x16 x19 x20 x21 x22 x23 x24 x41 x42 f0 f2 f8 f11 f12 f13 f17 f18 f25 f26 f27 f28 f29 f30 f31 f32 f33 f34 f35 f36 f37 f38 f39 f40 f43) H) (hD : va_D A (wX5 cI cZ cJ cA h0 a x1 x3 x4 x5 x6 x7 x9 x10 x14 x15 x16 x19 x20 x21 x22 x23 x24 x41 x42 f0 f2 f8 f11 f12 f13 f17 f18 f25 f26 f27 f28 f29 f30 f31 f32 f33 f34 f35 f36 f37 f38 f39 f40 f43)) (hS : va_S A s.heap H locs) (hl : lv_has ls 3 [(0, .ref h0)])
    (hret : ∀ (pc : Nat) (H : Heap) (locs : List Loc) (ls : Array Slot) (r : Int32), decode cX5_won pc = .ok (.ireturn, 1) → r = o → va_P (dC, dI) vwCl (wX5 cI cZ cJ cA h0 a x1 x3 x4 x5 x6 x7 x9 x10 x14 x15 x16 x19 x20 x21 x22 x23 x24 x41 x42 f0 f2 f8 f11 f12 f13 f17 f18 f25 f26 f27 f28 f29 f30 f31 f32 f33 f34 f35 f36 f37 f38 f39 f40 f43) H → va_D A (wX5 cI cZ cJ cA h0 a x1 x3 x4 x5 x6 x7 x9 x10 x14 x15 x16 x19 x20 x21 x22 x23 x24 x41 x42 f0 f2 f8 f11 f12 f13 f17 f18 f25 f26 f27 f28 f29 f30 f31 f32 f33 f34 f35 f36 f37 f38 f39 f40 f43) → va_S A s.heap H locs → W p l e R s m args below meth c H locs 0 0 Q (F0 m pc ls [.int r])) :
    W p l e R s m args below meth c H locs 0 0 Q (F0 m 0 ls []) := by
  obtain ⟨⟨hx, hb, hml, hown, hts⟩, hRf, hRl, hA, hN, hK⟩ := C0
  unfold q_X5_won at hf
  refine lv_iconst (v := (-1)) hx hb dX5_won_0 (by decide) ?_
  refine lv_istore_n (lv' := [(1, .int (-1)), (0, .ref h0)]) hx hb dX5_won_1 rfl hl (by decide) rfl (fun ls hl => ?_)
  refine lv_iconst (v := 0) hx hb dX5_won_2 (by decide) ?_
  refine lv_istore_n (lv' := [(2, .int 0), (1, .int (-1)), (0, .ref h0)]) hx hb dX5_won_3 rfl hl (by decide) rfl (fun ls hl => ?_)
  obtain ⟨t1, ht1, hf1⟩ := z_ib hf
  replace hf := hf1
  clear hf1
  refine b_X5_won_L4 N ⟨⟨hx, hb, hml, hown, hts⟩, hRf, hRl, hA, hN, hK⟩ N ht1 hP hD hS (lv_sub hl [2, 1, 0] rfl) (fun r3 e1 pc H locs ls r0 hd hr hP hD hS => ?_) (fun s2 H locs ls e1 hP hD hS hl => ?_)
  · subst e1
    have hf := z_sl hf
    obtain rfl := Option.some.inj hf
    exact hret pc H locs ls r0 hd hr hP hD hS
  subst e1
  replace hf := z_sr hf
  refine lv_aload_n hx hb dX5_won_82 rfl (lv_at hl 0 rfl) ?_
  refine va_get (D := (dC, dI)) (ci := 5) (v := .int x16) (C := RX5) (T := TX5) (N := 44) hx hb hts (fun w hw => List.mem_cons_of_mem _ (List.mem_append_right _ hw)) hown hK hP 0 rfl rfl 16 (by decide) (hts (.fieldLink RX5 151 "OldStadiumModel" "events" "I") (List.mem_of_getElem? (i := 4) rfl)) (fun _ h9 => h9) rfl dX5_won_83 ?_
  refine lv_iconst (v := 5) hx hb dX5_won_86 (by decide) ?_
  refine lv_icmp_ne (tgt := 94) hx hb dX5_won_87 (by decide) (fun c4 => ?_) (fun c4 => ?_)
  · replace hf := z_im hf c4
    refine lv_iconst (v := (-1)) hx hb dX5_won_94 (by decide) ?_
    obtain rfl := Option.some.inj hf
    exact hret _ _ _ _ _ dX5_won_95 rfl hP hD hS
  · replace hf := z_ip hf c4
    refine lv_iload_n hx hb dX5_won_90 rfl (lv_at hl 1 rfl) ?_
    refine lv_goto (tgt := 95) hx hb dX5_won_91 (by decide) ?_
    obtain rfl := Option.some.inj hf
    exact hret _ _ _ _ _ dX5_won_95 rfl hP hD hS
set_option maxHeartbeats 4000000 in
set_option maxRecDepth 100000 in
theorem k_X5_won (l : Launch) (dC : Nat → ClassId) (dI : Nat → Nat → Nat) (cI cZ cJ cA : ClassId) (h0 : Nat) (a : Nat → Nat) (sz : Nat) (N : Nat) (x1 : Int32) (x3 : Int32) (x4 : Int32) (x5 : Int32) (x6 : Int32) (x7 : Int32) (x9 : Int32) (x10 : Int32) (x14 : Int32) (x15 : Int32) (x16 : Int32) (x19 : Int32) (x20 : Int32) (x21 : Int32) (x22 : Int32) (x23 : Int32) (x24 : Int32) (x41 : Int32) (x42 : Int32) (f0 : (Nat → Int32)) (f2 : (Nat → Int32)) (f8 : (Nat → Int32)) (f11 : (Nat → Int32)) (f12 : (Nat → Int32)) (f13 : (Nat → Int32)) (f17 : (Nat → Int32)) (f18 : (Nat → Int32)) (f25 : (Nat → Int32)) (f26 : (Nat → Int32)) (f27 : (Nat → Int32)) (f28 : (Nat → Int32)) (f29 : (Nat → Int32)) (f30 : (Nat → Int32)) (f31 : (Nat → Int32)) (f32 : (Nat → Int32)) (f33 : (Nat → Int32)) (f34 : (Nat → Int32)) (f35 : (Nat → Int32)) (f36 : (Nat → Int32)) (f37 : (Nat → Int32)) (f38 : (Nat → Int32)) (f39 : (Nat → Int32)) (f40 : (Nat → Int32)) (f43 : (Nat → Int32)) (o : Int32) (hf : q_X5_won N x15 x16 f17 f18 = some o) : Met l yX5_won wsX5_won ({ frames := 0, cells := 0, slots := 0, locals := 0 } : Room) (z_Pre dC dI (z_ty cI cZ cJ cA) [.ref h0] sz (wX5 cI cZ cJ cA h0 a x1 x3 x4 x5 x6 x7 x9 x10 x14 x15 x16 x19 x20 x21 x22 x23 x24 x41 x42 f0 f2 f8 f11 f12 f13 f17 f18 f25 f26 f27 f28 f29 f30 f31 f32 f33 f34 f35 f36 f37 f38 f39 f40 f43)) (z_Pi dC dI o (wX5 cI cZ cJ cA h0 a x1 x3 x4 x5 x6 x7 x9 x10 x14 x15 x16 x19 x20 x21 x22 x23 x24 x41 x42 f0 f2 f8 f11 f12 f13 f17 f18 f25 f26 f27 f28 f29 f30 f31 f32 f33 f34 f35 f36 f37 f38 f39 f40 f43) sz (wX5 cI cZ cJ cA h0 a x1 x3 x4 x5 x6 x7 x9 x10 x14 x15 x16 x19 x20 x21 x22 x23 x24 x41 x42 f0 f2 f8 f11 f12 f13 f17 f18 f25 f26 f27 f28 f29 f30 f31 f32 f33 f34 f35 f36 f37 f38 f39 f40 f43)) 0 0 (va_A (wX5 cI cZ cJ cA h0 a x1 x3 x4 x5 x6 x7 x9 x10 x14 x15 x16 x19 x20 x21 x22 x23 x24 x41 x42 f0 f2 f8 f11 f12 f13 f17 f18 f25 f26 f27 f28 f29 f30 f31 f32 f33 f34 f35 f36 f37 f38 f39 f40 f43) sz) := by
  refine Met.ofW (cc := cX5_won) (maxL := 3) (ret := (some .int)) (by decide) rfl ?_
  intro p e s m args below meth c s₁ B hml hv
  obtain ⟨rfl, hsz, hP, hK, hD0, hN⟩ := hv
  subst hsz
  have hl := lv_entry ([.ref h0]) (n := 3) (Nat.le_of_ble_eq_true rfl)
  rw [lg_entry_eq]
  refine b_X5_won N ⟨⟨B.exec, B.bytes, hml, findClass_of_methodNamed B.named, atoms_spec (ws := wsX5_won) B.pre⟩, Nat.le_refl _, Nat.le_refl _, fun q h => Or.inr h, hN, hK⟩ hf hP hD0.self va_S.rf hl (fun pc H locs ls r hd hr hP hD hS => ?_)
  subst hr
  exact W.iret B.exec B.bytes B.returns (fun t ht hW => ⟨⟨_, (), rfl, rfl, by rw [ht]; exact hP, hD⟩, hS.F ht⟩) hS.2.2 hd
def q_X5_event_L28 (N : Nat) (x15 : Int32) (x16 : Int32) (f17 : (Nat → Int32)) (f18 : (Nat → Int32)) : Nat → Int32 → Int32 → Int32 → Option (Sum (Int32 × Int32 × (Nat → Int32) × (Nat → Int32)) Int32)
  | 0, _, _, _ => none
  | n + 1, v2, v3, v4 =>
    (if x15 ≤ v4 then
     (some (Sum.inr v2))
    else
     (if x15 ≤ (z_rem v2 10) then
      (some (Sum.inl ((-1), x16, f17, f18)))
     else
      (if ((v3 >>> ((z_rem v2 10) &&& 31)) &&& 1) = 1 then
       (some (Sum.inl ((-1), x16, f17, f18)))
      else
       (Option.bind (some ((v3 ||| ((1 : Int32) <<< ((z_rem v2 10) &&& 31))) : Int32)) (fun n4 =>
       (q_X5_event_L28 N x15 x16 f17 f18 n (v2 / 10) n4 (v4 + 1)))))))
set_option maxHeartbeats 4000000 in
set_option maxRecDepth 100000 in
theorem b_X5_event_L28 {p : Program} {l : Launch} {e : Env} {R : Room} {s : State} {m : MethodId} {args : Array Value} {below : List Frame} {meth : Method} {c : Code} {Q : State → Prop} {A : Nat → Prop} {dC : Nat → ClassId} {dI : Nat → Nat → Nat} {cI cZ cJ cA : ClassId} {h0 : Nat} {a : Nat → Nat} (N : Nat) (C0 : z_Cx p s m args c cX5_event 6 wsX5_event RX5 R 1 22 A dC dI (z_ty cI cZ cJ cA)) : ∀ (n : Nat) {v1 : Int32} {v2 : Int32} {v3 : Int32} {v4 : Int32} {x1 : Int32} {x3 : Int32} {x4 : Int32} {x5 : Int32} {x6 : Int32} {x7 : Int32} {x9 : Int32} {x10 : Int32} {x14 : Int32} {x15 : Int32} {x16 : Int32} {x19 : Int32} {x20 : Int32} {x21 : Int32} {x22 : Int32} {x23 : Int32} {x24 : Int32} {x41 : Int32} {x42 : Int32} {f0 : (Nat → Int32)} {f2 : (Nat → Int32)} {f8 : (Nat → Int32)} {f11 : (Nat → Int32)} {f12 : (Nat → Int32)} {f13 : (Nat → Int32)} {f17 : (Nat → Int32)} {f18 : (Nat → Int32)} {f25 : (Nat → Int32)} {f26 : (Nat → Int32)} {f27 : (Nat → Int32)} {f28 : (Nat → Int32)} {f29 : (Nat → Int32)} {f30 : (Nat → Int32)} {f31 : (Nat → Int32)} {f32 : (Nat → Int32)} {f33 : (Nat → Int32)} {f34 : (Nat → Int32)} {f35 : (Nat → Int32)} {f36 : (Nat → Int32)} {f37 : (Nat → Int32)} {f38 : (Nat → Int32)} {f39 : (Nat → Int32)} {f40 : (Nat → Int32)} {f43 : (Nat → Int32)} {o : (Sum (Int32 × Int32 × (Nat → Int32) × (Nat → Int32)) Int32)} {H : Heap} {locs : List Loc} {ls : Array Slot}, q_X5_event_L28 N x15 x16 f17 f18 n v2 v3 v4 = some o → va_P (dC, dI) vwCl (wX5 cI cZ cJ cA h0 a x1 x3 x4 x5 x6 x7 x9 x10 x14 x15 x16 x19 x20 x21 x22 x23 x24 x41 x42 f0 f2 f8 f11 f12 f13 f17 f18 f25 f26 f27 f28 f29 f30 f31 f32 f33 f34 f35 f36 f37 f38 f39 f40 f43) H → va_D A (wX5 cI cZ cJ cA h0 a x1 x3 x4 x5 x6 x7 x9 x10 x14 x15 x16 x19 x20 x21 x22 x23 x24 x41 x42 f0 f2 f8 f11 f12 f13 f17 f18 f25 f26 f27 f28 f29 f30 f31 f32 f33 f34 f35 f36 f37 f38 f39 f40 f43) → va_S A s.heap H locs → lv_has ls 6 [(0, .ref h0), (1, .int v1), (2, .int v2), (3, .int v3), (4, .int v4)] →
    (∀ (t : (Int32 × Int32 × (Nat → Int32) × (Nat → Int32))), o = Sum.inl t → ∀ (pc : Nat) (H : Heap) (locs : List Loc) (ls : Array Slot) (r : Int32), decode cX5_event pc = .ok (.ireturn, 1) → r = t.1 → va_P (dC, dI) vwCl (wX5 cI cZ cJ cA h0 a x1 x3 x4 x5 x6 x7 x9 x10 x14 x15 t.2.1 x19 x20 x21 x22 x23 x24 x41 x42 f0 f2 f8 f11 f12 f13 t.2.2.1 t.2.2.2 f25 f26 f27 f28 f29 f30 f31 f32 f33 f34 f35 f36 f37 f38 f39 f40 f43) H → va_D A (wX5 cI cZ cJ cA h0 a x1 x3 x4 x5 x6 x7 x9 x10 x14 x15 t.2.1 x19 x20 x21 x22 x23 x24 x41 x42 f0 f2 f8 f11 f12 f13 t.2.2.1 t.2.2.2 f25 f26 f27 f28 f29 f30 f31 f32 f33 f34 f35 f36 f37 f38 f39 f40 f43) → va_S A s.heap H locs → W p l e R s m args below meth c H locs 0 0 Q (F0 m pc ls [.int r])) →
    (∀ (t : Int32) (H : Heap) (locs : List Loc) (ls : Array Slot), o = Sum.inr t → va_P (dC, dI) vwCl (wX5 cI cZ cJ cA h0 a x1 x3 x4 x5 x6 x7 x9 x10 x14 x15 x16 x19 x20 x21 x22 x23 x24 x41 x42 f0 f2 f8 f11 f12 f13 f17 f18 f25 f26 f27 f28 f29 f30 f31 f32 f33 f34 f35 f36 f37 f38 f39 f40 f43) H → va_D A (wX5 cI cZ cJ cA h0 a x1 x3 x4 x5 x6 x7 x9 x10 x14 x15 x16 x19 x20 x21 x22 x23 x24 x41 x42 f0 f2 f8 f11 f12 f13 f17 f18 f25 f26 f27 f28 f29 f30 f31 f32 f33 f34 f35 f36 f37 f38 f39 f40 f43) → va_S A s.heap H locs → lv_has ls 6 [(0, .ref h0), (1, .int v1), (2, .int t)] → W p l e R s m args below meth c H locs 0 0 Q (F0 m 82 ls [])) →
    W p l e R s m args below meth c H locs 0 0 Q (F0 m 28 ls []) := by
  obtain ⟨⟨hx, hb, hml, hown, hts⟩, hRf, hRl, hA, hN, hK⟩ := C0
  intro n
  induction n with
  | zero =>
    intro v1 v2 v3 v4 x1 x3 x4 x5 x6 x7 x9 x10 x14 x15 x16 x19 x20 x21 x22 x23 x24 x41 x42 f0 f2 f8 f11 f12 f13 f17 f18 f25 f26 f27 f28 f29 f30 f31 f32 f33 f34 f35 f36 f37 f38 f39 f40 f43 o H locs ls hf
    cases hf
  | succ n ih =>
    intro v1 v2 v3 v4 x1 x3 x4 x5 x6 x7 x9 x10 x14 x15 x16 x19 x20 x21 x22 x23 x24 x41 x42 f0 f2 f8 f11 f12 f13 f17 f18 f25 f26 f27 f28 f29 f30 f31 f32 f33 f34 f35 f36 f37 f38 f39 f40 f43 o H locs ls hf hP hD hS hl hret hexit
    rw [q_X5_event_L28] at hf
    refine lv_iload hx hb dX5_event_28 (lv_at hl 4 rfl) ?_
    refine lv_aload_n hx hb dX5_event_30 rfl (lv_at hl 0 rfl) ?_
    refine va_get (D := (dC, dI)) (ci := 5) (v := .int x15) (C := RX5) (T := TX5) (N := 44) hx hb hts (fun w hw => List.mem_cons_of_mem _ (List.mem_append_right _ hw)) hown hK hP 0 rfl rfl 15 (by decide) (hts (.fieldLink RX5 148 "OldStadiumModel" "athletes" "I") (List.mem_of_getElem? (i := 1) rfl)) (fun _ h9 => h9) rfl dX5_event_31 ?_
    refine lv_icmp_ge (tgt := 82) hx hb dX5_event_34 (by decide) (fun c1 => ?_) (fun c1 => ?_)
    · replace hf := z_ip hf c1
      obtain rfl := Option.some.inj hf
      exact hexit _ _ _ _ rfl hP hD hS (lv_sub hl [0, 1, 2] rfl)
    · replace hf := z_im hf c1
      refine lv_iload_n hx hb dX5_event_37 rfl (lv_at hl 2 rfl) ?_
      refine lv_bipush (v := 10) hx hb dX5_event_38 (by decide) ?_
      refine z_irem hx hb dX5_event_40 (by decide) ?_
      refine lv_istore (lv' := [(5, .int (z_rem v2 10)), (0, .ref h0), (1, .int v1), (2, .int v2), (3, .int v3), (4, .int v4)]) hx hb dX5_event_41 hl (by decide) rfl (fun ls hl => ?_)
      refine lv_iload hx hb dX5_event_43 (lv_at hl 0 rfl) ?_
      refine lv_aload_n hx hb dX5_event_45 rfl (lv_at hl 1 rfl) ?_
      refine va_get (D := (dC, dI)) (ci := 5) (v := .int x15) (C := RX5) (T := TX5) (N := 44) hx hb hts (fun w hw => List.mem_cons_of_mem _ (List.mem_append_right _ hw)) hown hK hP 0 rfl rfl 15 (by decide) (hts (.fieldLink RX5 148 "OldStadiumModel" "athletes" "I") (List.mem_of_getElem? (i := 1) rfl)) (fun _ h9 => h9) rfl dX5_event_46 ?_
      refine lv_icmp_ge (tgt := 62) hx hb dX5_event_49 (by decide) (fun c2 => ?_) (fun c2 => ?_)
      · replace hf := z_ip hf c2
        refine lv_iconst (v := (-1)) hx hb dX5_event_62 (by decide) ?_
        obtain rfl := Option.some.inj hf
        exact hret _ rfl _ _ _ _ _ dX5_event_63 rfl hP hD hS
      · replace hf := z_im hf c2
        refine lv_iload_n hx hb dX5_event_52 rfl (lv_at hl 4 rfl) ?_
        refine lv_iload hx hb dX5_event_53 (lv_at hl 0 rfl) ?_
        refine lv_ishr hx hb dX5_event_55 ?_
        refine lv_iconst (v := 1) hx hb dX5_event_56 (by decide) ?_
        refine lv_iand hx hb dX5_event_57 ?_
        refine lv_iconst (v := 1) hx hb dX5_event_58 (by decide) ?_
        refine lv_icmp_ne (tgt := 64) hx hb dX5_event_59 (by decide) (fun c3 => ?_) (fun c3 => ?_)
        · replace hf := z_im hf c3
          refine lv_iload_n hx hb dX5_event_64 rfl (lv_at hl 4 rfl) ?_
          refine lv_iconst (v := 1) hx hb dX5_event_65 (by decide) ?_
          refine lv_iload hx hb dX5_event_66 (lv_at hl 0 rfl) ?_
          refine lv_ishl hx hb dX5_event_68 ?_
          refine lv_ior hx hb dX5_event_69 ?_
          obtain ⟨n4, hn4, hf1⟩ := z_ib hf
          replace hf := hf1
          clear hf1
          refine lv_topi (fun y9 ey9 => ?_)
          obtain rfl : n4 = y9 := (Option.some.inj hn4).symm.trans ey9.symm
          refine lv_istore_n (lv' := [(3, .int n4), (5, .int (z_rem v2 10)), (0, .ref h0), (1, .int v1), (2, .int v2), (4, .int v4)]) hx hb dX5_event_70 rfl hl (by decide) rfl (fun ls hl => ?_)
          refine lv_iload_n hx hb dX5_event_71 rfl (lv_at hl 4 rfl) ?_
          refine lv_bipush (v := 10) hx hb dX5_event_72 (by decide) ?_
          refine lv_idiv hx hb dX5_event_74 (by decide) ?_
          refine lv_istore_n (lv' := [(2, .int (v2 / 10)), (3, .int n4), (5, .int (z_rem v2 10)), (0, .ref h0), (1, .int v1), (4, .int v4)]) hx hb dX5_event_75 rfl hl (by decide) rfl (fun ls hl => ?_)
          refine lv_iinc (v := (v4 + 1)) (lv' := [(4, .int (v4 + 1)), (2, .int (v2 / 10)), (3, .int n4), (5, .int (z_rem v2 10)), (0, .ref h0), (1, .int v1)]) hx hb dX5_event_76 hl (k := 5) rfl rfl (by decide) rfl (fun ls hl => ?_)
          refine lv_goto (tgt := 28) hx hb dX5_event_79 (by decide) ?_
          exact ih hf hP hD hS (lv_sub hl [4, 5, 1, 2, 0] rfl) hret hexit
        · replace hf := z_ip hf c3
          refine lv_iconst (v := (-1)) hx hb dX5_event_62 (by decide) ?_
          obtain rfl := Option.some.inj hf
          exact hret _ rfl _ _ _ _ _ dX5_event_63 rfl hP hD hS
def q_X5_event_L93 (N : Nat) (x15 : Int32) : Nat → Int32 → Int32 → (Nat → Int32) → (Nat → Int32) → Option ((Nat → Int32) × (Nat → Int32))
  | 0, _, _, _, _ => none
  | n + 1, v2, v4, f17, f18 =>
    (if x15 ≤ v4 then
     (some (f17, f18))
    else
     (if v4 = 0 then
      (if z_in (z_rem v2 10) 4 then
      (Option.bind (some (((f17 (Int32.toNatClampNeg (z_rem v2 10))) + 1) : Int32)) (fun n6 =>
      (Option.bind (some (((f18 (Int32.toNatClampNeg (z_rem v2 10))) + (v4 + 1)) : Int32)) (fun n7 =>
      (q_X5_event_L93 N x15 n (v2 / 10) (v4 + 1) (upd f17 (Int32.toNatClampNeg (z_rem v2 10)) n6) (upd f18 (Int32.toNatClampNeg (z_rem v2 10)) n7))))))
      else none)
     else
      (if z_in (z_rem v2 10) 4 then
      (Option.bind (some (((f18 (Int32.toNatClampNeg (z_rem v2 10))) + (v4 + 1)) : Int32)) (fun n4 =>
      (q_X5_event_L93 N x15 n (v2 / 10) (v4 + 1) f17 (upd f18 (Int32.toNatClampNeg (z_rem v2 10)) n4))))
      else none)))
set_option maxHeartbeats 4000000 in
set_option maxRecDepth 100000 in
theorem b_X5_event_L93 {p : Program} {l : Launch} {e : Env} {R : Room} {s : State} {m : MethodId} {args : Array Value} {below : List Frame} {meth : Method} {c : Code} {Q : State → Prop} {A : Nat → Prop} {dC : Nat → ClassId} {dI : Nat → Nat → Nat} {cI cZ cJ cA : ClassId} {h0 : Nat} {a : Nat → Nat} (N : Nat) (C0 : z_Cx p s m args c cX5_event 6 wsX5_event RX5 R 1 22 A dC dI (z_ty cI cZ cJ cA)) : ∀ (n : Nat) {v2 : Int32} {v4 : Int32} {x1 : Int32} {x3 : Int32} {x4 : Int32} {x5 : Int32} {x6 : Int32} {x7 : Int32} {x9 : Int32} {x10 : Int32} {x14 : Int32} {x15 : Int32} {x16 : Int32} {x19 : Int32} {x20 : Int32} {x21 : Int32} {x22 : Int32} {x23 : Int32} {x24 : Int32} {x41 : Int32} {x42 : Int32} {f0 : (Nat → Int32)} {f2 : (Nat → Int32)} {f8 : (Nat → Int32)} {f11 : (Nat → Int32)} {f12 : (Nat → Int32)} {f13 : (Nat → Int32)} {f17 : (Nat → Int32)} {f18 : (Nat → Int32)} {f25 : (Nat → Int32)} {f26 : (Nat → Int32)} {f27 : (Nat → Int32)} {f28 : (Nat → Int32)} {f29 : (Nat → Int32)} {f30 : (Nat → Int32)} {f31 : (Nat → Int32)} {f32 : (Nat → Int32)} {f33 : (Nat → Int32)} {f34 : (Nat → Int32)} {f35 : (Nat → Int32)} {f36 : (Nat → Int32)} {f37 : (Nat → Int32)} {f38 : (Nat → Int32)} {f39 : (Nat → Int32)} {f40 : (Nat → Int32)} {f43 : (Nat → Int32)} {o : ((Nat → Int32) × (Nat → Int32))} {H : Heap} {locs : List Loc} {ls : Array Slot}, q_X5_event_L93 N x15 n v2 v4 f17 f18 = some o → va_P (dC, dI) vwCl (wX5 cI cZ cJ cA h0 a x1 x3 x4 x5 x6 x7 x9 x10 x14 x15 x16 x19 x20 x21 x22 x23 x24 x41 x42 f0 f2 f8 f11 f12 f13 f17 f18 f25 f26 f27 f28 f29 f30 f31 f32 f33 f34 f35 f36 f37 f38 f39 f40 f43) H → va_D A (wX5 cI cZ cJ cA h0 a x1 x3 x4 x5 x6 x7 x9 x10 x14 x15 x16 x19 x20 x21 x22 x23 x24 x41 x42 f0 f2 f8 f11 f12 f13 f17 f18 f25 f26 f27 f28 f29 f30 f31 f32 f33 f34 f35 f36 f37 f38 f39 f40 f43) → va_S A s.heap H locs → lv_has ls 6 [(0, .ref h0), (2, .int v2), (4, .int v4)] →
    (∀ (H : Heap) (locs : List Loc) (ls : Array Slot), va_P (dC, dI) vwCl (wX5 cI cZ cJ cA h0 a x1 x3 x4 x5 x6 x7 x9 x10 x14 x15 x16 x19 x20 x21 x22 x23 x24 x41 x42 f0 f2 f8 f11 f12 f13 o.1 o.2 f25 f26 f27 f28 f29 f30 f31 f32 f33 f34 f35 f36 f37 f38 f39 f40 f43) H → va_D A (wX5 cI cZ cJ cA h0 a x1 x3 x4 x5 x6 x7 x9 x10 x14 x15 x16 x19 x20 x21 x22 x23 x24 x41 x42 f0 f2 f8 f11 f12 f13 o.1 o.2 f25 f26 f27 f28 f29 f30 f31 f32 f33 f34 f35 f36 f37 f38 f39 f40 f43) → va_S A s.heap H locs → lv_has ls 6 [(0, .ref h0)] → W p l e R s m args below meth c H locs 0 0 Q (F0 m 149 ls [])) →
    W p l e R s m args below meth c H locs 0 0 Q (F0 m 93 ls []) := by
  obtain ⟨⟨hx, hb, hml, hown, hts⟩, hRf, hRl, hA, hN, hK⟩ := C0
  intro n
  induction n with
  | zero =>
    intro v2 v4 x1 x3 x4 x5 x6 x7 x9 x10 x14 x15 x16 x19 x20 x21 x22 x23 x24 x41 x42 f0 f2 f8 f11 f12 f13 f17 f18 f25 f26 f27 f28 f29 f30 f31 f32 f33 f34 f35 f36 f37 f38 f39 f40 f43 o H locs ls hf
    cases hf
  | succ n ih =>
    intro v2 v4 x1 x3 x4 x5 x6 x7 x9 x10 x14 x15 x16 x19 x20 x21 x22 x23 x24 x41 x42 f0 f2 f8 f11 f12 f13 f17 f18 f25 f26 f27 f28 f29 f30 f31 f32 f33 f34 f35 f36 f37 f38 f39 f40 f43 o H locs ls hf hP hD hS hl hexit
    rw [q_X5_event_L93] at hf
    refine lv_iload hx hb dX5_event_93 (lv_at hl 2 rfl) ?_
    refine lv_aload_n hx hb dX5_event_95 rfl (lv_at hl 0 rfl) ?_
    refine va_get (D := (dC, dI)) (ci := 5) (v := .int x15) (C := RX5) (T := TX5) (N := 44) hx hb hts (fun w hw => List.mem_cons_of_mem _ (List.mem_append_right _ hw)) hown hK hP 0 rfl rfl 15 (by decide) (hts (.fieldLink RX5 148 "OldStadiumModel" "athletes" "I") (List.mem_of_getElem? (i := 1) rfl)) (fun _ h9 => h9) rfl dX5_event_96 ?_
    refine lv_icmp_ge (tgt := 149) hx hb dX5_event_99 (by decide) (fun c1 => ?_) (fun c1 => ?_)
    · replace hf := z_ip hf c1
      obtain rfl := Option.some.inj hf
      exact hexit _ _ _ hP hD hS (lv_sub hl [0] rfl)
    · replace hf := z_im hf c1
      refine lv_iload_n hx hb dX5_event_102 rfl (lv_at hl 1 rfl) ?_
      refine lv_bipush (v := 10) hx hb dX5_event_103 (by decide) ?_
      refine z_irem hx hb dX5_event_105 (by decide) ?_
      refine lv_istore (lv' := [(5, .int (z_rem v2 10)), (0, .ref h0), (2, .int v2), (4, .int v4)]) hx hb dX5_event_106 hl (by decide) rfl (fun ls hl => ?_)
      refine lv_iload hx hb dX5_event_108 (lv_at hl 3 rfl) ?_
      refine lv_if_ne (tgt := 124) hx hb dX5_event_110 (by decide) (fun c2 => ?_) (fun c2 => ?_)
      · replace hf := z_im hf c2
        refine lv_aload_n hx hb dX5_event_124 rfl (lv_at hl 1 rfl) ?_
        refine va_get (D := (dC, dI)) (ci := 5) (v := .ref (a 18)) (C := RX5) (T := TX5) (N := 44) hx hb hts (fun w hw => List.mem_cons_of_mem _ (List.mem_append_right _ hw)) hown hK hP 0 rfl rfl 18 (by decide) (hts (.fieldLink RX5 39 "OldStadiumModel" "sums" "[I") (List.mem_of_getElem? (i := 3) rfl)) (fun _ h9 => h9) rfl dX5_event_125 ?_
        refine lv_iload hx hb dX5_event_128 (lv_at hl 0 rfl) ?_
        refine lv_dup2_11 hx hb dX5_event_130 rfl rfl ?_
        have b3 := z_c1 hf
        replace hf := z_c2 hf
        refine va_iald hx hb hK hP 8 0 rfl rfl b3 dX5_event_131 ?_
        refine lv_iload hx hb dX5_event_132 (lv_at hl 3 rfl) ?_
        refine lv_iconst (v := 1) hx hb dX5_event_134 (by decide) ?_
        refine lv_iadd hx hb dX5_event_135 ?_
        refine lv_iadd hx hb dX5_event_136 ?_
        obtain ⟨n4, hn4, hf1⟩ := z_ib hf
        replace hf := hf1
        clear hf1
        refine lv_topi (fun y9 ey9 => ?_)
        obtain rfl : n4 = y9 := (Option.some.inj hn4).symm.trans ey9.symm
        refine va_iast hx hb hK hP hD hS 8 0 rfl rfl b3 dX5_event_137 (fun H locs hP hD hS => ?_)
        replace hP : va_P (dC, dI) vwCl (wX5 cI cZ cJ cA h0 a x1 x3 x4 x5 x6 x7 x9 x10 x14 x15 x16 x19 x20 x21 x22 x23 x24 x41 x42 f0 f2 f8 f11 f12 f13 f17 (upd f18 (Int32.toNatClampNeg (z_rem v2 10)) n4) f25 f26 f27 f28 f29 f30 f31 f32 f33 f34 f35 f36 f37 f38 f39 f40 f43) H := hP
        replace hD : va_D A (wX5 cI cZ cJ cA h0 a x1 x3 x4 x5 x6 x7 x9 x10 x14 x15 x16 x19 x20 x21 x22 x23 x24 x41 x42 f0 f2 f8 f11 f12 f13 f17 (upd f18 (Int32.toNatClampNeg (z_rem v2 10)) n4) f25 f26 f27 f28 f29 f30 f31 f32 f33 f34 f35 f36 f37 f38 f39 f40 f43) := hD
        refine lv_iload_n hx hb dX5_event_138 rfl (lv_at hl 2 rfl) ?_
        refine lv_bipush (v := 10) hx hb dX5_event_139 (by decide) ?_
        refine lv_idiv hx hb dX5_event_141 (by decide) ?_
        refine lv_istore_n (lv' := [(2, .int (v2 / 10)), (5, .int (z_rem v2 10)), (0, .ref h0), (4, .int v4)]) hx hb dX5_event_142 rfl hl (by decide) rfl (fun ls hl => ?_)
        refine lv_iinc (v := (v4 + 1)) (lv' := [(4, .int (v4 + 1)), (2, .int (v2 / 10)), (5, .int (z_rem v2 10)), (0, .ref h0)]) hx hb dX5_event_143 hl (k := 3) rfl rfl (by decide) rfl (fun ls hl => ?_)
        refine lv_goto (tgt := 93) hx hb dX5_event_146 (by decide) ?_
        exact ih hf hP hD hS (lv_sub hl [3, 1, 0] rfl) hexit
      · replace hf := z_ip hf c2
        refine lv_aload_n hx hb dX5_event_113 rfl (lv_at hl 1 rfl) ?_
        refine va_get (D := (dC, dI)) (ci := 5) (v := .ref (a 17)) (C := RX5) (T := TX5) (N := 44) hx hb hts (fun w hw => List.mem_cons_of_mem _ (List.mem_append_right _ hw)) hown hK hP 0 rfl rfl 17 (by decide) (hts (.fieldLink RX5 36 "OldStadiumModel" "wins" "[I") (List.mem_of_getElem? (i := 2) rfl)) (fun _ h9 => h9) rfl dX5_event_114 ?_
        refine lv_iload hx hb dX5_event_117 (lv_at hl 0 rfl) ?_
        refine lv_dup2_11 hx hb dX5_event_119 rfl rfl ?_
        have b5 := z_c1 hf
        replace hf := z_c2 hf
        refine va_iald hx hb hK hP 7 0 rfl rfl b5 dX5_event_120 ?_
        refine lv_iconst (v := 1) hx hb dX5_event_121 (by decide) ?_
        refine lv_iadd hx hb dX5_event_122 ?_
        obtain ⟨n6, hn6, hf1⟩ := z_ib hf
        replace hf := hf1
        clear hf1
        refine lv_topi (fun y9 ey9 => ?_)
        obtain rfl : n6 = y9 := (Option.some.inj hn6).symm.trans ey9.symm
        refine va_iast hx hb hK hP hD hS 7 0 rfl rfl b5 dX5_event_123 (fun H locs hP hD hS => ?_)
        replace hP : va_P (dC, dI) vwCl (wX5 cI cZ cJ cA h0 a x1 x3 x4 x5 x6 x7 x9 x10 x14 x15 x16 x19 x20 x21 x22 x23 x24 x41 x42 f0 f2 f8 f11 f12 f13 (upd f17 (Int32.toNatClampNeg (z_rem v2 10)) n6) f18 f25 f26 f27 f28 f29 f30 f31 f32 f33 f34 f35 f36 f37 f38 f39 f40 f43) H := hP
        replace hD : va_D A (wX5 cI cZ cJ cA h0 a x1 x3 x4 x5 x6 x7 x9 x10 x14 x15 x16 x19 x20 x21 x22 x23 x24 x41 x42 f0 f2 f8 f11 f12 f13 (upd f17 (Int32.toNatClampNeg (z_rem v2 10)) n6) f18 f25 f26 f27 f28 f29 f30 f31 f32 f33 f34 f35 f36 f37 f38 f39 f40 f43) := hD
        refine lv_aload_n hx hb dX5_event_124 rfl (lv_at hl 1 rfl) ?_
        refine va_get (D := (dC, dI)) (ci := 5) (v := .ref (a 18)) (C := RX5) (T := TX5) (N := 44) hx hb hts (fun w hw => List.mem_cons_of_mem _ (List.mem_append_right _ hw)) hown hK hP 0 rfl rfl 18 (by decide) (hts (.fieldLink RX5 39 "OldStadiumModel" "sums" "[I") (List.mem_of_getElem? (i := 3) rfl)) (fun _ h9 => h9) rfl dX5_event_125 ?_
        refine lv_iload hx hb dX5_event_128 (lv_at hl 0 rfl) ?_
        refine lv_dup2_11 hx hb dX5_event_130 rfl rfl ?_
        refine va_iald hx hb hK hP 8 0 rfl rfl b5 dX5_event_131 ?_
        refine lv_iload hx hb dX5_event_132 (lv_at hl 3 rfl) ?_
        refine lv_iconst (v := 1) hx hb dX5_event_134 (by decide) ?_
        refine lv_iadd hx hb dX5_event_135 ?_
        refine lv_iadd hx hb dX5_event_136 ?_
        obtain ⟨n7, hn7, hf1⟩ := z_ib hf
        replace hf := hf1
        clear hf1
        refine lv_topi (fun y9 ey9 => ?_)
        obtain rfl : n7 = y9 := (Option.some.inj hn7).symm.trans ey9.symm
        refine va_iast hx hb hK hP hD hS 8 0 rfl rfl b5 dX5_event_137 (fun H locs hP hD hS => ?_)
        replace hP : va_P (dC, dI) vwCl (wX5 cI cZ cJ cA h0 a x1 x3 x4 x5 x6 x7 x9 x10 x14 x15 x16 x19 x20 x21 x22 x23 x24 x41 x42 f0 f2 f8 f11 f12 f13 (upd f17 (Int32.toNatClampNeg (z_rem v2 10)) n6) (upd f18 (Int32.toNatClampNeg (z_rem v2 10)) n7) f25 f26 f27 f28 f29 f30 f31 f32 f33 f34 f35 f36 f37 f38 f39 f40 f43) H := hP
        replace hD : va_D A (wX5 cI cZ cJ cA h0 a x1 x3 x4 x5 x6 x7 x9 x10 x14 x15 x16 x19 x20 x21 x22 x23 x24 x41 x42 f0 f2 f8 f11 f12 f13 (upd f17 (Int32.toNatClampNeg (z_rem v2 10)) n6) (upd f18 (Int32.toNatClampNeg (z_rem v2 10)) n7) f25 f26 f27 f28 f29 f30 f31 f32 f33 f34 f35 f36 f37 f38 f39 f40 f43) := hD
        refine lv_iload_n hx hb dX5_event_138 rfl (lv_at hl 2 rfl) ?_
        refine lv_bipush (v := 10) hx hb dX5_event_139 (by decide) ?_
        refine lv_idiv hx hb dX5_event_141 (by decide) ?_
        refine lv_istore_n (lv' := [(2, .int (v2 / 10)), (5, .int (z_rem v2 10)), (0, .ref h0), (4, .int v4)]) hx hb dX5_event_142 rfl hl (by decide) rfl (fun ls hl => ?_)
        refine lv_iinc (v := (v4 + 1)) (lv' := [(4, .int (v4 + 1)), (2, .int (v2 / 10)), (5, .int (z_rem v2 10)), (0, .ref h0)]) hx hb dX5_event_143 hl (k := 3) rfl rfl (by decide) rfl (fun ls hl => ?_)
        refine lv_goto (tgt := 93) hx hb dX5_event_146 (by decide) ?_
        exact ih hf hP hD hS (lv_sub hl [3, 1, 0] rfl) hexit
def q_X5_event (N : Nat) (v1 : Int32) (x15 : Int32) (x16 : Int32) (f17 : (Nat → Int32)) (f18 : (Nat → Int32)) : Option (Int32 × Int32 × (Nat → Int32) × (Nat → Int32)) :=
  (if x15 = 0 then
   (some ((-1), x16, f17, f18))
  else
   (Option.bind (q_X5_won N x15 x16 f17 f18) (fun o2 =>
   (if o2 = (-1) then
    (if 0 ≤ v1 then
     (Option.bind (q_X5_event_L28 N x15 x16 f17 f18 N v1 0 0) (Sum.elim (fun r7 => (some r7)) (fun s6 =>
     (if s6 ≤ 0 then
      (Option.bind (q_X5_event_L93 N x15 N v1 0 f17 f18) (fun t9 =>
      (some ((x16 + 1), (x16 + 1), t9.1, t9.2))))
     else
      (some ((-1), x16, f17, f18))))))
    else
     (some ((-1), x16, f17, f18)))
   else
    (some ((-1), x16, f17, f18))))))
set_option maxHeartbeats 4000000 in
set_option maxRecDepth 100000 in
theorem b_X5_event {p : Program} {l : Launch} {e : Env} {R : Room} {s : State} {m : MethodId} {args : Array Value} {below : List Frame} {meth : Method} {c : Code} {Q : State → Prop} {A : Nat → Prop} {dC : Nat → ClassId} {dI : Nat → Nat → Nat} {cI cZ cJ cA : ClassId} {h0 : Nat} {a : Nat → Nat} (N : Nat) (C0 : z_Cx p s m args c cX5_event 6 wsX5_event RX5 R 1 22 A dC dI (z_ty cI cZ cJ cA)) {v1 : Int32} {x1 : Int32} {x3 : Int32} {x4 : Int32} {x5 : Int32} {x6 : Int32} {x7 : Int32} {x9 : Int32} {x10 : Int32} {x14 : Int32} {x15 : Int32} {x16 : Int32} {x19 : Int32} {x20 : Int32} {x21 : Int32} {x22 : Int32} {x23 : Int32} {x24 : Int32} {x41 : Int32} {x42 : Int32} {f0 : (Nat → Int32)} {f2 : (Nat → Int32)} {f8 : (Nat → Int32)} {f11 : (Nat → Int32)} {f12 : (Nat → Int32)} {f13 : (Nat → Int32)} {f17 : (Nat → Int32)} {f18 : (Nat → Int32)} {f25 : (Nat → Int32)} {f26 : (Nat → Int32)} {f27 : (Nat → Int32)} {f28 : (Nat → Int32)} {f29 : (Nat → Int32)} {f30 : (Nat → Int32)} {f31 : (Nat → Int32)} {f32 : (Nat → Int32)} {f33 : (Nat → Int32)} {f34 : (Nat → Int32)} {f35 : (Nat → Int32)} {f36 : (Nat → Int32)} {f37 : (Nat → Int32)} {f38 : (Nat → Int32)} {f39 : (Nat → Int32)} {f40 : (Nat → Int32)} {f43 : (Nat → Int32)} {o : (Int32 × Int32 × (Nat → Int32) × (Nat → Int32))} {H : Heap} {locs : List Loc} {ls : Array Slot} (hf : q_X5_event N v1 x15 x16 f17 f18 = some o) (hP : va_P (dC, dI) vwCl (wX5 cI cZ cJ cA h0 a x1 x3 x4 x5 x6 x7 x9 x10 x14 x15 x16 x19 x20 x21 x22 x23 x24 x41 x42 f0 f2 f8 f11 f12 f13 f17 f18 f25 f26 f27 f28 f29 f30 f31 f32 f33 f34 f35 f36 f37 f38 f39 f40 f43) H) (hD : va_D A (wX5 cI cZ cJ cA h0 a x1 x3 x4 x5 x6 x7 x9 x10 x14 x15 x16 x19 x20 x21 x22 x23 x24 x41 x42 f0 f2 f8 f11 f12 f13 f17 f18 f25 f26 f27 f28 f29 f30 f31 f32 f33 f34 f35 f36 f37 f38 f39 f40 f43)) (hS : va_S A s.heap H locs) (hl : lv_has ls 6 [(0, .ref h0), (1, .int v1)])
    (hret : ∀ (pc : Nat) (H : Heap) (locs : List Loc) (ls : Array Slot) (r : Int32), decode cX5_event pc = .ok (.ireturn, 1) → r = o.1 → va_P (dC, dI) vwCl (wX5 cI cZ cJ cA h0 a x1 x3 x4 x5 x6 x7 x9 x10 x14 x15 o.2.1 x19 x20 x21 x22 x23 x24 x41 x42 f0 f2 f8 f11 f12 f13 o.2.2.1 o.2.2.2 f25 f26 f27 f28 f29 f30 f31 f32 f33 f34 f35 f36 f37 f38 f39 f40 f43) H → va_D A (wX5 cI cZ cJ cA h0 a x1 x3 x4 x5 x6 x7 x9 x10 x14 x15 o.2.1 x19 x20 x21 x22 x23 x24 x41 x42 f0 f2 f8 f11 f12 f13 o.2.2.1 o.2.2.2 f25 f26 f27 f28 f29 f30 f31 f32 f33 f34 f35 f36 f37 f38 f39 f40 f43) → va_S A s.heap H locs → W p l e R s m args below meth c H locs 0 0 Q (F0 m pc ls [.int r])) :
    W p l e R s m args below meth c H locs 0 0 Q (F0 m 0 ls []) := by
  obtain ⟨⟨hx, hb, hml, hown, hts⟩, hRf, hRl, hA, hN, hK⟩ := C0
  unfold q_X5_event at hf
  refine lv_aload_n hx hb dX5_event_0 rfl (lv_at hl 0 rfl) ?_
  refine va_get (D := (dC, dI)) (ci := 5) (v := .int x15) (C := RX5) (T := TX5) (N := 44) hx hb hts (fun w hw => List.mem_cons_of_mem _ (List.mem_append_right _ hw)) hown hK hP 0 rfl rfl 15 (by decide) (hts (.fieldLink RX5 148 "OldStadiumModel" "athletes" "I") (List.mem_of_getElem? (i := 1) rfl)) (fun _ h9 => h9) rfl dX5_event_1 ?_
  refine lv_if_eq (tgt := 19) hx hb dX5_event_4 (by decide) (fun c1 => ?_) (fun c1 => ?_)
  · replace hf := z_ip hf c1
    refine lv_iconst (v := (-1)) hx hb dX5_event_19 (by decide) ?_
    obtain rfl := Option.some.inj hf
    exact hret _ _ _ _ _ dX5_event_20 rfl hP hD hS
  · replace hf := z_im hf c1
    refine lv_aload_n hx hb dX5_event_7 rfl (lv_at hl 0 rfl) ?_
    obtain ⟨o2, ho2, hf1⟩ := z_ib hf
    replace hf := hf1
    clear hf1
    refine z_Vi (As := []) (rest := []) (w := (wX5 cI cZ cJ cA h0 a x1 x3 x4 x5 x6 x7 x9 x10 x14 x15 x16 x19 x20 x21 x22 x23 x24 x41 x42 f0 f2 f8 f11 f12 f13 f17 f18 f25 f26 f27 f28 f29 f30 f31 f32 f33 f34 f35 f36 f37 f38 f39 f40 f43)) (w1 := (wX5 cI cZ cJ cA h0 a x1 x3 x4 x5 x6 x7 x9 x10 x14 x15 x16 x19 x20 x21 x22 x23 x24 x41 x42 f0 f2 f8 f11 f12 f13 f17 f18 f25 f26 f27 f28 f29 f30 f31 f32 f33 f34 f35 f36 f37 f38 f39 f40 f43)) ⟨hx, hb, hml, hown, hts⟩ (k_X5_won l dC dI cI cZ cJ cA h0 a H.size N x1 x3 x4 x5 x6 x7 x9 x10 x14 x15 x16 x19 x20 x21 x22 x23 x24 x41 x42 f0 f2 f8 f11 f12 f13 f17 f18 f25 f26 f27 f28 f29 f30 f31 f32 f33 f34 f35 f36 f37 f38 f39 f40 f43 o2 ho2) (cwV 0 hts gX5_event_X5_won rfl rfl rfl (by decide +kernel) ⟨Nat.le_trans (Nat.le_of_ble_eq_true rfl) hRf, Nat.le_trans (Nat.le_of_ble_eq_true rfl) hRl⟩) hK hP hD hS hA hN (ci := 5) rfl rfl rfl rfl hl.1 rfl (Nat.le_of_ble_eq_true rfl) dX5_event_8 (fun H locs hP hD hS => ?_)
    refine lv_iconst (v := (-1)) hx hb dX5_event_11 (by decide) ?_
    refine lv_icmp_ne (tgt := 19) hx hb dX5_event_12 (by decide) (fun c3 => ?_) (fun c3 => ?_)
    · replace hf := z_im hf c3
      refine lv_iconst (v := (-1)) hx hb dX5_event_19 (by decide) ?_
      obtain rfl := Option.some.inj hf
      exact hret _ _ _ _ _ dX5_event_20 rfl hP hD hS
    · replace hf := z_ip hf c3
      refine lv_iload_n hx hb dX5_event_15 rfl (lv_at hl 1 rfl) ?_
      refine lv_if_ge (tgt := 21) hx hb dX5_event_16 (by decide) (fun c4 => ?_) (fun c4 => ?_)
      · replace hf := z_ip hf c4
        refine lv_iload_n hx hb dX5_event_21 rfl (lv_at hl 1 rfl) ?_
        refine lv_istore_n (lv' := [(2, .int v1), (0, .ref h0), (1, .int v1)]) hx hb dX5_event_22 rfl hl (by decide) rfl (fun ls hl => ?_)
        refine lv_iconst (v := 0) hx hb dX5_event_23 (by decide) ?_
        refine lv_istore_n (lv' := [(3, .int 0), (2, .int v1), (0, .ref h0), (1, .int v1)]) hx hb dX5_event_24 rfl hl (by decide) rfl (fun ls hl => ?_)
        refine lv_iconst (v := 0) hx hb dX5_event_25 (by decide) ?_
        refine lv_istore (lv' := [(4, .int 0), (3, .int 0), (2, .int v1), (0, .ref h0), (1, .int v1)]) hx hb dX5_event_26 hl (by decide) rfl (fun ls hl => ?_)
        obtain ⟨t5, ht5, hf1⟩ := z_ib hf
        replace hf := hf1
        clear hf1
        refine b_X5_event_L28 N ⟨⟨hx, hb, hml, hown, hts⟩, hRf, hRl, hA, hN, hK⟩ N ht5 hP hD hS (lv_sub hl [3, 4, 2, 1, 0] rfl) (fun r7 e1 pc H locs ls r0 hd hr hP hD hS => ?_) (fun s6 H locs ls e1 hP hD hS hl => ?_)
        · subst e1
          have hf := z_sl hf
          obtain rfl := Option.some.inj hf
          exact hret pc H locs ls r0 hd hr hP hD hS
        subst e1
        replace hf := z_sr hf
        refine lv_iload_n hx hb dX5_event_82 rfl (lv_at hl 2 rfl) ?_
        refine lv_if_le (tgt := 88) hx hb dX5_event_83 (by decide) (fun c8 => ?_) (fun c8 => ?_)
        · replace hf := z_ip hf c8
          refine lv_iload_n hx hb dX5_event_88 rfl (lv_at hl 1 rfl) ?_
          refine lv_istore_n (lv' := [(2, .int v1), (0, .ref h0), (1, .int v1)]) hx hb dX5_event_89 rfl hl (by decide) rfl (fun ls hl => ?_)
          refine lv_iconst (v := 0) hx hb dX5_event_90 (by decide) ?_
          refine lv_istore (lv' := [(4, .int 0), (2, .int v1), (0, .ref h0), (1, .int v1)]) hx hb dX5_event_91 hl (by decide) rfl (fun ls hl => ?_)
          obtain ⟨t9, ht9, hf1⟩ := z_ib hf
          replace hf := hf1
          clear hf1
          refine b_X5_event_L93 N ⟨⟨hx, hb, hml, hown, hts⟩, hRf, hRl, hA, hN, hK⟩ N ht9 hP hD hS (lv_sub hl [2, 1, 0] rfl) (fun H locs ls hP hD hS hl => ?_)
          refine lv_aload_n hx hb dX5_event_149 rfl (lv_at hl 0 rfl) ?_
          refine lv_dup hx hb dX5_event_150 rfl ?_
          refine va_get (D := (dC, dI)) (ci := 5) (v := .int x16) (C := RX5) (T := TX5) (N := 44) hx hb hts (fun w hw => List.mem_cons_of_mem _ (List.mem_append_right _ hw)) hown hK hP 0 rfl rfl 16 (by decide) (hts (.fieldLink RX5 151 "OldStadiumModel" "events" "I") (List.mem_of_getElem? (i := 4) rfl)) (fun _ h9 => h9) rfl dX5_event_151 ?_
          refine lv_iconst (v := 1) hx hb dX5_event_154 (by decide) ?_
          refine lv_iadd hx hb dX5_event_155 ?_
          refine va_put (D := (dC, dI)) (ci := 5) (v := .int (x16 + 1)) (ty := .int) (C := RX5) (T := TX5) (N := 44) hx hb hts (fun w hw => List.mem_cons_of_mem _ (List.mem_append_right _ hw)) tyX5 tyX5_ok nmX5 hown hK hP hD hS 0 rfl rfl 16 (by decide) (hts (.fieldLink RX5 151 "OldStadiumModel" "events" "I") (List.mem_of_getElem? (i := 4) rfl)) (fun _ h9 => h9) rfl (by decide +kernel) rfl rfl (Nat.le_of_ble_eq_true rfl) dX5_event_156 (fun H locs hP hD hS => ?_)
          replace hP : va_P (dC, dI) vwCl (wX5 cI cZ cJ cA h0 a x1 x3 x4 x5 x6 x7 x9 x10 x14 x15 (x16 + 1) x19 x20 x21 x22 x23 x24 x41 x42 f0 f2 f8 f11 f12 f13 t9.1 t9.2 f25 f26 f27 f28 f29 f30 f31 f32 f33 f34 f35 f36 f37 f38 f39 f40 f43) H := hP
          replace hD : va_D A (wX5 cI cZ cJ cA h0 a x1 x3 x4 x5 x6 x7 x9 x10 x14 x15 (x16 + 1) x19 x20 x21 x22 x23 x24 x41 x42 f0 f2 f8 f11 f12 f13 t9.1 t9.2 f25 f26 f27 f28 f29 f30 f31 f32 f33 f34 f35 f36 f37 f38 f39 f40 f43) := hD
          refine lv_aload_n hx hb dX5_event_159 rfl (lv_at hl 0 rfl) ?_
          refine va_get (D := (dC, dI)) (ci := 5) (v := .int (x16 + 1)) (C := RX5) (T := TX5) (N := 44) hx hb hts (fun w hw => List.mem_cons_of_mem _ (List.mem_append_right _ hw)) hown hK hP 0 rfl rfl 16 (by decide) (hts (.fieldLink RX5 151 "OldStadiumModel" "events" "I") (List.mem_of_getElem? (i := 4) rfl)) (fun _ h9 => h9) rfl dX5_event_160 ?_
          obtain rfl := Option.some.inj hf
          exact hret _ _ _ _ _ dX5_event_163 rfl hP hD hS
        · replace hf := z_im hf c8
          refine lv_iconst (v := (-1)) hx hb dX5_event_86 (by decide) ?_
          obtain rfl := Option.some.inj hf
          exact hret _ _ _ _ _ dX5_event_87 rfl hP hD hS
      · replace hf := z_im hf c4
        refine lv_iconst (v := (-1)) hx hb dX5_event_19 (by decide) ?_
        obtain rfl := Option.some.inj hf
        exact hret _ _ _ _ _ dX5_event_20 rfl hP hD hS
set_option maxHeartbeats 4000000 in
set_option maxRecDepth 100000 in
theorem k_X5_event (l : Launch) (dC : Nat → ClassId) (dI : Nat → Nat → Nat) (cI cZ cJ cA : ClassId) (h0 : Nat) (a : Nat → Nat) (sz : Nat) (N : Nat) (v1 : Int32) (x1 : Int32) (x3 : Int32) (x4 : Int32) (x5 : Int32) (x6 : Int32) (x7 : Int32) (x9 : Int32) (x10 : Int32) (x14 : Int32) (x15 : Int32) (x16 : Int32) (x19 : Int32) (x20 : Int32) (x21 : Int32) (x22 : Int32) (x23 : Int32) (x24 : Int32) (x41 : Int32) (x42 : Int32) (f0 : (Nat → Int32)) (f2 : (Nat → Int32)) (f8 : (Nat → Int32)) (f11 : (Nat → Int32)) (f12 : (Nat → Int32)) (f13 : (Nat → Int32)) (f17 : (Nat → Int32)) (f18 : (Nat → Int32)) (f25 : (Nat → Int32)) (f26 : (Nat → Int32)) (f27 : (Nat → Int32)) (f28 : (Nat → Int32)) (f29 : (Nat → Int32)) (f30 : (Nat → Int32)) (f31 : (Nat → Int32)) (f32 : (Nat → Int32)) (f33 : (Nat → Int32)) (f34 : (Nat → Int32)) (f35 : (Nat → Int32)) (f36 : (Nat → Int32)) (f37 : (Nat → Int32)) (f38 : (Nat → Int32)) (f39 : (Nat → Int32)) (f40 : (Nat → Int32)) (f43 : (Nat → Int32)) (o : (Int32 × Int32 × (Nat → Int32) × (Nat → Int32))) (hf : q_X5_event N v1 x15 x16 f17 f18 = some o) : Met l yX5_event wsX5_event ({ frames := 1, cells := 0, slots := 0, locals := 22 } : Room) (z_Pre dC dI (z_ty cI cZ cJ cA) [.ref h0, .int v1] sz (wX5 cI cZ cJ cA h0 a x1 x3 x4 x5 x6 x7 x9 x10 x14 x15 x16 x19 x20 x21 x22 x23 x24 x41 x42 f0 f2 f8 f11 f12 f13 f17 f18 f25 f26 f27 f28 f29 f30 f31 f32 f33 f34 f35 f36 f37 f38 f39 f40 f43)) (z_Pi dC dI o.1 (wX5 cI cZ cJ cA h0 a x1 x3 x4 x5 x6 x7 x9 x10 x14 x15 o.2.1 x19 x20 x21 x22 x23 x24 x41 x42 f0 f2 f8 f11 f12 f13 o.2.2.1 o.2.2.2 f25 f26 f27 f28 f29 f30 f31 f32 f33 f34 f35 f36 f37 f38 f39 f40 f43) sz (wX5 cI cZ cJ cA h0 a x1 x3 x4 x5 x6 x7 x9 x10 x14 x15 x16 x19 x20 x21 x22 x23 x24 x41 x42 f0 f2 f8 f11 f12 f13 f17 f18 f25 f26 f27 f28 f29 f30 f31 f32 f33 f34 f35 f36 f37 f38 f39 f40 f43)) 0 0 (va_A (wX5 cI cZ cJ cA h0 a x1 x3 x4 x5 x6 x7 x9 x10 x14 x15 x16 x19 x20 x21 x22 x23 x24 x41 x42 f0 f2 f8 f11 f12 f13 f17 f18 f25 f26 f27 f28 f29 f30 f31 f32 f33 f34 f35 f36 f37 f38 f39 f40 f43) sz) := by
  refine Met.ofW (cc := cX5_event) (maxL := 6) (ret := (some .int)) (by decide) rfl ?_
  intro p e s m args below meth c s₁ B hml hv
  obtain ⟨rfl, hsz, hP, hK, hD0, hN⟩ := hv
  subst hsz
  have hl := lv_entry ([.ref h0, .int v1]) (n := 6) (Nat.le_of_ble_eq_true rfl)
  rw [lg_entry_eq]
  refine b_X5_event N ⟨⟨B.exec, B.bytes, hml, findClass_of_methodNamed B.named, atoms_spec (ws := wsX5_event) B.pre⟩, Nat.le_refl _, Nat.le_refl _, fun q h => Or.inr h, hN, hK⟩ hf hP hD0.self va_S.rf hl (fun pc H locs ls r hd hr hP hD hS => ?_)
  subst hr
  exact W.iret B.exec B.bytes B.returns (fun t ht hW => ⟨⟨_, (), rfl, rfl, by rw [ht]; exact hP, hD⟩, hS.F ht⟩) hS.2.2 hd
def q_X5_can_L49 (N : Nat) (v1 : Int32) (v3 : Int32) (v4 : Int32) (x15 : Int32) (f17 : (Nat → Int32)) (f18 : (Nat → Int32)) : Nat → Int32 → Option (Sum Int32 Unit)
  | 0, _ => none
  | n + 1, v5 =>
    (if x15 ≤ v5 then
     (some (Sum.inr ()))
    else
     (if v5 = v1 then
      (q_X5_can_L49 N v1 v3 v4 x15 f17 f18 n (v5 + 1))
     else
      (if z_in v5 4 then
      (if v4 ≤ (f17 (Int32.toNatClampNeg v5)) then
       (if (f17 (Int32.toNatClampNeg v5)) ≤ v4 then
        (if z_in v1 4 then
        (Option.bind (some (((f18 (Int32.toNatClampNeg v5)) + (v3 * x15)) : Int32)) (fun n7 =>
        (if n7 < ((f18 (Int32.toNatClampNeg v1)) + v3) then
         (some (Sum.inl 0))
        else
         (if n7 = ((f18 (Int32.toNatClampNeg v1)) + v3) then
          (if v1 ≤ v5 then
           (q_X5_can_L49 N v1 v3 v4 x15 f17 f18 n (v5 + 1))
          else
           (some (Sum.inl 0)))
         else
          (q_X5_can_L49 N v1 v3 v4 x15 f17 f18 n (v5 + 1))))))
        else none)
       else
        (some (Sum.inl 0)))
      else
       (q_X5_can_L49 N v1 v3 v4 x15 f17 f18 n (v5 + 1)))
      else none)))
set_option maxHeartbeats 4000000 in
set_option maxRecDepth 100000 in
theorem b_X5_can_L49 {p : Program} {l : Launch} {e : Env} {R : Room} {s : State} {m : MethodId} {args : Array Value} {below : List Frame} {meth : Method} {c : Code} {Q : State → Prop} {A : Nat → Prop} {dC : Nat → ClassId} {dI : Nat → Nat → Nat} {cI cZ cJ cA : ClassId} {h0 : Nat} {a : Nat → Nat} (N : Nat) (C0 : z_Cx p s m args c cX5_can 8 wsX5_can RX5 R 1 22 A dC dI (z_ty cI cZ cJ cA)) : ∀ (n : Nat) {v1 : Int32} {v3 : Int32} {v4 : Int32} {v5 : Int32} {x1 : Int32} {x3 : Int32} {x4 : Int32} {x5 : Int32} {x6 : Int32} {x7 : Int32} {x9 : Int32} {x10 : Int32} {x14 : Int32} {x15 : Int32} {x16 : Int32} {x19 : Int32} {x20 : Int32} {x21 : Int32} {x22 : Int32} {x23 : Int32} {x24 : Int32} {x41 : Int32} {x42 : Int32} {f0 : (Nat → Int32)} {f2 : (Nat → Int32)} {f8 : (Nat → Int32)} {f11 : (Nat → Int32)} {f12 : (Nat → Int32)} {f13 : (Nat → Int32)} {f17 : (Nat → Int32)} {f18 : (Nat → Int32)} {f25 : (Nat → Int32)} {f26 : (Nat → Int32)} {f27 : (Nat → Int32)} {f28 : (Nat → Int32)} {f29 : (Nat → Int32)} {f30 : (Nat → Int32)} {f31 : (Nat → Int32)} {f32 : (Nat → Int32)} {f33 : (Nat → Int32)} {f34 : (Nat → Int32)} {f35 : (Nat → Int32)} {f36 : (Nat → Int32)} {f37 : (Nat → Int32)} {f38 : (Nat → Int32)} {f39 : (Nat → Int32)} {f40 : (Nat → Int32)} {f43 : (Nat → Int32)} {o : (Sum Int32 Unit)} {H : Heap} {locs : List Loc} {ls : Array Slot}, q_X5_can_L49 N v1 v3 v4 x15 f17 f18 n v5 = some o → va_P (dC, dI) vwCl (wX5 cI cZ cJ cA h0 a x1 x3 x4 x5 x6 x7 x9 x10 x14 x15 x16 x19 x20 x21 x22 x23 x24 x41 x42 f0 f2 f8 f11 f12 f13 f17 f18 f25 f26 f27 f28 f29 f30 f31 f32 f33 f34 f35 f36 f37 f38 f39 f40 f43) H → va_D A (wX5 cI cZ cJ cA h0 a x1 x3 x4 x5 x6 x7 x9 x10 x14 x15 x16 x19 x20 x21 x22 x23 x24 x41 x42 f0 f2 f8 f11 f12 f13 f17 f18 f25 f26 f27 f28 f29 f30 f31 f32 f33 f34 f35 f36 f37 f38 f39 f40 f43) → va_S A s.heap H locs → lv_has ls 8 [(0, .ref h0), (1, .int v1), (3, .int v3), (4, .int v4), (5, .int v5)] →
    (∀ (t : Int32), o = Sum.inl t → ∀ (pc : Nat) (H : Heap) (locs : List Loc) (ls : Array Slot) (r : Int32), decode cX5_can pc = .ok (.ireturn, 1) → r = t → narrow .boolean (.int r) = .int r → va_P (dC, dI) vwCl (wX5 cI cZ cJ cA h0 a x1 x3 x4 x5 x6 x7 x9 x10 x14 x15 x16 x19 x20 x21 x22 x23 x24 x41 x42 f0 f2 f8 f11 f12 f13 f17 f18 f25 f26 f27 f28 f29 f30 f31 f32 f33 f34 f35 f36 f37 f38 f39 f40 f43) H → va_D A (wX5 cI cZ cJ cA h0 a x1 x3 x4 x5 x6 x7 x9 x10 x14 x15 x16 x19 x20 x21 x22 x23 x24 x41 x42 f0 f2 f8 f11 f12 f13 f17 f18 f25 f26 f27 f28 f29 f30 f31 f32 f33 f34 f35 f36 f37 f38 f39 f40 f43) → va_S A s.heap H locs → W p l e R s m args below meth c H locs 0 0 Q (F0 m pc ls [.int r])) →
    (∀ (t : Unit) (H : Heap) (locs : List Loc) (ls : Array Slot), o = Sum.inr t → va_P (dC, dI) vwCl (wX5 cI cZ cJ cA h0 a x1 x3 x4 x5 x6 x7 x9 x10 x14 x15 x16 x19 x20 x21 x22 x23 x24 x41 x42 f0 f2 f8 f11 f12 f13 f17 f18 f25 f26 f27 f28 f29 f30 f31 f32 f33 f34 f35 f36 f37 f38 f39 f40 f43) H → va_D A (wX5 cI cZ cJ cA h0 a x1 x3 x4 x5 x6 x7 x9 x10 x14 x15 x16 x19 x20 x21 x22 x23 x24 x41 x42 f0 f2 f8 f11 f12 f13 f17 f18 f25 f26 f27 f28 f29 f30 f31 f32 f33 f34 f35 f36 f37 f38 f39 f40 f43) → va_S A s.heap H locs → lv_has ls 8 [] → W p l e R s m args below meth c H locs 0 0 Q (F0 m 147 ls [])) →
    W p l e R s m args below meth c H locs 0 0 Q (F0 m 49 ls []) := by
  obtain ⟨⟨hx, hb, hml, hown, hts⟩, hRf, hRl, hA, hN, hK⟩ := C0
  intro n
  induction n with
  | zero =>
    intro v1 v3 v4 v5 x1 x3 x4 x5 x6 x7 x9 x10 x14 x15 x16 x19 x20 x21 x22 x23 x24 x41 x42 f0 f2 f8 f11 f12 f13 f17 f18 f25 f26 f27 f28 f29 f30 f31 f32 f33 f34 f35 f36 f37 f38 f39 f40 f43 o H locs ls hf
    cases hf
  | succ n ih =>
    intro v1 v3 v4 v5 x1 x3 x4 x5 x6 x7 x9 x10 x14 x15 x16 x19 x20 x21 x22 x23 x24 x41 x42 f0 f2 f8 f11 f12 f13 f17 f18 f25 f26 f27 f28 f29 f30 f31 f32 f33 f34 f35 f36 f37 f38 f39 f40 f43 o H locs ls hf hP hD hS hl hret hexit
    rw [q_X5_can_L49] at hf
    refine lv_iload hx hb dX5_can_49 (lv_at hl 4 rfl) ?_
    refine lv_aload_n hx hb dX5_can_51 rfl (lv_at hl 0 rfl) ?_
    refine va_get (D := (dC, dI)) (ci := 5) (v := .int x15) (C := RX5) (T := TX5) (N := 44) hx hb hts (fun w hw => List.mem_cons_of_mem _ (List.mem_append_right _ hw)) hown hK hP 0 rfl rfl 15 (by decide) (hts (.fieldLink RX5 148 "OldStadiumModel" "athletes" "I") (List.mem_of_getElem? (i := 3) rfl)) (fun _ h9 => h9) rfl dX5_can_52 ?_
    refine lv_icmp_ge (tgt := 147) hx hb dX5_can_55 (by decide) (fun c1 => ?_) (fun c1 => ?_)
    · replace hf := z_ip hf c1
      obtain rfl := Option.some.inj hf
      exact hexit _ _ _ _ rfl hP hD hS (lv_sub hl [] rfl)
    · replace hf := z_im hf c1
      refine lv_iload hx hb dX5_can_58 (lv_at hl 4 rfl) ?_
      refine lv_iload_n hx hb dX5_can_60 rfl (lv_at hl 1 rfl) ?_
      refine lv_icmp_eq (tgt := 141) hx hb dX5_can_61 (by decide) (fun c2 => ?_) (fun c2 => ?_)
      · replace hf := z_ip hf c2
        refine lv_iinc (v := (v5 + 1)) (lv' := [(5, .int (v5 + 1)), (0, .ref h0), (1, .int v1), (3, .int v3), (4, .int v4)]) hx hb dX5_can_141 hl (k := 4) rfl rfl (by decide) rfl (fun ls hl => ?_)
        refine lv_goto (tgt := 49) hx hb dX5_can_144 (by decide) ?_
        exact ih hf hP hD hS (lv_sub hl [1, 2, 3, 4, 0] rfl) hret hexit
      · replace hf := z_im hf c2
        refine lv_aload_n hx hb dX5_can_64 rfl (lv_at hl 0 rfl) ?_
        refine va_get (D := (dC, dI)) (ci := 5) (v := .ref (a 17)) (C := RX5) (T := TX5) (N := 44) hx hb hts (fun w hw => List.mem_cons_of_mem _ (List.mem_append_right _ hw)) hown hK hP 0 rfl rfl 17 (by decide) (hts (.fieldLink RX5 36 "OldStadiumModel" "wins" "[I") (List.mem_of_getElem? (i := 2) rfl)) (fun _ h9 => h9) rfl dX5_can_65 ?_
        refine lv_iload hx hb dX5_can_68 (lv_at hl 4 rfl) ?_
        have b3 := z_c1 hf
        replace hf := z_c2 hf
        refine va_iald hx hb hK hP 7 0 rfl rfl b3 dX5_can_70 ?_
        refine lv_iload hx hb dX5_can_71 (lv_at hl 3 rfl) ?_
        refine lv_icmp_ge (tgt := 79) hx hb dX5_can_73 (by decide) (fun c4 => ?_) (fun c4 => ?_)
        · replace hf := z_ip hf c4
          refine lv_aload_n hx hb dX5_can_79 rfl (lv_at hl 0 rfl) ?_
          refine va_get (D := (dC, dI)) (ci := 5) (v := .ref (a 17)) (C := RX5) (T := TX5) (N := 44) hx hb hts (fun w hw => List.mem_cons_of_mem _ (List.mem_append_right _ hw)) hown hK hP 0 rfl rfl 17 (by decide) (hts (.fieldLink RX5 36 "OldStadiumModel" "wins" "[I") (List.mem_of_getElem? (i := 2) rfl)) (fun _ h9 => h9) rfl dX5_can_80 ?_
          refine lv_iload hx hb dX5_can_83 (lv_at hl 4 rfl) ?_
          refine va_iald hx hb hK hP 7 0 rfl rfl b3 dX5_can_85 ?_
          refine lv_iload hx hb dX5_can_86 (lv_at hl 3 rfl) ?_
          refine lv_icmp_le (tgt := 93) hx hb dX5_can_88 (by decide) (fun c5 => ?_) (fun c5 => ?_)
          · replace hf := z_ip hf c5
            refine lv_aload_n hx hb dX5_can_93 rfl (lv_at hl 0 rfl) ?_
            refine va_get (D := (dC, dI)) (ci := 5) (v := .ref (a 18)) (C := RX5) (T := TX5) (N := 44) hx hb hts (fun w hw => List.mem_cons_of_mem _ (List.mem_append_right _ hw)) hown hK hP 0 rfl rfl 18 (by decide) (hts (.fieldLink RX5 39 "OldStadiumModel" "sums" "[I") (List.mem_of_getElem? (i := 4) rfl)) (fun _ h9 => h9) rfl dX5_can_94 ?_
            refine lv_iload_n hx hb dX5_can_97 rfl (lv_at hl 1 rfl) ?_
            have b6 := z_c1 hf
            replace hf := z_c2 hf
            refine va_iald hx hb hK hP 8 0 rfl rfl b6 dX5_can_98 ?_
            refine lv_iload_n hx hb dX5_can_99 rfl (lv_at hl 2 rfl) ?_
            refine lv_iadd hx hb dX5_can_100 ?_
            refine lv_istore (lv' := [(6, .int ((f18 (Int32.toNatClampNeg v1)) + v3)), (0, .ref h0), (1, .int v1), (3, .int v3), (4, .int v4), (5, .int v5)]) hx hb dX5_can_101 hl (by decide) rfl (fun ls hl => ?_)
            refine lv_aload_n hx hb dX5_can_103 rfl (lv_at hl 1 rfl) ?_
            refine va_get (D := (dC, dI)) (ci := 5) (v := .ref (a 18)) (C := RX5) (T := TX5) (N := 44) hx hb hts (fun w hw => List.mem_cons_of_mem _ (List.mem_append_right _ hw)) hown hK hP 0 rfl rfl 18 (by decide) (hts (.fieldLink RX5 39 "OldStadiumModel" "sums" "[I") (List.mem_of_getElem? (i := 4) rfl)) (fun _ h9 => h9) rfl dX5_can_104 ?_
            refine lv_iload hx hb dX5_can_107 (lv_at hl 5 rfl) ?_
            refine va_iald hx hb hK hP 8 0 rfl rfl b3 dX5_can_109 ?_
            refine lv_iload_n hx hb dX5_can_110 rfl (lv_at hl 3 rfl) ?_
            refine lv_aload_n hx hb dX5_can_111 rfl (lv_at hl 1 rfl) ?_
            refine va_get (D := (dC, dI)) (ci := 5) (v := .int x15) (C := RX5) (T := TX5) (N := 44) hx hb hts (fun w hw => List.mem_cons_of_mem _ (List.mem_append_right _ hw)) hown hK hP 0 rfl rfl 15 (by decide) (hts (.fieldLink RX5 148 "OldStadiumModel" "athletes" "I") (List.mem_of_getElem? (i := 3) rfl)) (fun _ h9 => h9) rfl dX5_can_112 ?_
            refine lv_imul hx hb dX5_can_115 ?_
            refine lv_iadd hx hb dX5_can_116 ?_
            obtain ⟨n7, hn7, hf1⟩ := z_ib hf
            replace hf := hf1
            clear hf1
            refine lv_topi (fun y9 ey9 => ?_)
            obtain rfl : n7 = y9 := (Option.some.inj hn7).symm.trans ey9.symm
            refine lv_istore (lv' := [(7, .int n7), (6, .int ((f18 (Int32.toNatClampNeg v1)) + v3)), (0, .ref h0), (1, .int v1), (3, .int v3), (4, .int v4), (5, .int v5)]) hx hb dX5_can_117 hl (by decide) rfl (fun ls hl => ?_)
            refine lv_iload hx hb dX5_can_119 (lv_at hl 0 rfl) ?_
            refine lv_iload hx hb dX5_can_121 (lv_at hl 1 rfl) ?_
            refine lv_icmp_lt (tgt := 139) hx hb dX5_can_123 (by decide) (fun c8 => ?_) (fun c8 => ?_)
            · replace hf := z_ip hf c8
              refine lv_iconst (v := 0) hx hb dX5_can_139 (by decide) ?_
              obtain rfl := Option.some.inj hf
              exact hret _ rfl _ _ _ _ _ dX5_can_140 rfl rfl hP hD hS
            · replace hf := z_im hf c8
              refine lv_iload hx hb dX5_can_126 (lv_at hl 0 rfl) ?_
              refine lv_iload hx hb dX5_can_128 (lv_at hl 1 rfl) ?_
              refine lv_icmp_ne (tgt := 141) hx hb dX5_can_130 (by decide) (fun c9 => ?_) (fun c9 => ?_)
              · replace hf := z_im hf c9
                refine lv_iinc (v := (v5 + 1)) (lv' := [(5, .int (v5 + 1)), (7, .int n7), (6, .int ((f18 (Int32.toNatClampNeg v1)) + v3)), (0, .ref h0), (1, .int v1), (3, .int v3), (4, .int v4)]) hx hb dX5_can_141 hl (k := 6) rfl rfl (by decide) rfl (fun ls hl => ?_)
                refine lv_goto (tgt := 49) hx hb dX5_can_144 (by decide) ?_
                exact ih hf hP hD hS (lv_sub hl [3, 4, 5, 6, 0] rfl) hret hexit
              · replace hf := z_ip hf c9
                refine lv_iload hx hb dX5_can_133 (lv_at hl 6 rfl) ?_
                refine lv_iload_n hx hb dX5_can_135 rfl (lv_at hl 3 rfl) ?_
                refine lv_icmp_ge (tgt := 141) hx hb dX5_can_136 (by decide) (fun c10 => ?_) (fun c10 => ?_)
                · replace hf := z_ip hf c10
                  refine lv_iinc (v := (v5 + 1)) (lv' := [(5, .int (v5 + 1)), (7, .int n7), (6, .int ((f18 (Int32.toNatClampNeg v1)) + v3)), (0, .ref h0), (1, .int v1), (3, .int v3), (4, .int v4)]) hx hb dX5_can_141 hl (k := 6) rfl rfl (by decide) rfl (fun ls hl => ?_)
                  refine lv_goto (tgt := 49) hx hb dX5_can_144 (by decide) ?_
                  exact ih hf hP hD hS (lv_sub hl [3, 4, 5, 6, 0] rfl) hret hexit
                · replace hf := z_im hf c10
                  refine lv_iconst (v := 0) hx hb dX5_can_139 (by decide) ?_
                  obtain rfl := Option.some.inj hf
                  exact hret _ rfl _ _ _ _ _ dX5_can_140 rfl rfl hP hD hS
          · replace hf := z_im hf c5
            refine lv_iconst (v := 0) hx hb dX5_can_91 (by decide) ?_
            obtain rfl := Option.some.inj hf
            exact hret _ rfl _ _ _ _ _ dX5_can_92 rfl rfl hP hD hS
        · replace hf := z_im hf c4
          refine lv_goto (tgt := 141) hx hb dX5_can_76 (by decide) ?_
          refine lv_iinc (v := (v5 + 1)) (lv' := [(5, .int (v5 + 1)), (0, .ref h0), (1, .int v1), (3, .int v3), (4, .int v4)]) hx hb dX5_can_141 hl (k := 4) rfl rfl (by decide) rfl (fun ls hl => ?_)
          refine lv_goto (tgt := 49) hx hb dX5_can_144 (by decide) ?_
          exact ih hf hP hD hS (lv_sub hl [1, 2, 3, 4, 0] rfl) hret hexit
def q_X5_can (N : Nat) (v1 : Int32) (x15 : Int32) (x16 : Int32) (f17 : (Nat → Int32)) (f18 : (Nat → Int32)) : Option Int32 :=
  (Option.bind (q_X5_won N x15 x16 f17 f18) (fun o1 =>
  (if o1 = (-1) then
   (if z_in v1 4 then
   (Option.bind (some (((f17 (Int32.toNatClampNeg v1)) + (5 - x16)) : Int32)) (fun n4 =>
   (if n4 ≤ 2 then
    (Option.bind (q_X5_can_L49 N v1 (5 - x16) n4 x15 f17 f18 N 0) (Sum.elim (fun r8 => (some r8)) (fun s7 =>
    (some 1))))
   else
    (some 1))))
   else none)
  else
   (if o1 = v1 then
    (some 1)
   else
    (some 0)))))
set_option maxHeartbeats 4000000 in
set_option maxRecDepth 100000 in
theorem b_X5_can {p : Program} {l : Launch} {e : Env} {R : Room} {s : State} {m : MethodId} {args : Array Value} {below : List Frame} {meth : Method} {c : Code} {Q : State → Prop} {A : Nat → Prop} {dC : Nat → ClassId} {dI : Nat → Nat → Nat} {cI cZ cJ cA : ClassId} {h0 : Nat} {a : Nat → Nat} (N : Nat) (C0 : z_Cx p s m args c cX5_can 8 wsX5_can RX5 R 1 22 A dC dI (z_ty cI cZ cJ cA)) {v1 : Int32} {x1 : Int32} {x3 : Int32} {x4 : Int32} {x5 : Int32} {x6 : Int32} {x7 : Int32} {x9 : Int32} {x10 : Int32} {x14 : Int32} {x15 : Int32} {x16 : Int32} {x19 : Int32} {x20 : Int32} {x21 : Int32} {x22 : Int32} {x23 : Int32} {x24 : Int32} {x41 : Int32} {x42 : Int32} {f0 : (Nat → Int32)} {f2 : (Nat → Int32)} {f8 : (Nat → Int32)} {f11 : (Nat → Int32)} {f12 : (Nat → Int32)} {f13 : (Nat → Int32)} {f17 : (Nat → Int32)} {f18 : (Nat → Int32)} {f25 : (Nat → Int32)} {f26 : (Nat → Int32)} {f27 : (Nat → Int32)} {f28 : (Nat → Int32)} {f29 : (Nat → Int32)} {f30 : (Nat → Int32)} {f31 : (Nat → Int32)} {f32 : (Nat → Int32)} {f33 : (Nat → Int32)} {f34 : (Nat → Int32)} {f35 : (Nat → Int32)} {f36 : (Nat → Int32)} {f37 : (Nat → Int32)} {f38 : (Nat → Int32)} {f39 : (Nat → Int32)} {f40 : (Nat → Int32)} {f43 : (Nat → Int32)} {o : Int32} {H : Heap} {locs : List Loc} {ls : Array Slot} (hf : q_X5_can N v1 x15 x16 f17 f18 = some o) (hP : va_P (dC, dI) vwCl (wX5 cI cZ cJ cA h0 a x1 x3 x4 x5 x6 x7 x9 x10 x14 x15 x16 x19 x20 x21 x22 x23 x24 x41 x42 f0 f2 f8 f11 f12 f13 f17 f18 f25 f26 f27 f28 f29 f30 f31 f32 f33 f34 f35 f36 f37 f38 f39 f40 f43) H) (hD : va_D A (wX5 cI cZ cJ cA h0 a x1 x3 x4 x5 x6 x7 x9 x10 x14 x15 x16 x19 x20 x21 x22 x23 x24 x41 x42 f0 f2 f8 f11 f12 f13 f17 f18 f25 f26 f27 f28 f29 f30 f31 f32 f33 f34 f35 f36 f37 f38 f39 f40 f43)) (hS : va_S A s.heap H locs) (hl : lv_has ls 8 [(0, .ref h0), (1, .int v1)])
    (hret : ∀ (pc : Nat) (H : Heap) (locs : List Loc) (ls : Array Slot) (r : Int32), decode cX5_can pc = .ok (.ireturn, 1) → r = o → narrow .boolean (.int r) = .int r → va_P (dC, dI) vwCl (wX5 cI cZ cJ cA h0 a x1 x3 x4 x5 x6 x7 x9 x10 x14 x15 x16 x19 x20 x21 x22 x23 x24 x41 x42 f0 f2 f8 f11 f12 f13 f17 f18 f25 f26 f27 f28 f29 f30 f31 f32 f33 f34 f35 f36 f37 f38 f39 f40 f43) H → va_D A (wX5 cI cZ cJ cA h0 a x1 x3 x4 x5 x6 x7 x9 x10 x14 x15 x16 x19 x20 x21 x22 x23 x24 x41 x42 f0 f2 f8 f11 f12 f13 f17 f18 f25 f26 f27 f28 f29 f30 f31 f32 f33 f34 f35 f36 f37 f38 f39 f40 f43) → va_S A s.heap H locs → W p l e R s m args below meth c H locs 0 0 Q (F0 m pc ls [.int r])) :
    W p l e R s m args below meth c H locs 0 0 Q (F0 m 0 ls []) := by
  obtain ⟨⟨hx, hb, hml, hown, hts⟩, hRf, hRl, hA, hN, hK⟩ := C0
  unfold q_X5_can at hf
  refine lv_aload_n hx hb dX5_can_0 rfl (lv_at hl 0 rfl) ?_
  obtain ⟨o1, ho1, hf1⟩ := z_ib hf
  replace hf := hf1
  clear hf1
  refine z_Vi (As := []) (rest := []) (w := (wX5 cI cZ cJ cA h0 a x1 x3 x4 x5 x6 x7 x9 x10 x14 x15 x16 x19 x20 x21 x22 x23 x24 x41 x42 f0 f2 f8 f11 f12 f13 f17 f18 f25 f26 f27 f28 f29 f30 f31 f32 f33 f34 f35 f36 f37 f38 f39 f40 f43)) (w1 := (wX5 cI cZ cJ cA h0 a x1 x3 x4 x5 x6 x7 x9 x10 x14 x15 x16 x19 x20 x21 x22 x23 x24 x41 x42 f0 f2 f8 f11 f12 f13 f17 f18 f25 f26 f27 f28 f29 f30 f31 f32 f33 f34 f35 f36 f37 f38 f39 f40 f43)) ⟨hx, hb, hml, hown, hts⟩ (k_X5_won l dC dI cI cZ cJ cA h0 a H.size N x1 x3 x4 x5 x6 x7 x9 x10 x14 x15 x16 x19 x20 x21 x22 x23 x24 x41 x42 f0 f2 f8 f11 f12 f13 f17 f18 f25 f26 f27 f28 f29 f30 f31 f32 f33 f34 f35 f36 f37 f38 f39 f40 f43 o1 ho1) (cwV 0 hts gX5_can_X5_won rfl rfl rfl (by decide +kernel) ⟨Nat.le_trans (Nat.le_of_ble_eq_true rfl) hRf, Nat.le_trans (Nat.le_of_ble_eq_true rfl) hRl⟩) hK hP hD hS hA hN (ci := 5) rfl rfl rfl rfl hl.1 rfl (Nat.le_of_ble_eq_true rfl) dX5_can_1 (fun H locs hP hD hS => ?_)
  refine lv_istore_n (lv' := [(2, .int o1), (0, .ref h0), (1, .int v1)]) hx hb dX5_can_4 rfl hl (by decide) rfl (fun ls hl => ?_)
  refine lv_iload_n hx hb dX5_can_5 rfl (lv_at hl 0 rfl) ?_
  refine lv_iconst (v := (-1)) hx hb dX5_can_6 (by decide) ?_
  refine lv_icmp_eq (tgt := 21) hx hb dX5_can_7 (by decide) (fun c2 => ?_) (fun c2 => ?_)
  · replace hf := z_ip hf c2
    refine lv_iconst (v := 5) hx hb dX5_can_21 (by decide) ?_
    refine lv_aload_n hx hb dX5_can_22 rfl (lv_at hl 1 rfl) ?_
    refine va_get (D := (dC, dI)) (ci := 5) (v := .int x16) (C := RX5) (T := TX5) (N := 44) hx hb hts (fun w hw => List.mem_cons_of_mem _ (List.mem_append_right _ hw)) hown hK hP 0 rfl rfl 16 (by decide) (hts (.fieldLink RX5 151 "OldStadiumModel" "events" "I") (List.mem_of_getElem? (i := 1) rfl)) (fun _ h9 => h9) rfl dX5_can_23 ?_
    refine lv_isub hx hb dX5_can_26 ?_
    refine lv_istore_n (lv' := [(3, .int (5 - x16)), (2, .int o1), (0, .ref h0), (1, .int v1)]) hx hb dX5_can_27 rfl hl (by decide) rfl (fun ls hl => ?_)
    refine lv_aload_n hx hb dX5_can_28 rfl (lv_at hl 2 rfl) ?_
    refine va_get (D := (dC, dI)) (ci := 5) (v := .ref (a 17)) (C := RX5) (T := TX5) (N := 44) hx hb hts (fun w hw => List.mem_cons_of_mem _ (List.mem_append_right _ hw)) hown hK hP 0 rfl rfl 17 (by decide) (hts (.fieldLink RX5 36 "OldStadiumModel" "wins" "[I") (List.mem_of_getElem? (i := 2) rfl)) (fun _ h9 => h9) rfl dX5_can_29 ?_
    refine lv_iload_n hx hb dX5_can_32 rfl (lv_at hl 3 rfl) ?_
    have b3 := z_c1 hf
    replace hf := z_c2 hf
    refine va_iald hx hb hK hP 7 0 rfl rfl b3 dX5_can_33 ?_
    refine lv_iload_n hx hb dX5_can_34 rfl (lv_at hl 0 rfl) ?_
    refine lv_iadd hx hb dX5_can_35 ?_
    obtain ⟨n4, hn4, hf1⟩ := z_ib hf
    replace hf := hf1
    clear hf1
    refine lv_topi (fun y9 ey9 => ?_)
    obtain rfl : n4 = y9 := (Option.some.inj hn4).symm.trans ey9.symm
    refine lv_istore (lv' := [(4, .int n4), (3, .int (5 - x16)), (2, .int o1), (0, .ref h0), (1, .int v1)]) hx hb dX5_can_36 hl (by decide) rfl (fun ls hl => ?_)
    refine lv_iload hx hb dX5_can_38 (lv_at hl 0 rfl) ?_
    refine lv_iconst (v := 2) hx hb dX5_can_40 (by decide) ?_
    refine lv_icmp_le (tgt := 46) hx hb dX5_can_41 (by decide) (fun c5 => ?_) (fun c5 => ?_)
    · replace hf := z_ip hf c5
      refine lv_iconst (v := 0) hx hb dX5_can_46 (by decide) ?_
      refine lv_istore (lv' := [(5, .int 0), (4, .int n4), (3, .int (5 - x16)), (2, .int o1), (0, .ref h0), (1, .int v1)]) hx hb dX5_can_47 hl (by decide) rfl (fun ls hl => ?_)
      obtain ⟨t6, ht6, hf1⟩ := z_ib hf
      replace hf := hf1
      clear hf1
      refine b_X5_can_L49 N ⟨⟨hx, hb, hml, hown, hts⟩, hRf, hRl, hA, hN, hK⟩ N ht6 hP hD hS (lv_sub hl [4, 5, 2, 1, 0] rfl) (fun r8 e1 pc H locs ls r0 hd hr hn hP hD hS => ?_) (fun s7 H locs ls e1 hP hD hS hl => ?_)
      · subst e1
        have hf := z_sl hf
        obtain rfl := Option.some.inj hf
        exact hret pc H locs ls r0 hd hr hn hP hD hS
      subst e1
      replace hf := z_sr hf
      refine lv_iconst (v := 1) hx hb dX5_can_147 (by decide) ?_
      obtain rfl := Option.some.inj hf
      exact hret _ _ _ _ _ dX5_can_148 rfl rfl hP hD hS
    · replace hf := z_im hf c5
      refine lv_iconst (v := 1) hx hb dX5_can_44 (by decide) ?_
      obtain rfl := Option.some.inj hf
      exact hret _ _ _ _ _ dX5_can_45 rfl rfl hP hD hS
  · replace hf := z_im hf c2
    refine lv_iload_n hx hb dX5_can_10 rfl (lv_at hl 0 rfl) ?_
    refine lv_iload_n hx hb dX5_can_11 rfl (lv_at hl 2 rfl) ?_
    refine lv_icmp_ne (tgt := 19) hx hb dX5_can_12 (by decide) (fun c9 => ?_) (fun c9 => ?_)
    · replace hf := z_im hf c9
      refine lv_iconst (v := 0) hx hb dX5_can_19 (by decide) ?_
      obtain rfl := Option.some.inj hf
      exact hret _ _ _ _ _ dX5_can_20 rfl rfl hP hD hS
    · replace hf := z_ip hf c9
      refine lv_iconst (v := 1) hx hb dX5_can_15 (by decide) ?_
      refine lv_goto (tgt := 20) hx hb dX5_can_16 (by decide) ?_
      obtain rfl := Option.some.inj hf
      exact hret _ _ _ _ _ dX5_can_20 rfl rfl hP hD hS
set_option maxHeartbeats 4000000 in
set_option maxRecDepth 100000 in
theorem k_X5_can (l : Launch) (dC : Nat → ClassId) (dI : Nat → Nat → Nat) (cI cZ cJ cA : ClassId) (h0 : Nat) (a : Nat → Nat) (sz : Nat) (N : Nat) (v1 : Int32) (x1 : Int32) (x3 : Int32) (x4 : Int32) (x5 : Int32) (x6 : Int32) (x7 : Int32) (x9 : Int32) (x10 : Int32) (x14 : Int32) (x15 : Int32) (x16 : Int32) (x19 : Int32) (x20 : Int32) (x21 : Int32) (x22 : Int32) (x23 : Int32) (x24 : Int32) (x41 : Int32) (x42 : Int32) (f0 : (Nat → Int32)) (f2 : (Nat → Int32)) (f8 : (Nat → Int32)) (f11 : (Nat → Int32)) (f12 : (Nat → Int32)) (f13 : (Nat → Int32)) (f17 : (Nat → Int32)) (f18 : (Nat → Int32)) (f25 : (Nat → Int32)) (f26 : (Nat → Int32)) (f27 : (Nat → Int32)) (f28 : (Nat → Int32)) (f29 : (Nat → Int32)) (f30 : (Nat → Int32)) (f31 : (Nat → Int32)) (f32 : (Nat → Int32)) (f33 : (Nat → Int32)) (f34 : (Nat → Int32)) (f35 : (Nat → Int32)) (f36 : (Nat → Int32)) (f37 : (Nat → Int32)) (f38 : (Nat → Int32)) (f39 : (Nat → Int32)) (f40 : (Nat → Int32)) (f43 : (Nat → Int32)) (o : Int32) (hf : q_X5_can N v1 x15 x16 f17 f18 = some o) : Met l yX5_can wsX5_can ({ frames := 1, cells := 0, slots := 0, locals := 22 } : Room) (z_Pre dC dI (z_ty cI cZ cJ cA) [.ref h0, .int v1] sz (wX5 cI cZ cJ cA h0 a x1 x3 x4 x5 x6 x7 x9 x10 x14 x15 x16 x19 x20 x21 x22 x23 x24 x41 x42 f0 f2 f8 f11 f12 f13 f17 f18 f25 f26 f27 f28 f29 f30 f31 f32 f33 f34 f35 f36 f37 f38 f39 f40 f43)) (z_Pi dC dI o (wX5 cI cZ cJ cA h0 a x1 x3 x4 x5 x6 x7 x9 x10 x14 x15 x16 x19 x20 x21 x22 x23 x24 x41 x42 f0 f2 f8 f11 f12 f13 f17 f18 f25 f26 f27 f28 f29 f30 f31 f32 f33 f34 f35 f36 f37 f38 f39 f40 f43) sz (wX5 cI cZ cJ cA h0 a x1 x3 x4 x5 x6 x7 x9 x10 x14 x15 x16 x19 x20 x21 x22 x23 x24 x41 x42 f0 f2 f8 f11 f12 f13 f17 f18 f25 f26 f27 f28 f29 f30 f31 f32 f33 f34 f35 f36 f37 f38 f39 f40 f43)) 0 0 (va_A (wX5 cI cZ cJ cA h0 a x1 x3 x4 x5 x6 x7 x9 x10 x14 x15 x16 x19 x20 x21 x22 x23 x24 x41 x42 f0 f2 f8 f11 f12 f13 f17 f18 f25 f26 f27 f28 f29 f30 f31 f32 f33 f34 f35 f36 f37 f38 f39 f40 f43) sz) := by
  refine Met.ofW (cc := cX5_can) (maxL := 8) (ret := (some .boolean)) (by decide) rfl ?_
  intro p e s m args below meth c s₁ B hml hv
  obtain ⟨rfl, hsz, hP, hK, hD0, hN⟩ := hv
  subst hsz
  have hl := lv_entry ([.ref h0, .int v1]) (n := 8) (Nat.le_of_ble_eq_true rfl)
  rw [lg_entry_eq]
  refine b_X5_can N ⟨⟨B.exec, B.bytes, hml, findClass_of_methodNamed B.named, atoms_spec (ws := wsX5_can) B.pre⟩, Nat.le_refl _, Nat.le_refl _, fun q h => Or.inr h, hN, hK⟩ hf hP hD0.self va_S.rf hl (fun pc H locs ls r hd hr hn hP hD hS => ?_)
  subst hr
  exact W.zret B.exec B.bytes B.returns hn (fun t ht hW => ⟨⟨_, (), rfl, rfl, by rw [ht]; exact hP, hD⟩, hS.F ht⟩) hS.2.2 hd
def q_X5_athlete (N : Nat) (v1 : Int32) (v2 : Int32) (x15 : Int32) (x16 : Int32) (f17 : (Nat → Int32)) (f18 : (Nat → Int32)) : Option Int32 :=
  (Option.bind (q_X5_in N v1 0 (x15 - 1)) (fun o1 =>
  (if o1 = 0 then
   (some (-1))
  else
   (if v2 = 0 then
    (if z_in v1 4 then
    (some (f17 (Int32.toNatClampNeg v1)))
    else none)
   else
    (if v2 = 1 then
     (if z_in v1 4 then
     (some (f18 (Int32.toNatClampNeg v1)))
     else none)
    else
     (if v2 = 2 then
      (Option.bind (q_X5_can N v1 x15 x16 f17 f18) (fun o6 =>
      (if o6 = 0 then
       (some 0)
      else
       (some 1))))
     else
      (some (-1))))))))
set_option maxHeartbeats 4000000 in
set_option maxRecDepth 100000 in
theorem b_X5_athlete {p : Program} {l : Launch} {e : Env} {R : Room} {s : State} {m : MethodId} {args : Array Value} {below : List Frame} {meth : Method} {c : Code} {Q : State → Prop} {A : Nat → Prop} {dC : Nat → ClassId} {dI : Nat → Nat → Nat} {cI cZ cJ cA : ClassId} {h0 : Nat} {a : Nat → Nat} (N : Nat) (C0 : z_Cx p s m args c cX5_athlete 3 wsX5_athlete RX5 R 2 49 A dC dI (z_ty cI cZ cJ cA)) {v1 : Int32} {v2 : Int32} {x1 : Int32} {x3 : Int32} {x4 : Int32} {x5 : Int32} {x6 : Int32} {x7 : Int32} {x9 : Int32} {x10 : Int32} {x14 : Int32} {x15 : Int32} {x16 : Int32} {x19 : Int32} {x20 : Int32} {x21 : Int32} {x22 : Int32} {x23 : Int32} {x24 : Int32} {x41 : Int32} {x42 : Int32} {f0 : (Nat → Int32)} {f2 : (Nat → Int32)} {f8 : (Nat → Int32)} {f11 : (Nat → Int32)} {f12 : (Nat → Int32)} {f13 : (Nat → Int32)} {f17 : (Nat → Int32)} {f18 : (Nat → Int32)} {f25 : (Nat → Int32)} {f26 : (Nat → Int32)} {f27 : (Nat → Int32)} {f28 : (Nat → Int32)} {f29 : (Nat → Int32)} {f30 : (Nat → Int32)} {f31 : (Nat → Int32)} {f32 : (Nat → Int32)} {f33 : (Nat → Int32)} {f34 : (Nat → Int32)} {f35 : (Nat → Int32)} {f36 : (Nat → Int32)} {f37 : (Nat → Int32)} {f38 : (Nat → Int32)} {f39 : (Nat → Int32)} {f40 : (Nat → Int32)} {f43 : (Nat → Int32)} {o : Int32} {H : Heap} {locs : List Loc} {ls : Array Slot} (hf : q_X5_athlete N v1 v2 x15 x16 f17 f18 = some o) (hP : va_P (dC, dI) vwCl (wX5 cI cZ cJ cA h0 a x1 x3 x4 x5 x6 x7 x9 x10 x14 x15 x16 x19 x20 x21 x22 x23 x24 x41 x42 f0 f2 f8 f11 f12 f13 f17 f18 f25 f26 f27 f28 f29 f30 f31 f32 f33 f34 f35 f36 f37 f38 f39 f40 f43) H) (hD : va_D A (wX5 cI cZ cJ cA h0 a x1 x3 x4 x5 x6 x7 x9 x10 x14 x15 x16 x19 x20 x21 x22 x23 x24 x41 x42 f0 f2 f8 f11 f12 f13 f17 f18 f25 f26 f27 f28 f29 f30 f31 f32 f33 f34 f35 f36 f37 f38 f39 f40 f43)) (hS : va_S A s.heap H locs) (hl : lv_has ls 3 [(0, .ref h0), (1, .int v1), (2, .int v2)])
    (hret : ∀ (pc : Nat) (H : Heap) (locs : List Loc) (ls : Array Slot) (r : Int32), decode cX5_athlete pc = .ok (.ireturn, 1) → r = o → va_P (dC, dI) vwCl (wX5 cI cZ cJ cA h0 a x1 x3 x4 x5 x6 x7 x9 x10 x14 x15 x16 x19 x20 x21 x22 x23 x24 x41 x42 f0 f2 f8 f11 f12 f13 f17 f18 f25 f26 f27 f28 f29 f30 f31 f32 f33 f34 f35 f36 f37 f38 f39 f40 f43) H → va_D A (wX5 cI cZ cJ cA h0 a x1 x3 x4 x5 x6 x7 x9 x10 x14 x15 x16 x19 x20 x21 x22 x23 x24 x41 x42 f0 f2 f8 f11 f12 f13 f17 f18 f25 f26 f27 f28 f29 f30 f31 f32 f33 f34 f35 f36 f37 f38 f39 f40 f43) → va_S A s.heap H locs → W p l e R s m args below meth c H locs 0 0 Q (F0 m pc ls [.int r])) :
    W p l e R s m args below meth c H locs 0 0 Q (F0 m 0 ls []) := by
  obtain ⟨⟨hx, hb, hml, hown, hts⟩, hRf, hRl, hA, hN, hK⟩ := C0
  unfold q_X5_athlete at hf
  refine lv_iload_n hx hb dX5_athlete_0 rfl (lv_at hl 1 rfl) ?_
  refine lv_iconst (v := 0) hx hb dX5_athlete_1 (by decide) ?_
  refine lv_aload_n hx hb dX5_athlete_2 rfl (lv_at hl 0 rfl) ?_
  refine va_get (D := (dC, dI)) (ci := 5) (v := .int x15) (C := RX5) (T := TX5) (N := 44) hx hb hts (fun w hw => List.mem_cons_of_mem _ (List.mem_append_right _ hw)) hown hK hP 0 rfl rfl 15 (by decide) (hts (.fieldLink RX5 148 "OldStadiumModel" "athletes" "I") (List.mem_of_getElem? (i := 1) rfl)) (fun _ h9 => h9) rfl dX5_athlete_3 ?_
  refine lv_iconst (v := 1) hx hb dX5_athlete_6 (by decide) ?_
  refine lv_isub hx hb dX5_athlete_7 ?_
  obtain ⟨o1, ho1, hf1⟩ := z_ib hf
  replace hf := hf1
  clear hf1
  refine z_S0 (As := [.int v1, .int 0, .int (x15 - 1)]) (rest := []) ⟨hx, hb, hml, hown, hts⟩ (k_X5_in l dC dI cI cZ cJ cA H.size N v1 0 (x15 - 1) o1 ho1) (va_cwS 3 hts gX5_athlete_X5_in rfl rfl rfl (by decide +kernel) ⟨Nat.le_trans (Nat.le_of_ble_eq_true rfl) hRf, Nat.le_trans (Nat.le_of_ble_eq_true rfl) hRl⟩) hK hP hS hA hN rfl hl.1 rfl (Nat.le_of_ble_eq_true rfl) dX5_athlete_8 (fun H locs hP hS => ?_)
  refine lv_if_ne (tgt := 16) hx hb dX5_athlete_11 (by decide) (fun c2 => ?_) (fun c2 => ?_)
  · replace hf := z_im hf c2
    refine lv_iload_n hx hb dX5_athlete_16 rfl (lv_at hl 2 rfl) ?_
    refine lv_if_ne (tgt := 29) hx hb dX5_athlete_17 (by decide) (fun c3 => ?_) (fun c3 => ?_)
    · replace hf := z_im hf c3
      refine lv_iload_n hx hb dX5_athlete_29 rfl (lv_at hl 2 rfl) ?_
      refine lv_iconst (v := 1) hx hb dX5_athlete_30 (by decide) ?_
      refine lv_icmp_ne (tgt := 43) hx hb dX5_athlete_31 (by decide) (fun c4 => ?_) (fun c4 => ?_)
      · replace hf := z_im hf c4
        refine lv_iload_n hx hb dX5_athlete_43 rfl (lv_at hl 2 rfl) ?_
        refine lv_iconst (v := 2) hx hb dX5_athlete_44 (by decide) ?_
        refine lv_icmp_ne (tgt := 64) hx hb dX5_athlete_45 (by decide) (fun c5 => ?_) (fun c5 => ?_)
        · replace hf := z_im hf c5
          refine lv_iconst (v := (-1)) hx hb dX5_athlete_64 (by decide) ?_
          obtain rfl := Option.some.inj hf
          exact hret _ _ _ _ _ dX5_athlete_65 rfl hP hD hS
        · replace hf := z_ip hf c5
          refine lv_aload_n hx hb dX5_athlete_48 rfl (lv_at hl 0 rfl) ?_
          refine lv_iload_n hx hb dX5_athlete_49 rfl (lv_at hl 1 rfl) ?_
          obtain ⟨o6, ho6, hf1⟩ := z_ib hf
          replace hf := hf1
          clear hf1
          refine z_Vi (As := [.int v1]) (rest := []) (w := (wX5 cI cZ cJ cA h0 a x1 x3 x4 x5 x6 x7 x9 x10 x14 x15 x16 x19 x20 x21 x22 x23 x24 x41 x42 f0 f2 f8 f11 f12 f13 f17 f18 f25 f26 f27 f28 f29 f30 f31 f32 f33 f34 f35 f36 f37 f38 f39 f40 f43)) (w1 := (wX5 cI cZ cJ cA h0 a x1 x3 x4 x5 x6 x7 x9 x10 x14 x15 x16 x19 x20 x21 x22 x23 x24 x41 x42 f0 f2 f8 f11 f12 f13 f17 f18 f25 f26 f27 f28 f29 f30 f31 f32 f33 f34 f35 f36 f37 f38 f39 f40 f43)) ⟨hx, hb, hml, hown, hts⟩ (k_X5_can l dC dI cI cZ cJ cA h0 a H.size N v1 x1 x3 x4 x5 x6 x7 x9 x10 x14 x15 x16 x19 x20 x21 x22 x23 x24 x41 x42 f0 f2 f8 f11 f12 f13 f17 f18 f25 f26 f27 f28 f29 f30 f31 f32 f33 f34 f35 f36 f37 f38 f39 f40 f43 o6 ho6) (cwV 1 hts gX5_athlete_X5_can rfl rfl rfl (by decide +kernel) ⟨Nat.le_trans (Nat.le_of_ble_eq_true rfl) hRf, Nat.le_trans (Nat.le_of_ble_eq_true rfl) hRl⟩) hK hP hD hS hA hN (ci := 5) rfl rfl rfl rfl hl.1 rfl (Nat.le_of_ble_eq_true rfl) dX5_athlete_50 (fun H locs hP hD hS => ?_)
          refine lv_if_eq (tgt := 60) hx hb dX5_athlete_53 (by decide) (fun c7 => ?_) (fun c7 => ?_)
          · replace hf := z_ip hf c7
            refine lv_iconst (v := 0) hx hb dX5_athlete_60 (by decide) ?_
            refine lv_goto (tgt := 65) hx hb dX5_athlete_61 (by decide) ?_
            obtain rfl := Option.some.inj hf
            exact hret _ _ _ _ _ dX5_athlete_65 rfl hP hD hS
          · replace hf := z_im hf c7
            refine lv_iconst (v := 1) hx hb dX5_athlete_56 (by decide) ?_
            refine lv_goto (tgt := 65) hx hb dX5_athlete_57 (by decide) ?_
            obtain rfl := Option.some.inj hf
            exact hret _ _ _ _ _ dX5_athlete_65 rfl hP hD hS
      · replace hf := z_ip hf c4
        refine lv_aload_n hx hb dX5_athlete_34 rfl (lv_at hl 0 rfl) ?_
        refine va_get (D := (dC, dI)) (ci := 5) (v := .ref (a 18)) (C := RX5) (T := TX5) (N := 44) hx hb hts (fun w hw => List.mem_cons_of_mem _ (List.mem_append_right _ hw)) hown hK hP 0 rfl rfl 18 (by decide) (hts (.fieldLink RX5 39 "OldStadiumModel" "sums" "[I") (List.mem_of_getElem? (i := 3) rfl)) (fun _ h9 => h9) rfl dX5_athlete_35 ?_
        refine lv_iload_n hx hb dX5_athlete_38 rfl (lv_at hl 1 rfl) ?_
        have b8 := z_c1 hf
        replace hf := z_c2 hf
        refine va_iald hx hb hK hP 8 0 rfl rfl b8 dX5_athlete_39 ?_
        refine lv_goto (tgt := 65) hx hb dX5_athlete_40 (by decide) ?_
        obtain rfl := Option.some.inj hf
        exact hret _ _ _ _ _ dX5_athlete_65 rfl hP hD hS
    · replace hf := z_ip hf c3
      refine lv_aload_n hx hb dX5_athlete_20 rfl (lv_at hl 0 rfl) ?_
      refine va_get (D := (dC, dI)) (ci := 5) (v := .ref (a 17)) (C := RX5) (T := TX5) (N := 44) hx hb hts (fun w hw => List.mem_cons_of_mem _ (List.mem_append_right _ hw)) hown hK hP 0 rfl rfl 17 (by decide) (hts (.fieldLink RX5 36 "OldStadiumModel" "wins" "[I") (List.mem_of_getElem? (i := 2) rfl)) (fun _ h9 => h9) rfl dX5_athlete_21 ?_
      refine lv_iload_n hx hb dX5_athlete_24 rfl (lv_at hl 1 rfl) ?_
      have b9 := z_c1 hf
      replace hf := z_c2 hf
      refine va_iald hx hb hK hP 7 0 rfl rfl b9 dX5_athlete_25 ?_
      refine lv_goto (tgt := 65) hx hb dX5_athlete_26 (by decide) ?_
      obtain rfl := Option.some.inj hf
      exact hret _ _ _ _ _ dX5_athlete_65 rfl hP hD hS
  · replace hf := z_ip hf c2
    refine lv_iconst (v := (-1)) hx hb dX5_athlete_14 (by decide) ?_
    obtain rfl := Option.some.inj hf
    exact hret _ _ _ _ _ dX5_athlete_15 rfl hP hD hS
set_option maxHeartbeats 4000000 in
set_option maxRecDepth 100000 in
theorem k_X5_athlete (l : Launch) (dC : Nat → ClassId) (dI : Nat → Nat → Nat) (cI cZ cJ cA : ClassId) (h0 : Nat) (a : Nat → Nat) (sz : Nat) (N : Nat) (v1 : Int32) (v2 : Int32) (x1 : Int32) (x3 : Int32) (x4 : Int32) (x5 : Int32) (x6 : Int32) (x7 : Int32) (x9 : Int32) (x10 : Int32) (x14 : Int32) (x15 : Int32) (x16 : Int32) (x19 : Int32) (x20 : Int32) (x21 : Int32) (x22 : Int32) (x23 : Int32) (x24 : Int32) (x41 : Int32) (x42 : Int32) (f0 : (Nat → Int32)) (f2 : (Nat → Int32)) (f8 : (Nat → Int32)) (f11 : (Nat → Int32)) (f12 : (Nat → Int32)) (f13 : (Nat → Int32)) (f17 : (Nat → Int32)) (f18 : (Nat → Int32)) (f25 : (Nat → Int32)) (f26 : (Nat → Int32)) (f27 : (Nat → Int32)) (f28 : (Nat → Int32)) (f29 : (Nat → Int32)) (f30 : (Nat → Int32)) (f31 : (Nat → Int32)) (f32 : (Nat → Int32)) (f33 : (Nat → Int32)) (f34 : (Nat → Int32)) (f35 : (Nat → Int32)) (f36 : (Nat → Int32)) (f37 : (Nat → Int32)) (f38 : (Nat → Int32)) (f39 : (Nat → Int32)) (f40 : (Nat → Int32)) (f43 : (Nat → Int32)) (o : Int32) (hf : q_X5_athlete N v1 v2 x15 x16 f17 f18 = some o) : Met l yX5_athlete wsX5_athlete ({ frames := 2, cells := 0, slots := 0, locals := 49 } : Room) (z_Pre dC dI (z_ty cI cZ cJ cA) [.ref h0, .int v1, .int v2] sz (wX5 cI cZ cJ cA h0 a x1 x3 x4 x5 x6 x7 x9 x10 x14 x15 x16 x19 x20 x21 x22 x23 x24 x41 x42 f0 f2 f8 f11 f12 f13 f17 f18 f25 f26 f27 f28 f29 f30 f31 f32 f33 f34 f35 f36 f37 f38 f39 f40 f43)) (z_Pi dC dI o (wX5 cI cZ cJ cA h0 a x1 x3 x4 x5 x6 x7 x9 x10 x14 x15 x16 x19 x20 x21 x22 x23 x24 x41 x42 f0 f2 f8 f11 f12 f13 f17 f18 f25 f26 f27 f28 f29 f30 f31 f32 f33 f34 f35 f36 f37 f38 f39 f40 f43) sz (wX5 cI cZ cJ cA h0 a x1 x3 x4 x5 x6 x7 x9 x10 x14 x15 x16 x19 x20 x21 x22 x23 x24 x41 x42 f0 f2 f8 f11 f12 f13 f17 f18 f25 f26 f27 f28 f29 f30 f31 f32 f33 f34 f35 f36 f37 f38 f39 f40 f43)) 0 0 (va_A (wX5 cI cZ cJ cA h0 a x1 x3 x4 x5 x6 x7 x9 x10 x14 x15 x16 x19 x20 x21 x22 x23 x24 x41 x42 f0 f2 f8 f11 f12 f13 f17 f18 f25 f26 f27 f28 f29 f30 f31 f32 f33 f34 f35 f36 f37 f38 f39 f40 f43) sz) := by
  refine Met.ofW (cc := cX5_athlete) (maxL := 3) (ret := (some .int)) (by decide) rfl ?_
  intro p e s m args below meth c s₁ B hml hv
  obtain ⟨rfl, hsz, hP, hK, hD0, hN⟩ := hv
  subst hsz
  have hl := lv_entry ([.ref h0, .int v1, .int v2]) (n := 3) (Nat.le_of_ble_eq_true rfl)
  rw [lg_entry_eq]
  refine b_X5_athlete N ⟨⟨B.exec, B.bytes, hml, findClass_of_methodNamed B.named, atoms_spec (ws := wsX5_athlete) B.pre⟩, Nat.le_refl _, Nat.le_refl _, fun q h => Or.inr h, hN, hK⟩ hf hP hD0.self va_S.rf hl (fun pc H locs ls r hd hr hP hD hS => ?_)
  subst hr
  exact W.iret B.exec B.bytes B.returns (fun t ht hW => ⟨⟨_, (), rfl, rfl, by rw [ht]; exact hP, hD⟩, hS.F ht⟩) hS.2.2 hd
def q_X5_track (N : Nat) (v1 : Int32) (v2 : Int32) (v3 : Int32) (x19 : Int32) (x20 : Int32) (x21 : Int32) (x22 : Int32) (x23 : Int32) (x24 : Int32) : Option (Int32 × Int32 × Int32 × Int32 × Int32 × Int32 × Int32) :=
  (Option.bind (q_X5_in N v1 1 8) (fun o1 =>
  (if o1 = 0 then
   (some (0, x19, x20, x21, x22, x23, x24))
  else
   (Option.bind (q_X5_in N v2 4 60) (fun o3 =>
   (if o3 = 0 then
    (some (0, x19, x20, x21, x22, x23, x24))
   else
    (Option.bind (q_X5_in N v3 1 9) (fun o5 =>
    (if o5 = 0 then
     (some (0, x19, x20, x21, x22, x23, x24))
    else
     (some (1, v1, v2, v3, 0, 0, 0)))))))))))
set_option maxHeartbeats 4000000 in
set_option maxRecDepth 100000 in
theorem b_X5_track {p : Program} {l : Launch} {e : Env} {R : Room} {s : State} {m : MethodId} {args : Array Value} {below : List Frame} {meth : Method} {c : Code} {Q : State → Prop} {A : Nat → Prop} {dC : Nat → ClassId} {dI : Nat → Nat → Nat} {cI cZ cJ cA : ClassId} {h0 : Nat} {a : Nat → Nat} (N : Nat) (C0 : z_Cx p s m args c cX5_track 4 wsX5_track RX5 R 1 22 A dC dI (z_ty cI cZ cJ cA)) {v1 : Int32} {v2 : Int32} {v3 : Int32} {x1 : Int32} {x3 : Int32} {x4 : Int32} {x5 : Int32} {x6 : Int32} {x7 : Int32} {x9 : Int32} {x10 : Int32} {x14 : Int32} {x15 : Int32} {x16 : Int32} {x19 : Int32} {x20 : Int32} {x21 : Int32} {x22 : Int32} {x23 : Int32} {x24 : Int32} {x41 : Int32} {x42 : Int32} {f0 : (Nat → Int32)} {f2 : (Nat → Int32)} {f8 : (Nat → Int32)} {f11 : (Nat → Int32)} {f12 : (Nat → Int32)} {f13 : (Nat → Int32)} {f17 : (Nat → Int32)} {f18 : (Nat → Int32)} {f25 : (Nat → Int32)} {f26 : (Nat → Int32)} {f27 : (Nat → Int32)} {f28 : (Nat → Int32)} {f29 : (Nat → Int32)} {f30 : (Nat → Int32)} {f31 : (Nat → Int32)} {f32 : (Nat → Int32)} {f33 : (Nat → Int32)} {f34 : (Nat → Int32)} {f35 : (Nat → Int32)} {f36 : (Nat → Int32)} {f37 : (Nat → Int32)} {f38 : (Nat → Int32)} {f39 : (Nat → Int32)} {f40 : (Nat → Int32)} {f43 : (Nat → Int32)} {o : (Int32 × Int32 × Int32 × Int32 × Int32 × Int32 × Int32)} {H : Heap} {locs : List Loc} {ls : Array Slot} (hf : q_X5_track N v1 v2 v3 x19 x20 x21 x22 x23 x24 = some o) (hP : va_P (dC, dI) vwCl (wX5 cI cZ cJ cA h0 a x1 x3 x4 x5 x6 x7 x9 x10 x14 x15 x16 x19 x20 x21 x22 x23 x24 x41 x42 f0 f2 f8 f11 f12 f13 f17 f18 f25 f26 f27 f28 f29 f30 f31 f32 f33 f34 f35 f36 f37 f38 f39 f40 f43) H) (hD : va_D A (wX5 cI cZ cJ cA h0 a x1 x3 x4 x5 x6 x7 x9 x10 x14 x15 x16 x19 x20 x21 x22 x23 x24 x41 x42 f0 f2 f8 f11 f12 f13 f17 f18 f25 f26 f27 f28 f29 f30 f31 f32 f33 f34 f35 f36 f37 f38 f39 f40 f43)) (hS : va_S A s.heap H locs) (hl : lv_has ls 4 [(0, .ref h0), (1, .int v1), (2, .int v2), (3, .int v3)])
    (hret : ∀ (pc : Nat) (H : Heap) (locs : List Loc) (ls : Array Slot) (r : Int32), decode cX5_track pc = .ok (.ireturn, 1) → r = o.1 → narrow .boolean (.int r) = .int r → va_P (dC, dI) vwCl (wX5 cI cZ cJ cA h0 a x1 x3 x4 x5 x6 x7 x9 x10 x14 x15 x16 o.2.1 o.2.2.1 o.2.2.2.1 o.2.2.2.2.1 o.2.2.2.2.2.1 o.2.2.2.2.2.2 x41 x42 f0 f2 f8 f11 f12 f13 f17 f18 f25 f26 f27 f28 f29 f30 f31 f32 f33 f34 f35 f36 f37 f38 f39 f40 f43) H → va_D A (wX5 cI cZ cJ cA h0 a x1 x3 x4 x5 x6 x7 x9 x10 x14 x15 x16 o.2.1 o.2.2.1 o.2.2.2.1 o.2.2.2.2.1 o.2.2.2.2.2.1 o.2.2.2.2.2.2 x41 x42 f0 f2 f8 f11 f12 f13 f17 f18 f25 f26 f27 f28 f29 f30 f31 f32 f33 f34 f35 f36 f37 f38 f39 f40 f43) → va_S A s.heap H locs → W p l e R s m args below meth c H locs 0 0 Q (F0 m pc ls [.int r])) :
    W p l e R s m args below meth c H locs 0 0 Q (F0 m 0 ls []) := by
  obtain ⟨⟨hx, hb, hml, hown, hts⟩, hRf, hRl, hA, hN, hK⟩ := C0
  unfold q_X5_track at hf
  refine lv_iload_n hx hb dX5_track_0 rfl (lv_at hl 1 rfl) ?_
  refine lv_iconst (v := 1) hx hb dX5_track_1 (by decide) ?_
  refine lv_bipush (v := 8) hx hb dX5_track_2 (by decide) ?_
  obtain ⟨o1, ho1, hf1⟩ := z_ib hf
  replace hf := hf1
  clear hf1
  refine z_S0 (As := [.int v1, .int 1, .int 8]) (rest := []) ⟨hx, hb, hml, hown, hts⟩ (k_X5_in l dC dI cI cZ cJ cA H.size N v1 1 8 o1 ho1) (va_cwS 3 hts gX5_track_X5_in rfl rfl rfl (by decide +kernel) ⟨Nat.le_trans (Nat.le_of_ble_eq_true rfl) hRf, Nat.le_trans (Nat.le_of_ble_eq_true rfl) hRl⟩) hK hP hS hA hN rfl hl.1 rfl (Nat.le_of_ble_eq_true rfl) dX5_track_4 (fun H locs hP hS => ?_)
  refine lv_if_eq (tgt := 30) hx hb dX5_track_7 (by decide) (fun c2 => ?_) (fun c2 => ?_)
  · replace hf := z_ip hf c2
    refine lv_iconst (v := 0) hx hb dX5_track_30 (by decide) ?_
    obtain rfl := Option.some.inj hf
    exact hret _ _ _ _ _ dX5_track_31 rfl rfl hP hD hS
  · replace hf := z_im hf c2
    refine lv_iload_n hx hb dX5_track_10 rfl (lv_at hl 2 rfl) ?_
    refine lv_iconst (v := 4) hx hb dX5_track_11 (by decide) ?_
    refine lv_bipush (v := 60) hx hb dX5_track_12 (by decide) ?_
    obtain ⟨o3, ho3, hf1⟩ := z_ib hf
    replace hf := hf1
    clear hf1
    refine z_S0 (As := [.int v2, .int 4, .int 60]) (rest := []) ⟨hx, hb, hml, hown, hts⟩ (k_X5_in l dC dI cI cZ cJ cA H.size N v2 4 60 o3 ho3) (va_cwS 3 hts gX5_track_X5_in rfl rfl rfl (by decide +kernel) ⟨Nat.le_trans (Nat.le_of_ble_eq_true rfl) hRf, Nat.le_trans (Nat.le_of_ble_eq_true rfl) hRl⟩) hK hP hS hA hN rfl hl.1 rfl (Nat.le_of_ble_eq_true rfl) dX5_track_14 (fun H locs hP hS => ?_)
    refine lv_if_eq (tgt := 30) hx hb dX5_track_17 (by decide) (fun c4 => ?_) (fun c4 => ?_)
    · replace hf := z_ip hf c4
      refine lv_iconst (v := 0) hx hb dX5_track_30 (by decide) ?_
      obtain rfl := Option.some.inj hf
      exact hret _ _ _ _ _ dX5_track_31 rfl rfl hP hD hS
    · replace hf := z_im hf c4
      refine lv_iload_n hx hb dX5_track_20 rfl (lv_at hl 3 rfl) ?_
      refine lv_iconst (v := 1) hx hb dX5_track_21 (by decide) ?_
      refine lv_bipush (v := 9) hx hb dX5_track_22 (by decide) ?_
      obtain ⟨o5, ho5, hf1⟩ := z_ib hf
      replace hf := hf1
      clear hf1
      refine z_S0 (As := [.int v3, .int 1, .int 9]) (rest := []) ⟨hx, hb, hml, hown, hts⟩ (k_X5_in l dC dI cI cZ cJ cA H.size N v3 1 9 o5 ho5) (va_cwS 3 hts gX5_track_X5_in rfl rfl rfl (by decide +kernel) ⟨Nat.le_trans (Nat.le_of_ble_eq_true rfl) hRf, Nat.le_trans (Nat.le_of_ble_eq_true rfl) hRl⟩) hK hP hS hA hN rfl hl.1 rfl (Nat.le_of_ble_eq_true rfl) dX5_track_24 (fun H locs hP hS => ?_)
      refine lv_if_ne (tgt := 32) hx hb dX5_track_27 (by decide) (fun c6 => ?_) (fun c6 => ?_)
      · replace hf := z_im hf c6
        refine lv_aload_n hx hb dX5_track_32 rfl (lv_at hl 0 rfl) ?_
        refine lv_iload_n hx hb dX5_track_33 rfl (lv_at hl 1 rfl) ?_
        refine va_put (D := (dC, dI)) (ci := 5) (v := .int v1) (ty := .int) (C := RX5) (T := TX5) (N := 44) hx hb hts (fun w hw => List.mem_cons_of_mem _ (List.mem_append_right _ hw)) tyX5 tyX5_ok nmX5 hown hK hP hD hS 0 rfl rfl 19 (by decide) (hts (.fieldLink RX5 159 "OldStadiumModel" "lanes" "I") (List.mem_of_getElem? (i := 1) rfl)) (fun _ h9 => h9) rfl (by decide +kernel) rfl rfl (Nat.le_of_ble_eq_true rfl) dX5_track_34 (fun H locs hP hD hS => ?_)
        replace hP : va_P (dC, dI) vwCl (wX5 cI cZ cJ cA h0 a x1 x3 x4 x5 x6 x7 x9 x10 x14 x15 x16 v1 x20 x21 x22 x23 x24 x41 x42 f0 f2 f8 f11 f12 f13 f17 f18 f25 f26 f27 f28 f29 f30 f31 f32 f33 f34 f35 f36 f37 f38 f39 f40 f43) H := hP
        replace hD : va_D A (wX5 cI cZ cJ cA h0 a x1 x3 x4 x5 x6 x7 x9 x10 x14 x15 x16 v1 x20 x21 x22 x23 x24 x41 x42 f0 f2 f8 f11 f12 f13 f17 f18 f25 f26 f27 f28 f29 f30 f31 f32 f33 f34 f35 f36 f37 f38 f39 f40 f43) := hD
        refine lv_aload_n hx hb dX5_track_37 rfl (lv_at hl 0 rfl) ?_
        refine lv_iload_n hx hb dX5_track_38 rfl (lv_at hl 2 rfl) ?_
        refine va_put (D := (dC, dI)) (ci := 5) (v := .int v2) (ty := .int) (C := RX5) (T := TX5) (N := 44) hx hb hts (fun w hw => List.mem_cons_of_mem _ (List.mem_append_right _ hw)) tyX5 tyX5_ok nmX5 hown hK hP hD hS 0 rfl rfl 20 (by decide) (hts (.fieldLink RX5 162 "OldStadiumModel" "cells" "I") (List.mem_of_getElem? (i := 2) rfl)) (fun _ h9 => h9) rfl (by decide +kernel) rfl rfl (Nat.le_of_ble_eq_true rfl) dX5_track_39 (fun H locs hP hD hS => ?_)
        replace hP : va_P (dC, dI) vwCl (wX5 cI cZ cJ cA h0 a x1 x3 x4 x5 x6 x7 x9 x10 x14 x15 x16 v1 v2 x21 x22 x23 x24 x41 x42 f0 f2 f8 f11 f12 f13 f17 f18 f25 f26 f27 f28 f29 f30 f31 f32 f33 f34 f35 f36 f37 f38 f39 f40 f43) H := hP
        replace hD : va_D A (wX5 cI cZ cJ cA h0 a x1 x3 x4 x5 x6 x7 x9 x10 x14 x15 x16 v1 v2 x21 x22 x23 x24 x41 x42 f0 f2 f8 f11 f12 f13 f17 f18 f25 f26 f27 f28 f29 f30 f31 f32 f33 f34 f35 f36 f37 f38 f39 f40 f43) := hD
        refine lv_aload_n hx hb dX5_track_42 rfl (lv_at hl 0 rfl) ?_
        refine lv_iload_n hx hb dX5_track_43 rfl (lv_at hl 3 rfl) ?_
        refine va_put (D := (dC, dI)) (ci := 5) (v := .int v3) (ty := .int) (C := RX5) (T := TX5) (N := 44) hx hb hts (fun w hw => List.mem_cons_of_mem _ (List.mem_append_right _ hw)) tyX5 tyX5_ok nmX5 hown hK hP hD hS 0 rfl rfl 21 (by decide) (hts (.fieldLink RX5 165 "OldStadiumModel" "laps" "I") (List.mem_of_getElem? (i := 3) rfl)) (fun _ h9 => h9) rfl (by decide +kernel) rfl rfl (Nat.le_of_ble_eq_true rfl) dX5_track_44 (fun H locs hP hD hS => ?_)
        replace hP : va_P (dC, dI) vwCl (wX5 cI cZ cJ cA h0 a x1 x3 x4 x5 x6 x7 x9 x10 x14 x15 x16 v1 v2 v3 x22 x23 x24 x41 x42 f0 f2 f8 f11 f12 f13 f17 f18 f25 f26 f27 f28 f29 f30 f31 f32 f33 f34 f35 f36 f37 f38 f39 f40 f43) H := hP
        replace hD : va_D A (wX5 cI cZ cJ cA h0 a x1 x3 x4 x5 x6 x7 x9 x10 x14 x15 x16 v1 v2 v3 x22 x23 x24 x41 x42 f0 f2 f8 f11 f12 f13 f17 f18 f25 f26 f27 f28 f29 f30 f31 f32 f33 f34 f35 f36 f37 f38 f39 f40 f43) := hD
        refine lv_aload_n hx hb dX5_track_47 rfl (lv_at hl 0 rfl) ?_
        refine lv_iconst (v := 0) hx hb dX5_track_48 (by decide) ?_
        refine va_put (D := (dC, dI)) (ci := 5) (v := .int 0) (ty := .int) (C := RX5) (T := TX5) (N := 44) hx hb hts (fun w hw => List.mem_cons_of_mem _ (List.mem_append_right _ hw)) tyX5 tyX5_ok nmX5 hown hK hP hD hS 0 rfl rfl 22 (by decide) (hts (.fieldLink RX5 168 "OldStadiumModel" "tick" "I") (List.mem_of_getElem? (i := 4) rfl)) (fun _ h9 => h9) rfl (by decide +kernel) rfl rfl (Nat.le_of_ble_eq_true rfl) dX5_track_49 (fun H locs hP hD hS => ?_)
        replace hP : va_P (dC, dI) vwCl (wX5 cI cZ cJ cA h0 a x1 x3 x4 x5 x6 x7 x9 x10 x14 x15 x16 v1 v2 v3 0 x23 x24 x41 x42 f0 f2 f8 f11 f12 f13 f17 f18 f25 f26 f27 f28 f29 f30 f31 f32 f33 f34 f35 f36 f37 f38 f39 f40 f43) H := hP
        replace hD : va_D A (wX5 cI cZ cJ cA h0 a x1 x3 x4 x5 x6 x7 x9 x10 x14 x15 x16 v1 v2 v3 0 x23 x24 x41 x42 f0 f2 f8 f11 f12 f13 f17 f18 f25 f26 f27 f28 f29 f30 f31 f32 f33 f34 f35 f36 f37 f38 f39 f40 f43) := hD
        refine lv_aload_n hx hb dX5_track_52 rfl (lv_at hl 0 rfl) ?_
        refine lv_iconst (v := 0) hx hb dX5_track_53 (by decide) ?_
        refine va_put (D := (dC, dI)) (ci := 5) (v := .int 0) (ty := .int) (C := RX5) (T := TX5) (N := 44) hx hb hts (fun w hw => List.mem_cons_of_mem _ (List.mem_append_right _ hw)) tyX5 tyX5_ok nmX5 hown hK hP hD hS 0 rfl rfl 23 (by decide) (hts (.fieldLink RX5 171 "OldStadiumModel" "chariots" "I") (List.mem_of_getElem? (i := 5) rfl)) (fun _ h9 => h9) rfl (by decide +kernel) rfl rfl (Nat.le_of_ble_eq_true rfl) dX5_track_54 (fun H locs hP hD hS => ?_)
        replace hP : va_P (dC, dI) vwCl (wX5 cI cZ cJ cA h0 a x1 x3 x4 x5 x6 x7 x9 x10 x14 x15 x16 v1 v2 v3 0 0 x24 x41 x42 f0 f2 f8 f11 f12 f13 f17 f18 f25 f26 f27 f28 f29 f30 f31 f32 f33 f34 f35 f36 f37 f38 f39 f40 f43) H := hP
        replace hD : va_D A (wX5 cI cZ cJ cA h0 a x1 x3 x4 x5 x6 x7 x9 x10 x14 x15 x16 v1 v2 v3 0 0 x24 x41 x42 f0 f2 f8 f11 f12 f13 f17 f18 f25 f26 f27 f28 f29 f30 f31 f32 f33 f34 f35 f36 f37 f38 f39 f40 f43) := hD
        refine lv_aload_n hx hb dX5_track_57 rfl (lv_at hl 0 rfl) ?_
        refine lv_iconst (v := 0) hx hb dX5_track_58 (by decide) ?_
        refine va_put (D := (dC, dI)) (ci := 5) (v := .int 0) (ty := .int) (C := RX5) (T := TX5) (N := 44) hx hb hts (fun w hw => List.mem_cons_of_mem _ (List.mem_append_right _ hw)) tyX5 tyX5_ok nmX5 hown hK hP hD hS 0 rfl rfl 24 (by decide) (hts (.fieldLink RX5 174 "OldStadiumModel" "home" "I") (List.mem_of_getElem? (i := 6) rfl)) (fun _ h9 => h9) rfl (by decide +kernel) rfl rfl (Nat.le_of_ble_eq_true rfl) dX5_track_59 (fun H locs hP hD hS => ?_)
        replace hP : va_P (dC, dI) vwCl (wX5 cI cZ cJ cA h0 a x1 x3 x4 x5 x6 x7 x9 x10 x14 x15 x16 v1 v2 v3 0 0 0 x41 x42 f0 f2 f8 f11 f12 f13 f17 f18 f25 f26 f27 f28 f29 f30 f31 f32 f33 f34 f35 f36 f37 f38 f39 f40 f43) H := hP
        replace hD : va_D A (wX5 cI cZ cJ cA h0 a x1 x3 x4 x5 x6 x7 x9 x10 x14 x15 x16 v1 v2 v3 0 0 0 x41 x42 f0 f2 f8 f11 f12 f13 f17 f18 f25 f26 f27 f28 f29 f30 f31 f32 f33 f34 f35 f36 f37 f38 f39 f40 f43) := hD
        refine lv_iconst (v := 1) hx hb dX5_track_62 (by decide) ?_
        obtain rfl := Option.some.inj hf
        exact hret _ _ _ _ _ dX5_track_63 rfl rfl hP hD hS
      · replace hf := z_ip hf c6
        refine lv_iconst (v := 0) hx hb dX5_track_30 (by decide) ?_
        obtain rfl := Option.some.inj hf
        exact hret _ _ _ _ _ dX5_track_31 rfl rfl hP hD hS
set_option maxHeartbeats 4000000 in
set_option maxRecDepth 100000 in
theorem k_X5_track (l : Launch) (dC : Nat → ClassId) (dI : Nat → Nat → Nat) (cI cZ cJ cA : ClassId) (h0 : Nat) (a : Nat → Nat) (sz : Nat) (N : Nat) (v1 : Int32) (v2 : Int32) (v3 : Int32) (x1 : Int32) (x3 : Int32) (x4 : Int32) (x5 : Int32) (x6 : Int32) (x7 : Int32) (x9 : Int32) (x10 : Int32) (x14 : Int32) (x15 : Int32) (x16 : Int32) (x19 : Int32) (x20 : Int32) (x21 : Int32) (x22 : Int32) (x23 : Int32) (x24 : Int32) (x41 : Int32) (x42 : Int32) (f0 : (Nat → Int32)) (f2 : (Nat → Int32)) (f8 : (Nat → Int32)) (f11 : (Nat → Int32)) (f12 : (Nat → Int32)) (f13 : (Nat → Int32)) (f17 : (Nat → Int32)) (f18 : (Nat → Int32)) (f25 : (Nat → Int32)) (f26 : (Nat → Int32)) (f27 : (Nat → Int32)) (f28 : (Nat → Int32)) (f29 : (Nat → Int32)) (f30 : (Nat → Int32)) (f31 : (Nat → Int32)) (f32 : (Nat → Int32)) (f33 : (Nat → Int32)) (f34 : (Nat → Int32)) (f35 : (Nat → Int32)) (f36 : (Nat → Int32)) (f37 : (Nat → Int32)) (f38 : (Nat → Int32)) (f39 : (Nat → Int32)) (f40 : (Nat → Int32)) (f43 : (Nat → Int32)) (o : (Int32 × Int32 × Int32 × Int32 × Int32 × Int32 × Int32)) (hf : q_X5_track N v1 v2 v3 x19 x20 x21 x22 x23 x24 = some o) : Met l yX5_track wsX5_track ({ frames := 1, cells := 0, slots := 0, locals := 22 } : Room) (z_Pre dC dI (z_ty cI cZ cJ cA) [.ref h0, .int v1, .int v2, .int v3] sz (wX5 cI cZ cJ cA h0 a x1 x3 x4 x5 x6 x7 x9 x10 x14 x15 x16 x19 x20 x21 x22 x23 x24 x41 x42 f0 f2 f8 f11 f12 f13 f17 f18 f25 f26 f27 f28 f29 f30 f31 f32 f33 f34 f35 f36 f37 f38 f39 f40 f43)) (z_Pi dC dI o.1 (wX5 cI cZ cJ cA h0 a x1 x3 x4 x5 x6 x7 x9 x10 x14 x15 x16 o.2.1 o.2.2.1 o.2.2.2.1 o.2.2.2.2.1 o.2.2.2.2.2.1 o.2.2.2.2.2.2 x41 x42 f0 f2 f8 f11 f12 f13 f17 f18 f25 f26 f27 f28 f29 f30 f31 f32 f33 f34 f35 f36 f37 f38 f39 f40 f43) sz (wX5 cI cZ cJ cA h0 a x1 x3 x4 x5 x6 x7 x9 x10 x14 x15 x16 x19 x20 x21 x22 x23 x24 x41 x42 f0 f2 f8 f11 f12 f13 f17 f18 f25 f26 f27 f28 f29 f30 f31 f32 f33 f34 f35 f36 f37 f38 f39 f40 f43)) 0 0 (va_A (wX5 cI cZ cJ cA h0 a x1 x3 x4 x5 x6 x7 x9 x10 x14 x15 x16 x19 x20 x21 x22 x23 x24 x41 x42 f0 f2 f8 f11 f12 f13 f17 f18 f25 f26 f27 f28 f29 f30 f31 f32 f33 f34 f35 f36 f37 f38 f39 f40 f43) sz) := by
  refine Met.ofW (cc := cX5_track) (maxL := 4) (ret := (some .boolean)) (by decide) rfl ?_
  intro p e s m args below meth c s₁ B hml hv
  obtain ⟨rfl, hsz, hP, hK, hD0, hN⟩ := hv
  subst hsz
  have hl := lv_entry ([.ref h0, .int v1, .int v2, .int v3]) (n := 4) (Nat.le_of_ble_eq_true rfl)
  rw [lg_entry_eq]
  refine b_X5_track N ⟨⟨B.exec, B.bytes, hml, findClass_of_methodNamed B.named, atoms_spec (ws := wsX5_track) B.pre⟩, Nat.le_refl _, Nat.le_refl _, fun q h => Or.inr h, hN, hK⟩ hf hP hD0.self va_S.rf hl (fun pc H locs ls r hd hr hn hP hD hS => ?_)
  subst hr
  exact W.zret B.exec B.bytes B.returns hn (fun t ht hW => ⟨⟨_, (), rfl, rfl, by rw [ht]; exact hP, hD⟩, hS.F ht⟩) hS.2.2 hd
def q_X5_chariot_L51 (N : Nat) (v1 : Int32) (x23 : Int32) (f25 : (Nat → Int32)) (f26 : (Nat → Int32)) (f27 : (Nat → Int32)) (f28 : (Nat → Int32)) (f29 : (Nat → Int32)) (f30 : (Nat → Int32)) (f31 : (Nat → Int32)) (f32 : (Nat → Int32)) : Nat → Int32 → Option (Sum (Int32 × Int32 × (Nat → Int32) × (Nat → Int32) × (Nat → Int32) × (Nat → Int32) × (Nat → Int32) × (Nat → Int32) × (Nat → Int32) × (Nat → Int32)) Unit)
  | 0, _ => none
  | n + 1, v3 =>
    (if x23 ≤ v3 then
     (some (Sum.inr ()))
    else
     (if z_in v3 8 then
     (if (f26 (Int32.toNatClampNeg v3)) = v1 then
      (some (Sum.inl ((-1), x23, f25, f26, f27, f28, f29, f30, f31, f32)))
     else
      (q_X5_chariot_L51 N v1 x23 f25 f26 f27 f28 f29 f30 f31 f32 n (v3 + 1)))
     else none))
set_option maxHeartbeats 4000000 in
set_option maxRecDepth 100000 in
theorem b_X5_chariot_L51 {p : Program} {l : Launch} {e : Env} {R : Room} {s : State} {m : MethodId} {args : Array Value} {below : List Frame} {meth : Method} {c : Code} {Q : State → Prop} {A : Nat → Prop} {dC : Nat → ClassId} {dI : Nat → Nat → Nat} {cI cZ cJ cA : ClassId} {h0 : Nat} {a : Nat → Nat} (N : Nat) (C0 : z_Cx p s m args c cX5_chariot 4 wsX5_chariot RX5 R 1 22 A dC dI (z_ty cI cZ cJ cA)) : ∀ (n : Nat) {v1 : Int32} {v2 : Int32} {v3 : Int32} {x1 : Int32} {x3 : Int32} {x4 : Int32} {x5 : Int32} {x6 : Int32} {x7 : Int32} {x9 : Int32} {x10 : Int32} {x14 : Int32} {x15 : Int32} {x16 : Int32} {x19 : Int32} {x20 : Int32} {x21 : Int32} {x22 : Int32} {x23 : Int32} {x24 : Int32} {x41 : Int32} {x42 : Int32} {f0 : (Nat → Int32)} {f2 : (Nat → Int32)} {f8 : (Nat → Int32)} {f11 : (Nat → Int32)} {f12 : (Nat → Int32)} {f13 : (Nat → Int32)} {f17 : (Nat → Int32)} {f18 : (Nat → Int32)} {f25 : (Nat → Int32)} {f26 : (Nat → Int32)} {f27 : (Nat → Int32)} {f28 : (Nat → Int32)} {f29 : (Nat → Int32)} {f30 : (Nat → Int32)} {f31 : (Nat → Int32)} {f32 : (Nat → Int32)} {f33 : (Nat → Int32)} {f34 : (Nat → Int32)} {f35 : (Nat → Int32)} {f36 : (Nat → Int32)} {f37 : (Nat → Int32)} {f38 : (Nat → Int32)} {f39 : (Nat → Int32)} {f40 : (Nat → Int32)} {f43 : (Nat → Int32)} {o : (Sum (Int32 × Int32 × (Nat → Int32) × (Nat → Int32) × (Nat → Int32) × (Nat → Int32) × (Nat → Int32) × (Nat → Int32) × (Nat → Int32) × (Nat → Int32)) Unit)} {H : Heap} {locs : List Loc} {ls : Array Slot}, q_X5_chariot_L51 N v1 x23 f25 f26 f27 f28 f29 f30 f31 f32 n v3 = some o → va_P (dC, dI) vwCl (wX5 cI cZ cJ cA h0 a x1 x3 x4 x5 x6 x7 x9 x10 x14 x15 x16 x19 x20 x21 x22 x23 x24 x41 x42 f0 f2 f8 f11 f12 f13 f17 f18 f25 f26 f27 f28 f29 f30 f31 f32 f33 f34 f35 f36 f37 f38 f39 f40 f43) H → va_D A (wX5 cI cZ cJ cA h0 a x1 x3 x4 x5 x6 x7 x9 x10 x14 x15 x16 x19 x20 x21 x22 x23 x24 x41 x42 f0 f2 f8 f11 f12 f13 f17 f18 f25 f26 f27 f28 f29 f30 f31 f32 f33 f34 f35 f36 f37 f38 f39 f40 f43) → va_S A s.heap H locs → lv_has ls 4 [(0, .ref h0), (1, .int v1), (2, .int v2), (3, .int v3)] →
    (∀ (t : (Int32 × Int32 × (Nat → Int32) × (Nat → Int32) × (Nat → Int32) × (Nat → Int32) × (Nat → Int32) × (Nat → Int32) × (Nat → Int32) × (Nat → Int32))), o = Sum.inl t → ∀ (pc : Nat) (H : Heap) (locs : List Loc) (ls : Array Slot) (r : Int32), decode cX5_chariot pc = .ok (.ireturn, 1) → r = t.1 → va_P (dC, dI) vwCl (wX5 cI cZ cJ cA h0 a x1 x3 x4 x5 x6 x7 x9 x10 x14 x15 x16 x19 x20 x21 x22 t.2.1 x24 x41 x42 f0 f2 f8 f11 f12 f13 f17 f18 t.2.2.1 t.2.2.2.1 t.2.2.2.2.1 t.2.2.2.2.2.1 t.2.2.2.2.2.2.1 t.2.2.2.2.2.2.2.1 t.2.2.2.2.2.2.2.2.1 t.2.2.2.2.2.2.2.2.2 f33 f34 f35 f36 f37 f38 f39 f40 f43) H → va_D A (wX5 cI cZ cJ cA h0 a x1 x3 x4 x5 x6 x7 x9 x10 x14 x15 x16 x19 x20 x21 x22 t.2.1 x24 x41 x42 f0 f2 f8 f11 f12 f13 f17 f18 t.2.2.1 t.2.2.2.1 t.2.2.2.2.1 t.2.2.2.2.2.1 t.2.2.2.2.2.2.1 t.2.2.2.2.2.2.2.1 t.2.2.2.2.2.2.2.2.1 t.2.2.2.2.2.2.2.2.2 f33 f34 f35 f36 f37 f38 f39 f40 f43) → va_S A s.heap H locs → W p l e R s m args below meth c H locs 0 0 Q (F0 m pc ls [.int r])) →
    (∀ (t : Unit) (H : Heap) (locs : List Loc) (ls : Array Slot), o = Sum.inr t → va_P (dC, dI) vwCl (wX5 cI cZ cJ cA h0 a x1 x3 x4 x5 x6 x7 x9 x10 x14 x15 x16 x19 x20 x21 x22 x23 x24 x41 x42 f0 f2 f8 f11 f12 f13 f17 f18 f25 f26 f27 f28 f29 f30 f31 f32 f33 f34 f35 f36 f37 f38 f39 f40 f43) H → va_D A (wX5 cI cZ cJ cA h0 a x1 x3 x4 x5 x6 x7 x9 x10 x14 x15 x16 x19 x20 x21 x22 x23 x24 x41 x42 f0 f2 f8 f11 f12 f13 f17 f18 f25 f26 f27 f28 f29 f30 f31 f32 f33 f34 f35 f36 f37 f38 f39 f40 f43) → va_S A s.heap H locs → lv_has ls 4 [(0, .ref h0), (1, .int v1), (2, .int v2)] → W p l e R s m args below meth c H locs 0 0 Q (F0 m 77 ls [])) →
    W p l e R s m args below meth c H locs 0 0 Q (F0 m 51 ls []) := by
  obtain ⟨⟨hx, hb, hml, hown, hts⟩, hRf, hRl, hA, hN, hK⟩ := C0
  intro n
  induction n with
  | zero =>
    intro v1 v2 v3 x1 x3 x4 x5 x6 x7 x9 x10 x14 x15 x16 x19 x20 x21 x22 x23 x24 x41 x42 f0 f2 f8 f11 f12 f13 f17 f18 f25 f26 f27 f28 f29 f30 f31 f32 f33 f34 f35 f36 f37 f38 f39 f40 f43 o H locs ls hf
    cases hf
  | succ n ih =>
    intro v1 v2 v3 x1 x3 x4 x5 x6 x7 x9 x10 x14 x15 x16 x19 x20 x21 x22 x23 x24 x41 x42 f0 f2 f8 f11 f12 f13 f17 f18 f25 f26 f27 f28 f29 f30 f31 f32 f33 f34 f35 f36 f37 f38 f39 f40 f43 o H locs ls hf hP hD hS hl hret hexit
    rw [q_X5_chariot_L51] at hf
    refine lv_iload_n hx hb dX5_chariot_51 rfl (lv_at hl 3 rfl) ?_
    refine lv_aload_n hx hb dX5_chariot_52 rfl (lv_at hl 0 rfl) ?_
    refine va_get (D := (dC, dI)) (ci := 5) (v := .int x23) (C := RX5) (T := TX5) (N := 44) hx hb hts (fun w hw => List.mem_cons_of_mem _ (List.mem_append_right _ hw)) hown hK hP 0 rfl rfl 23 (by decide) (hts (.fieldLink RX5 171 "OldStadiumModel" "chariots" "I") (List.mem_of_getElem? (i := 2) rfl)) (fun _ h9 => h9) rfl dX5_chariot_53 ?_
    refine lv_icmp_ge (tgt := 77) hx hb dX5_chariot_56 (by decide) (fun c1 => ?_) (fun c1 => ?_)
    · replace hf := z_ip hf c1
      obtain rfl := Option.some.inj hf
      exact hexit _ _ _ _ rfl hP hD hS (lv_sub hl [0, 1, 2] rfl)
    · replace hf := z_im hf c1
      refine lv_aload_n hx hb dX5_chariot_59 rfl (lv_at hl 0 rfl) ?_
      refine va_get (D := (dC, dI)) (ci := 5) (v := .ref (a 26)) (C := RX5) (T := TX5) (N := 44) hx hb hts (fun w hw => List.mem_cons_of_mem _ (List.mem_append_right _ hw)) hown hK hP 0 rfl rfl 26 (by decide) (hts (.fieldLink RX5 45 "OldStadiumModel" "lane" "[I") (List.mem_of_getElem? (i := 4) rfl)) (fun _ h9 => h9) rfl dX5_chariot_60 ?_
      refine lv_iload_n hx hb dX5_chariot_63 rfl (lv_at hl 3 rfl) ?_
      have b2 := z_c1 hf
      replace hf := z_c2 hf
      refine va_iald hx hb hK hP 10 0 rfl rfl b2 dX5_chariot_64 ?_
      refine lv_iload_n hx hb dX5_chariot_65 rfl (lv_at hl 1 rfl) ?_
      refine lv_icmp_ne (tgt := 71) hx hb dX5_chariot_66 (by decide) (fun c3 => ?_) (fun c3 => ?_)
      · replace hf := z_im hf c3
        refine lv_iinc (v := (v3 + 1)) (lv' := [(3, .int (v3 + 1)), (0, .ref h0), (1, .int v1), (2, .int v2)]) hx hb dX5_chariot_71 hl (k := 3) rfl rfl (by decide) rfl (fun ls hl => ?_)
        refine lv_goto (tgt := 51) hx hb dX5_chariot_74 (by decide) ?_
        exact ih hf hP hD hS (lv_sub hl [1, 2, 3, 0] rfl) hret hexit
      · replace hf := z_ip hf c3
        refine lv_iconst (v := (-1)) hx hb dX5_chariot_69 (by decide) ?_
        obtain rfl := Option.some.inj hf
        exact hret _ rfl _ _ _ _ _ dX5_chariot_70 rfl hP hD hS
def q_X5_chariot (N : Nat) (v1 : Int32) (v2 : Int32) (x19 : Int32) (x22 : Int32) (x23 : Int32) (f25 : (Nat → Int32)) (f26 : (Nat → Int32)) (f27 : (Nat → Int32)) (f28 : (Nat → Int32)) (f29 : (Nat → Int32)) (f30 : (Nat → Int32)) (f31 : (Nat → Int32)) (f32 : (Nat → Int32)) : Option (Int32 × Int32 × (Nat → Int32) × (Nat → Int32) × (Nat → Int32) × (Nat → Int32) × (Nat → Int32) × (Nat → Int32) × (Nat → Int32) × (Nat → Int32)) :=
  (if x19 = 0 then
   (some ((-1), x23, f25, f26, f27, f28, f29, f30, f31, f32))
  else
   (Option.bind (q_X5_in N v1 0 (x19 - 1)) (fun o2 =>
   (if o2 = 0 then
    (some ((-1), x23, f25, f26, f27, f28, f29, f30, f31, f32))
   else
    (Option.bind (q_X5_in N v2 0 20) (fun o4 =>
    (if o4 = 0 then
     (some ((-1), x23, f25, f26, f27, f28, f29, f30, f31, f32))
    else
     (if x23 = 8 then
      (some ((-1), x23, f25, f26, f27, f28, f29, f30, f31, f32))
     else
      (if x22 ≤ 0 then
       (Option.bind (q_X5_chariot_L51 N v1 x23 f25 f26 f27 f28 f29 f30 f31 f32 N 0) (Sum.elim (fun r10 => (some r10)) (fun s9 =>
       (if z_in x23 8 then
       (some (((x23 + 1) - 1), (x23 + 1), (upd f25 (Int32.toNatClampNeg x23) 0), (upd f26 (Int32.toNatClampNeg x23) v1), (upd f27 (Int32.toNatClampNeg x23) 0), (upd f28 (Int32.toNatClampNeg x23) 0), (upd f29 (Int32.toNatClampNeg x23) 0), (upd f30 (Int32.toNatClampNeg x23) 0), (upd f31 (Int32.toNatClampNeg x23) v2), (upd f32 (Int32.toNatClampNeg x23) 0)))
       else none))))
      else
       (some ((-1), x23, f25, f26, f27, f28, f29, f30, f31, f32)))))))))))
set_option maxHeartbeats 4000000 in
set_option maxRecDepth 100000 in
theorem b_X5_chariot {p : Program} {l : Launch} {e : Env} {R : Room} {s : State} {m : MethodId} {args : Array Value} {below : List Frame} {meth : Method} {c : Code} {Q : State → Prop} {A : Nat → Prop} {dC : Nat → ClassId} {dI : Nat → Nat → Nat} {cI cZ cJ cA : ClassId} {h0 : Nat} {a : Nat → Nat} (N : Nat) (C0 : z_Cx p s m args c cX5_chariot 4 wsX5_chariot RX5 R 1 22 A dC dI (z_ty cI cZ cJ cA)) {v1 : Int32} {v2 : Int32} {x1 : Int32} {x3 : Int32} {x4 : Int32} {x5 : Int32} {x6 : Int32} {x7 : Int32} {x9 : Int32} {x10 : Int32} {x14 : Int32} {x15 : Int32} {x16 : Int32} {x19 : Int32} {x20 : Int32} {x21 : Int32} {x22 : Int32} {x23 : Int32} {x24 : Int32} {x41 : Int32} {x42 : Int32} {f0 : (Nat → Int32)} {f2 : (Nat → Int32)} {f8 : (Nat → Int32)} {f11 : (Nat → Int32)} {f12 : (Nat → Int32)} {f13 : (Nat → Int32)} {f17 : (Nat → Int32)} {f18 : (Nat → Int32)} {f25 : (Nat → Int32)} {f26 : (Nat → Int32)} {f27 : (Nat → Int32)} {f28 : (Nat → Int32)} {f29 : (Nat → Int32)} {f30 : (Nat → Int32)} {f31 : (Nat → Int32)} {f32 : (Nat → Int32)} {f33 : (Nat → Int32)} {f34 : (Nat → Int32)} {f35 : (Nat → Int32)} {f36 : (Nat → Int32)} {f37 : (Nat → Int32)} {f38 : (Nat → Int32)} {f39 : (Nat → Int32)} {f40 : (Nat → Int32)} {f43 : (Nat → Int32)} {o : (Int32 × Int32 × (Nat → Int32) × (Nat → Int32) × (Nat → Int32) × (Nat → Int32) × (Nat → Int32) × (Nat → Int32) × (Nat → Int32) × (Nat → Int32))} {H : Heap} {locs : List Loc} {ls : Array Slot} (hf : q_X5_chariot N v1 v2 x19 x22 x23 f25 f26 f27 f28 f29 f30 f31 f32 = some o) (hP : va_P (dC, dI) vwCl (wX5 cI cZ cJ cA h0 a x1 x3 x4 x5 x6 x7 x9 x10 x14 x15 x16 x19 x20 x21 x22 x23 x24 x41 x42 f0 f2 f8 f11 f12 f13 f17 f18 f25 f26 f27 f28 f29 f30 f31 f32 f33 f34 f35 f36 f37 f38 f39 f40 f43) H) (hD : va_D A (wX5 cI cZ cJ cA h0 a x1 x3 x4 x5 x6 x7 x9 x10 x14 x15 x16 x19 x20 x21 x22 x23 x24 x41 x42 f0 f2 f8 f11 f12 f13 f17 f18 f25 f26 f27 f28 f29 f30 f31 f32 f33 f34 f35 f36 f37 f38 f39 f40 f43)) (hS : va_S A s.heap H locs) (hl : lv_has ls 4 [(0, .ref h0), (1, .int v1), (2, .int v2)])
    (hret : ∀ (pc : Nat) (H : Heap) (locs : List Loc) (ls : Array Slot) (r : Int32), decode cX5_chariot pc = .ok (.ireturn, 1) → r = o.1 → va_P (dC, dI) vwCl (wX5 cI cZ cJ cA h0 a x1 x3 x4 x5 x6 x7 x9 x10 x14 x15 x16 x19 x20 x21 x22 o.2.1 x24 x41 x42 f0 f2 f8 f11 f12 f13 f17 f18 o.2.2.1 o.2.2.2.1 o.2.2.2.2.1 o.2.2.2.2.2.1 o.2.2.2.2.2.2.1 o.2.2.2.2.2.2.2.1 o.2.2.2.2.2.2.2.2.1 o.2.2.2.2.2.2.2.2.2 f33 f34 f35 f36 f37 f38 f39 f40 f43) H → va_D A (wX5 cI cZ cJ cA h0 a x1 x3 x4 x5 x6 x7 x9 x10 x14 x15 x16 x19 x20 x21 x22 o.2.1 x24 x41 x42 f0 f2 f8 f11 f12 f13 f17 f18 o.2.2.1 o.2.2.2.1 o.2.2.2.2.1 o.2.2.2.2.2.1 o.2.2.2.2.2.2.1 o.2.2.2.2.2.2.2.1 o.2.2.2.2.2.2.2.2.1 o.2.2.2.2.2.2.2.2.2 f33 f34 f35 f36 f37 f38 f39 f40 f43) → va_S A s.heap H locs → W p l e R s m args below meth c H locs 0 0 Q (F0 m pc ls [.int r])) :
    W p l e R s m args below meth c H locs 0 0 Q (F0 m 0 ls []) := by
  obtain ⟨⟨hx, hb, hml, hown, hts⟩, hRf, hRl, hA, hN, hK⟩ := C0
  unfold q_X5_chariot at hf
  refine lv_aload_n hx hb dX5_chariot_0 rfl (lv_at hl 0 rfl) ?_
  refine va_get (D := (dC, dI)) (ci := 5) (v := .int x19) (C := RX5) (T := TX5) (N := 44) hx hb hts (fun w hw => List.mem_cons_of_mem _ (List.mem_append_right _ hw)) hown hK hP 0 rfl rfl 19 (by decide) (hts (.fieldLink RX5 159 "OldStadiumModel" "lanes" "I") (List.mem_of_getElem? (i := 1) rfl)) (fun _ h9 => h9) rfl dX5_chariot_1 ?_
  refine lv_if_eq (tgt := 47) hx hb dX5_chariot_4 (by decide) (fun c1 => ?_) (fun c1 => ?_)
  · replace hf := z_ip hf c1
    refine lv_iconst (v := (-1)) hx hb dX5_chariot_47 (by decide) ?_
    obtain rfl := Option.some.inj hf
    exact hret _ _ _ _ _ dX5_chariot_48 rfl hP hD hS
  · replace hf := z_im hf c1
    refine lv_iload_n hx hb dX5_chariot_7 rfl (lv_at hl 1 rfl) ?_
    refine lv_iconst (v := 0) hx hb dX5_chariot_8 (by decide) ?_
    refine lv_aload_n hx hb dX5_chariot_9 rfl (lv_at hl 0 rfl) ?_
    refine va_get (D := (dC, dI)) (ci := 5) (v := .int x19) (C := RX5) (T := TX5) (N := 44) hx hb hts (fun w hw => List.mem_cons_of_mem _ (List.mem_append_right _ hw)) hown hK hP 0 rfl rfl 19 (by decide) (hts (.fieldLink RX5 159 "OldStadiumModel" "lanes" "I") (List.mem_of_getElem? (i := 1) rfl)) (fun _ h9 => h9) rfl dX5_chariot_10 ?_
    refine lv_iconst (v := 1) hx hb dX5_chariot_13 (by decide) ?_
    refine lv_isub hx hb dX5_chariot_14 ?_
    obtain ⟨o2, ho2, hf1⟩ := z_ib hf
    replace hf := hf1
    clear hf1
    refine z_S0 (As := [.int v1, .int 0, .int (x19 - 1)]) (rest := []) ⟨hx, hb, hml, hown, hts⟩ (k_X5_in l dC dI cI cZ cJ cA H.size N v1 0 (x19 - 1) o2 ho2) (va_cwS 3 hts gX5_chariot_X5_in rfl rfl rfl (by decide +kernel) ⟨Nat.le_trans (Nat.le_of_ble_eq_true rfl) hRf, Nat.le_trans (Nat.le_of_ble_eq_true rfl) hRl⟩) hK hP hS hA hN rfl hl.1 rfl (Nat.le_of_ble_eq_true rfl) dX5_chariot_15 (fun H locs hP hS => ?_)
    refine lv_if_eq (tgt := 47) hx hb dX5_chariot_18 (by decide) (fun c3 => ?_) (fun c3 => ?_)
    · replace hf := z_ip hf c3
      refine lv_iconst (v := (-1)) hx hb dX5_chariot_47 (by decide) ?_
      obtain rfl := Option.some.inj hf
      exact hret _ _ _ _ _ dX5_chariot_48 rfl hP hD hS
    · replace hf := z_im hf c3
      refine lv_iload_n hx hb dX5_chariot_21 rfl (lv_at hl 2 rfl) ?_
      refine lv_iconst (v := 0) hx hb dX5_chariot_22 (by decide) ?_
      refine lv_bipush (v := 20) hx hb dX5_chariot_23 (by decide) ?_
      obtain ⟨o4, ho4, hf1⟩ := z_ib hf
      replace hf := hf1
      clear hf1
      refine z_S0 (As := [.int v2, .int 0, .int 20]) (rest := []) ⟨hx, hb, hml, hown, hts⟩ (k_X5_in l dC dI cI cZ cJ cA H.size N v2 0 20 o4 ho4) (va_cwS 3 hts gX5_chariot_X5_in rfl rfl rfl (by decide +kernel) ⟨Nat.le_trans (Nat.le_of_ble_eq_true rfl) hRf, Nat.le_trans (Nat.le_of_ble_eq_true rfl) hRl⟩) hK hP hS hA hN rfl hl.1 rfl (Nat.le_of_ble_eq_true rfl) dX5_chariot_25 (fun H locs hP hS => ?_)
      refine lv_if_eq (tgt := 47) hx hb dX5_chariot_28 (by decide) (fun c5 => ?_) (fun c5 => ?_)
      · replace hf := z_ip hf c5
        refine lv_iconst (v := (-1)) hx hb dX5_chariot_47 (by decide) ?_
        obtain rfl := Option.some.inj hf
        exact hret _ _ _ _ _ dX5_chariot_48 rfl hP hD hS
      · replace hf := z_im hf c5
        refine lv_aload_n hx hb dX5_chariot_31 rfl (lv_at hl 0 rfl) ?_
        refine va_get (D := (dC, dI)) (ci := 5) (v := .int x23) (C := RX5) (T := TX5) (N := 44) hx hb hts (fun w hw => List.mem_cons_of_mem _ (List.mem_append_right _ hw)) hown hK hP 0 rfl rfl 23 (by decide) (hts (.fieldLink RX5 171 "OldStadiumModel" "chariots" "I") (List.mem_of_getElem? (i := 2) rfl)) (fun _ h9 => h9) rfl dX5_chariot_32 ?_
        refine lv_bipush (v := 8) hx hb dX5_chariot_35 (by decide) ?_
        refine lv_icmp_eq (tgt := 47) hx hb dX5_chariot_37 (by decide) (fun c6 => ?_) (fun c6 => ?_)
        · replace hf := z_ip hf c6
          refine lv_iconst (v := (-1)) hx hb dX5_chariot_47 (by decide) ?_
          obtain rfl := Option.some.inj hf
          exact hret _ _ _ _ _ dX5_chariot_48 rfl hP hD hS
        · replace hf := z_im hf c6
          refine lv_aload_n hx hb dX5_chariot_40 rfl (lv_at hl 0 rfl) ?_
          refine va_get (D := (dC, dI)) (ci := 5) (v := .int x22) (C := RX5) (T := TX5) (N := 44) hx hb hts (fun w hw => List.mem_cons_of_mem _ (List.mem_append_right _ hw)) hown hK hP 0 rfl rfl 22 (by decide) (hts (.fieldLink RX5 168 "OldStadiumModel" "tick" "I") (List.mem_of_getElem? (i := 3) rfl)) (fun _ h9 => h9) rfl dX5_chariot_41 ?_
          refine lv_if_le (tgt := 49) hx hb dX5_chariot_44 (by decide) (fun c7 => ?_) (fun c7 => ?_)
          · replace hf := z_ip hf c7
            refine lv_iconst (v := 0) hx hb dX5_chariot_49 (by decide) ?_
            refine lv_istore_n (lv' := [(3, .int 0), (0, .ref h0), (1, .int v1), (2, .int v2)]) hx hb dX5_chariot_50 rfl hl (by decide) rfl (fun ls hl => ?_)
            obtain ⟨t8, ht8, hf1⟩ := z_ib hf
            replace hf := hf1
            clear hf1
            refine b_X5_chariot_L51 N ⟨⟨hx, hb, hml, hown, hts⟩, hRf, hRl, hA, hN, hK⟩ N ht8 hP hD hS (lv_sub hl [1, 2, 3, 0] rfl) (fun r10 e1 pc H locs ls r0 hd hr hP hD hS => ?_) (fun s9 H locs ls e1 hP hD hS hl => ?_)
            · subst e1
              have hf := z_sl hf
              obtain rfl := Option.some.inj hf
              exact hret pc H locs ls r0 hd hr hP hD hS
            subst e1
            replace hf := z_sr hf
            refine lv_aload_n hx hb dX5_chariot_77 rfl (lv_at hl 0 rfl) ?_
            refine va_get (D := (dC, dI)) (ci := 5) (v := .ref (a 25)) (C := RX5) (T := TX5) (N := 44) hx hb hts (fun w hw => List.mem_cons_of_mem _ (List.mem_append_right _ hw)) hown hK hP 0 rfl rfl 25 (by decide) (hts (.fieldLink RX5 42 "OldStadiumModel" "state" "[I") (List.mem_of_getElem? (i := 5) rfl)) (fun _ h9 => h9) rfl dX5_chariot_78 ?_
            refine lv_aload_n hx hb dX5_chariot_81 rfl (lv_at hl 0 rfl) ?_
            refine va_get (D := (dC, dI)) (ci := 5) (v := .int x23) (C := RX5) (T := TX5) (N := 44) hx hb hts (fun w hw => List.mem_cons_of_mem _ (List.mem_append_right _ hw)) hown hK hP 0 rfl rfl 23 (by decide) (hts (.fieldLink RX5 171 "OldStadiumModel" "chariots" "I") (List.mem_of_getElem? (i := 2) rfl)) (fun _ h9 => h9) rfl dX5_chariot_82 ?_
            refine lv_iconst (v := 0) hx hb dX5_chariot_85 (by decide) ?_
            have b11 := z_c1 hf
            replace hf := z_c2 hf
            refine va_iast hx hb hK hP hD hS 9 0 rfl rfl b11 dX5_chariot_86 (fun H locs hP hD hS => ?_)
            replace hP : va_P (dC, dI) vwCl (wX5 cI cZ cJ cA h0 a x1 x3 x4 x5 x6 x7 x9 x10 x14 x15 x16 x19 x20 x21 x22 x23 x24 x41 x42 f0 f2 f8 f11 f12 f13 f17 f18 (upd f25 (Int32.toNatClampNeg x23) 0) f26 f27 f28 f29 f30 f31 f32 f33 f34 f35 f36 f37 f38 f39 f40 f43) H := hP
            replace hD : va_D A (wX5 cI cZ cJ cA h0 a x1 x3 x4 x5 x6 x7 x9 x10 x14 x15 x16 x19 x20 x21 x22 x23 x24 x41 x42 f0 f2 f8 f11 f12 f13 f17 f18 (upd f25 (Int32.toNatClampNeg x23) 0) f26 f27 f28 f29 f30 f31 f32 f33 f34 f35 f36 f37 f38 f39 f40 f43) := hD
            refine lv_aload_n hx hb dX5_chariot_87 rfl (lv_at hl 0 rfl) ?_
            refine va_get (D := (dC, dI)) (ci := 5) (v := .ref (a 26)) (C := RX5) (T := TX5) (N := 44) hx hb hts (fun w hw => List.mem_cons_of_mem _ (List.mem_append_right _ hw)) hown hK hP 0 rfl rfl 26 (by decide) (hts (.fieldLink RX5 45 "OldStadiumModel" "lane" "[I") (List.mem_of_getElem? (i := 4) rfl)) (fun _ h9 => h9) rfl dX5_chariot_88 ?_
            refine lv_aload_n hx hb dX5_chariot_91 rfl (lv_at hl 0 rfl) ?_
            refine va_get (D := (dC, dI)) (ci := 5) (v := .int x23) (C := RX5) (T := TX5) (N := 44) hx hb hts (fun w hw => List.mem_cons_of_mem _ (List.mem_append_right _ hw)) hown hK hP 0 rfl rfl 23 (by decide) (hts (.fieldLink RX5 171 "OldStadiumModel" "chariots" "I") (List.mem_of_getElem? (i := 2) rfl)) (fun _ h9 => h9) rfl dX5_chariot_92 ?_
            refine lv_iload_n hx hb dX5_chariot_95 rfl (lv_at hl 1 rfl) ?_
            refine va_iast hx hb hK hP hD hS 10 0 rfl rfl b11 dX5_chariot_96 (fun H locs hP hD hS => ?_)
            replace hP : va_P (dC, dI) vwCl (wX5 cI cZ cJ cA h0 a x1 x3 x4 x5 x6 x7 x9 x10 x14 x15 x16 x19 x20 x21 x22 x23 x24 x41 x42 f0 f2 f8 f11 f12 f13 f17 f18 (upd f25 (Int32.toNatClampNeg x23) 0) (upd f26 (Int32.toNatClampNeg x23) v1) f27 f28 f29 f30 f31 f32 f33 f34 f35 f36 f37 f38 f39 f40 f43) H := hP
            replace hD : va_D A (wX5 cI cZ cJ cA h0 a x1 x3 x4 x5 x6 x7 x9 x10 x14 x15 x16 x19 x20 x21 x22 x23 x24 x41 x42 f0 f2 f8 f11 f12 f13 f17 f18 (upd f25 (Int32.toNatClampNeg x23) 0) (upd f26 (Int32.toNatClampNeg x23) v1) f27 f28 f29 f30 f31 f32 f33 f34 f35 f36 f37 f38 f39 f40 f43) := hD
            refine lv_aload_n hx hb dX5_chariot_97 rfl (lv_at hl 0 rfl) ?_
            refine va_get (D := (dC, dI)) (ci := 5) (v := .ref (a 27)) (C := RX5) (T := TX5) (N := 44) hx hb hts (fun w hw => List.mem_cons_of_mem _ (List.mem_append_right _ hw)) hown hK hP 0 rfl rfl 27 (by decide) (hts (.fieldLink RX5 48 "OldStadiumModel" "cell" "[I") (List.mem_of_getElem? (i := 6) rfl)) (fun _ h9 => h9) rfl dX5_chariot_98 ?_
            refine lv_aload_n hx hb dX5_chariot_101 rfl (lv_at hl 0 rfl) ?_
            refine va_get (D := (dC, dI)) (ci := 5) (v := .int x23) (C := RX5) (T := TX5) (N := 44) hx hb hts (fun w hw => List.mem_cons_of_mem _ (List.mem_append_right _ hw)) hown hK hP 0 rfl rfl 23 (by decide) (hts (.fieldLink RX5 171 "OldStadiumModel" "chariots" "I") (List.mem_of_getElem? (i := 2) rfl)) (fun _ h9 => h9) rfl dX5_chariot_102 ?_
            refine lv_iconst (v := 0) hx hb dX5_chariot_105 (by decide) ?_
            refine va_iast hx hb hK hP hD hS 11 0 rfl rfl b11 dX5_chariot_106 (fun H locs hP hD hS => ?_)
            replace hP : va_P (dC, dI) vwCl (wX5 cI cZ cJ cA h0 a x1 x3 x4 x5 x6 x7 x9 x10 x14 x15 x16 x19 x20 x21 x22 x23 x24 x41 x42 f0 f2 f8 f11 f12 f13 f17 f18 (upd f25 (Int32.toNatClampNeg x23) 0) (upd f26 (Int32.toNatClampNeg x23) v1) (upd f27 (Int32.toNatClampNeg x23) 0) f28 f29 f30 f31 f32 f33 f34 f35 f36 f37 f38 f39 f40 f43) H := hP
            replace hD : va_D A (wX5 cI cZ cJ cA h0 a x1 x3 x4 x5 x6 x7 x9 x10 x14 x15 x16 x19 x20 x21 x22 x23 x24 x41 x42 f0 f2 f8 f11 f12 f13 f17 f18 (upd f25 (Int32.toNatClampNeg x23) 0) (upd f26 (Int32.toNatClampNeg x23) v1) (upd f27 (Int32.toNatClampNeg x23) 0) f28 f29 f30 f31 f32 f33 f34 f35 f36 f37 f38 f39 f40 f43) := hD
            refine lv_aload_n hx hb dX5_chariot_107 rfl (lv_at hl 0 rfl) ?_
            refine va_get (D := (dC, dI)) (ci := 5) (v := .ref (a 28)) (C := RX5) (T := TX5) (N := 44) hx hb hts (fun w hw => List.mem_cons_of_mem _ (List.mem_append_right _ hw)) hown hK hP 0 rfl rfl 28 (by decide) (hts (.fieldLink RX5 51 "OldStadiumModel" "done" "[I") (List.mem_of_getElem? (i := 7) rfl)) (fun _ h9 => h9) rfl dX5_chariot_108 ?_
            refine lv_aload_n hx hb dX5_chariot_111 rfl (lv_at hl 0 rfl) ?_
            refine va_get (D := (dC, dI)) (ci := 5) (v := .int x23) (C := RX5) (T := TX5) (N := 44) hx hb hts (fun w hw => List.mem_cons_of_mem _ (List.mem_append_right _ hw)) hown hK hP 0 rfl rfl 23 (by decide) (hts (.fieldLink RX5 171 "OldStadiumModel" "chariots" "I") (List.mem_of_getElem? (i := 2) rfl)) (fun _ h9 => h9) rfl dX5_chariot_112 ?_
            refine lv_iconst (v := 0) hx hb dX5_chariot_115 (by decide) ?_
            refine va_iast hx hb hK hP hD hS 12 0 rfl rfl b11 dX5_chariot_116 (fun H locs hP hD hS => ?_)
            replace hP : va_P (dC, dI) vwCl (wX5 cI cZ cJ cA h0 a x1 x3 x4 x5 x6 x7 x9 x10 x14 x15 x16 x19 x20 x21 x22 x23 x24 x41 x42 f0 f2 f8 f11 f12 f13 f17 f18 (upd f25 (Int32.toNatClampNeg x23) 0) (upd f26 (Int32.toNatClampNeg x23) v1) (upd f27 (Int32.toNatClampNeg x23) 0) (upd f28 (Int32.toNatClampNeg x23) 0) f29 f30 f31 f32 f33 f34 f35 f36 f37 f38 f39 f40 f43) H := hP
            replace hD : va_D A (wX5 cI cZ cJ cA h0 a x1 x3 x4 x5 x6 x7 x9 x10 x14 x15 x16 x19 x20 x21 x22 x23 x24 x41 x42 f0 f2 f8 f11 f12 f13 f17 f18 (upd f25 (Int32.toNatClampNeg x23) 0) (upd f26 (Int32.toNatClampNeg x23) v1) (upd f27 (Int32.toNatClampNeg x23) 0) (upd f28 (Int32.toNatClampNeg x23) 0) f29 f30 f31 f32 f33 f34 f35 f36 f37 f38 f39 f40 f43) := hD
            refine lv_aload_n hx hb dX5_chariot_117 rfl (lv_at hl 0 rfl) ?_
            refine va_get (D := (dC, dI)) (ci := 5) (v := .ref (a 29)) (C := RX5) (T := TX5) (N := 44) hx hb hts (fun w hw => List.mem_cons_of_mem _ (List.mem_append_right _ hw)) hown hK hP 0 rfl rfl 29 (by decide) (hts (.fieldLink RX5 54 "OldStadiumModel" "when" "[I") (List.mem_of_getElem? (i := 8) rfl)) (fun _ h9 => h9) rfl dX5_chariot_118 ?_
            refine lv_aload_n hx hb dX5_chariot_121 rfl (lv_at hl 0 rfl) ?_
            refine va_get (D := (dC, dI)) (ci := 5) (v := .int x23) (C := RX5) (T := TX5) (N := 44) hx hb hts (fun w hw => List.mem_cons_of_mem _ (List.mem_append_right _ hw)) hown hK hP 0 rfl rfl 23 (by decide) (hts (.fieldLink RX5 171 "OldStadiumModel" "chariots" "I") (List.mem_of_getElem? (i := 2) rfl)) (fun _ h9 => h9) rfl dX5_chariot_122 ?_
            refine lv_iconst (v := 0) hx hb dX5_chariot_125 (by decide) ?_
            refine va_iast hx hb hK hP hD hS 13 0 rfl rfl b11 dX5_chariot_126 (fun H locs hP hD hS => ?_)
            replace hP : va_P (dC, dI) vwCl (wX5 cI cZ cJ cA h0 a x1 x3 x4 x5 x6 x7 x9 x10 x14 x15 x16 x19 x20 x21 x22 x23 x24 x41 x42 f0 f2 f8 f11 f12 f13 f17 f18 (upd f25 (Int32.toNatClampNeg x23) 0) (upd f26 (Int32.toNatClampNeg x23) v1) (upd f27 (Int32.toNatClampNeg x23) 0) (upd f28 (Int32.toNatClampNeg x23) 0) (upd f29 (Int32.toNatClampNeg x23) 0) f30 f31 f32 f33 f34 f35 f36 f37 f38 f39 f40 f43) H := hP
            replace hD : va_D A (wX5 cI cZ cJ cA h0 a x1 x3 x4 x5 x6 x7 x9 x10 x14 x15 x16 x19 x20 x21 x22 x23 x24 x41 x42 f0 f2 f8 f11 f12 f13 f17 f18 (upd f25 (Int32.toNatClampNeg x23) 0) (upd f26 (Int32.toNatClampNeg x23) v1) (upd f27 (Int32.toNatClampNeg x23) 0) (upd f28 (Int32.toNatClampNeg x23) 0) (upd f29 (Int32.toNatClampNeg x23) 0) f30 f31 f32 f33 f34 f35 f36 f37 f38 f39 f40 f43) := hD
            refine lv_aload_n hx hb dX5_chariot_127 rfl (lv_at hl 0 rfl) ?_
            refine va_get (D := (dC, dI)) (ci := 5) (v := .ref (a 30)) (C := RX5) (T := TX5) (N := 44) hx hb hts (fun w hw => List.mem_cons_of_mem _ (List.mem_append_right _ hw)) hown hK hP 0 rfl rfl 30 (by decide) (hts (.fieldLink RX5 57 "OldStadiumModel" "place" "[I") (List.mem_of_getElem? (i := 9) rfl)) (fun _ h9 => h9) rfl dX5_chariot_128 ?_
            refine lv_aload_n hx hb dX5_chariot_131 rfl (lv_at hl 0 rfl) ?_
            refine va_get (D := (dC, dI)) (ci := 5) (v := .int x23) (C := RX5) (T := TX5) (N := 44) hx hb hts (fun w hw => List.mem_cons_of_mem _ (List.mem_append_right _ hw)) hown hK hP 0 rfl rfl 23 (by decide) (hts (.fieldLink RX5 171 "OldStadiumModel" "chariots" "I") (List.mem_of_getElem? (i := 2) rfl)) (fun _ h9 => h9) rfl dX5_chariot_132 ?_
            refine lv_iconst (v := 0) hx hb dX5_chariot_135 (by decide) ?_
            refine va_iast hx hb hK hP hD hS 14 0 rfl rfl b11 dX5_chariot_136 (fun H locs hP hD hS => ?_)
            replace hP : va_P (dC, dI) vwCl (wX5 cI cZ cJ cA h0 a x1 x3 x4 x5 x6 x7 x9 x10 x14 x15 x16 x19 x20 x21 x22 x23 x24 x41 x42 f0 f2 f8 f11 f12 f13 f17 f18 (upd f25 (Int32.toNatClampNeg x23) 0) (upd f26 (Int32.toNatClampNeg x23) v1) (upd f27 (Int32.toNatClampNeg x23) 0) (upd f28 (Int32.toNatClampNeg x23) 0) (upd f29 (Int32.toNatClampNeg x23) 0) (upd f30 (Int32.toNatClampNeg x23) 0) f31 f32 f33 f34 f35 f36 f37 f38 f39 f40 f43) H := hP
            replace hD : va_D A (wX5 cI cZ cJ cA h0 a x1 x3 x4 x5 x6 x7 x9 x10 x14 x15 x16 x19 x20 x21 x22 x23 x24 x41 x42 f0 f2 f8 f11 f12 f13 f17 f18 (upd f25 (Int32.toNatClampNeg x23) 0) (upd f26 (Int32.toNatClampNeg x23) v1) (upd f27 (Int32.toNatClampNeg x23) 0) (upd f28 (Int32.toNatClampNeg x23) 0) (upd f29 (Int32.toNatClampNeg x23) 0) (upd f30 (Int32.toNatClampNeg x23) 0) f31 f32 f33 f34 f35 f36 f37 f38 f39 f40 f43) := hD
            refine lv_aload_n hx hb dX5_chariot_137 rfl (lv_at hl 0 rfl) ?_
            refine va_get (D := (dC, dI)) (ci := 5) (v := .ref (a 31)) (C := RX5) (T := TX5) (N := 44) hx hb hts (fun w hw => List.mem_cons_of_mem _ (List.mem_append_right _ hw)) hown hK hP 0 rfl rfl 31 (by decide) (hts (.fieldLink RX5 60 "OldStadiumModel" "delay" "[I") (List.mem_of_getElem? (i := 10) rfl)) (fun _ h9 => h9) rfl dX5_chariot_138 ?_
            refine lv_aload_n hx hb dX5_chariot_141 rfl (lv_at hl 0 rfl) ?_
            refine va_get (D := (dC, dI)) (ci := 5) (v := .int x23) (C := RX5) (T := TX5) (N := 44) hx hb hts (fun w hw => List.mem_cons_of_mem _ (List.mem_append_right _ hw)) hown hK hP 0 rfl rfl 23 (by decide) (hts (.fieldLink RX5 171 "OldStadiumModel" "chariots" "I") (List.mem_of_getElem? (i := 2) rfl)) (fun _ h9 => h9) rfl dX5_chariot_142 ?_
            refine lv_iload_n hx hb dX5_chariot_145 rfl (lv_at hl 2 rfl) ?_
            refine va_iast hx hb hK hP hD hS 15 0 rfl rfl b11 dX5_chariot_146 (fun H locs hP hD hS => ?_)
            replace hP : va_P (dC, dI) vwCl (wX5 cI cZ cJ cA h0 a x1 x3 x4 x5 x6 x7 x9 x10 x14 x15 x16 x19 x20 x21 x22 x23 x24 x41 x42 f0 f2 f8 f11 f12 f13 f17 f18 (upd f25 (Int32.toNatClampNeg x23) 0) (upd f26 (Int32.toNatClampNeg x23) v1) (upd f27 (Int32.toNatClampNeg x23) 0) (upd f28 (Int32.toNatClampNeg x23) 0) (upd f29 (Int32.toNatClampNeg x23) 0) (upd f30 (Int32.toNatClampNeg x23) 0) (upd f31 (Int32.toNatClampNeg x23) v2) f32 f33 f34 f35 f36 f37 f38 f39 f40 f43) H := hP
            replace hD : va_D A (wX5 cI cZ cJ cA h0 a x1 x3 x4 x5 x6 x7 x9 x10 x14 x15 x16 x19 x20 x21 x22 x23 x24 x41 x42 f0 f2 f8 f11 f12 f13 f17 f18 (upd f25 (Int32.toNatClampNeg x23) 0) (upd f26 (Int32.toNatClampNeg x23) v1) (upd f27 (Int32.toNatClampNeg x23) 0) (upd f28 (Int32.toNatClampNeg x23) 0) (upd f29 (Int32.toNatClampNeg x23) 0) (upd f30 (Int32.toNatClampNeg x23) 0) (upd f31 (Int32.toNatClampNeg x23) v2) f32 f33 f34 f35 f36 f37 f38 f39 f40 f43) := hD
            refine lv_aload_n hx hb dX5_chariot_147 rfl (lv_at hl 0 rfl) ?_
            refine va_get (D := (dC, dI)) (ci := 5) (v := .ref (a 32)) (C := RX5) (T := TX5) (N := 44) hx hb hts (fun w hw => List.mem_cons_of_mem _ (List.mem_append_right _ hw)) hown hK hP 0 rfl rfl 32 (by decide) (hts (.fieldLink RX5 63 "OldStadiumModel" "actMany" "[I") (List.mem_of_getElem? (i := 11) rfl)) (fun _ h9 => h9) rfl dX5_chariot_148 ?_
            refine lv_aload_n hx hb dX5_chariot_151 rfl (lv_at hl 0 rfl) ?_
            refine va_get (D := (dC, dI)) (ci := 5) (v := .int x23) (C := RX5) (T := TX5) (N := 44) hx hb hts (fun w hw => List.mem_cons_of_mem _ (List.mem_append_right _ hw)) hown hK hP 0 rfl rfl 23 (by decide) (hts (.fieldLink RX5 171 "OldStadiumModel" "chariots" "I") (List.mem_of_getElem? (i := 2) rfl)) (fun _ h9 => h9) rfl dX5_chariot_152 ?_
            refine lv_iconst (v := 0) hx hb dX5_chariot_155 (by decide) ?_
            refine va_iast hx hb hK hP hD hS 16 0 rfl rfl b11 dX5_chariot_156 (fun H locs hP hD hS => ?_)
            replace hP : va_P (dC, dI) vwCl (wX5 cI cZ cJ cA h0 a x1 x3 x4 x5 x6 x7 x9 x10 x14 x15 x16 x19 x20 x21 x22 x23 x24 x41 x42 f0 f2 f8 f11 f12 f13 f17 f18 (upd f25 (Int32.toNatClampNeg x23) 0) (upd f26 (Int32.toNatClampNeg x23) v1) (upd f27 (Int32.toNatClampNeg x23) 0) (upd f28 (Int32.toNatClampNeg x23) 0) (upd f29 (Int32.toNatClampNeg x23) 0) (upd f30 (Int32.toNatClampNeg x23) 0) (upd f31 (Int32.toNatClampNeg x23) v2) (upd f32 (Int32.toNatClampNeg x23) 0) f33 f34 f35 f36 f37 f38 f39 f40 f43) H := hP
            replace hD : va_D A (wX5 cI cZ cJ cA h0 a x1 x3 x4 x5 x6 x7 x9 x10 x14 x15 x16 x19 x20 x21 x22 x23 x24 x41 x42 f0 f2 f8 f11 f12 f13 f17 f18 (upd f25 (Int32.toNatClampNeg x23) 0) (upd f26 (Int32.toNatClampNeg x23) v1) (upd f27 (Int32.toNatClampNeg x23) 0) (upd f28 (Int32.toNatClampNeg x23) 0) (upd f29 (Int32.toNatClampNeg x23) 0) (upd f30 (Int32.toNatClampNeg x23) 0) (upd f31 (Int32.toNatClampNeg x23) v2) (upd f32 (Int32.toNatClampNeg x23) 0) f33 f34 f35 f36 f37 f38 f39 f40 f43) := hD
            refine lv_aload_n hx hb dX5_chariot_157 rfl (lv_at hl 0 rfl) ?_
            refine lv_dup hx hb dX5_chariot_158 rfl ?_
            refine va_get (D := (dC, dI)) (ci := 5) (v := .int x23) (C := RX5) (T := TX5) (N := 44) hx hb hts (fun w hw => List.mem_cons_of_mem _ (List.mem_append_right _ hw)) hown hK hP 0 rfl rfl 23 (by decide) (hts (.fieldLink RX5 171 "OldStadiumModel" "chariots" "I") (List.mem_of_getElem? (i := 2) rfl)) (fun _ h9 => h9) rfl dX5_chariot_159 ?_
            refine lv_iconst (v := 1) hx hb dX5_chariot_162 (by decide) ?_
            refine lv_iadd hx hb dX5_chariot_163 ?_
            refine va_put (D := (dC, dI)) (ci := 5) (v := .int (x23 + 1)) (ty := .int) (C := RX5) (T := TX5) (N := 44) hx hb hts (fun w hw => List.mem_cons_of_mem _ (List.mem_append_right _ hw)) tyX5 tyX5_ok nmX5 hown hK hP hD hS 0 rfl rfl 23 (by decide) (hts (.fieldLink RX5 171 "OldStadiumModel" "chariots" "I") (List.mem_of_getElem? (i := 2) rfl)) (fun _ h9 => h9) rfl (by decide +kernel) rfl rfl (Nat.le_of_ble_eq_true rfl) dX5_chariot_164 (fun H locs hP hD hS => ?_)
            replace hP : va_P (dC, dI) vwCl (wX5 cI cZ cJ cA h0 a x1 x3 x4 x5 x6 x7 x9 x10 x14 x15 x16 x19 x20 x21 x22 (x23 + 1) x24 x41 x42 f0 f2 f8 f11 f12 f13 f17 f18 (upd f25 (Int32.toNatClampNeg x23) 0) (upd f26 (Int32.toNatClampNeg x23) v1) (upd f27 (Int32.toNatClampNeg x23) 0) (upd f28 (Int32.toNatClampNeg x23) 0) (upd f29 (Int32.toNatClampNeg x23) 0) (upd f30 (Int32.toNatClampNeg x23) 0) (upd f31 (Int32.toNatClampNeg x23) v2) (upd f32 (Int32.toNatClampNeg x23) 0) f33 f34 f35 f36 f37 f38 f39 f40 f43) H := hP
            replace hD : va_D A (wX5 cI cZ cJ cA h0 a x1 x3 x4 x5 x6 x7 x9 x10 x14 x15 x16 x19 x20 x21 x22 (x23 + 1) x24 x41 x42 f0 f2 f8 f11 f12 f13 f17 f18 (upd f25 (Int32.toNatClampNeg x23) 0) (upd f26 (Int32.toNatClampNeg x23) v1) (upd f27 (Int32.toNatClampNeg x23) 0) (upd f28 (Int32.toNatClampNeg x23) 0) (upd f29 (Int32.toNatClampNeg x23) 0) (upd f30 (Int32.toNatClampNeg x23) 0) (upd f31 (Int32.toNatClampNeg x23) v2) (upd f32 (Int32.toNatClampNeg x23) 0) f33 f34 f35 f36 f37 f38 f39 f40 f43) := hD
            refine lv_aload_n hx hb dX5_chariot_167 rfl (lv_at hl 0 rfl) ?_
            refine va_get (D := (dC, dI)) (ci := 5) (v := .int (x23 + 1)) (C := RX5) (T := TX5) (N := 44) hx hb hts (fun w hw => List.mem_cons_of_mem _ (List.mem_append_right _ hw)) hown hK hP 0 rfl rfl 23 (by decide) (hts (.fieldLink RX5 171 "OldStadiumModel" "chariots" "I") (List.mem_of_getElem? (i := 2) rfl)) (fun _ h9 => h9) rfl dX5_chariot_168 ?_
            refine lv_iconst (v := 1) hx hb dX5_chariot_171 (by decide) ?_
            refine lv_isub hx hb dX5_chariot_172 ?_
            obtain rfl := Option.some.inj hf
            exact hret _ _ _ _ _ dX5_chariot_173 rfl hP hD hS
          · replace hf := z_im hf c7
            refine lv_iconst (v := (-1)) hx hb dX5_chariot_47 (by decide) ?_
            obtain rfl := Option.some.inj hf
            exact hret _ _ _ _ _ dX5_chariot_48 rfl hP hD hS
set_option maxHeartbeats 4000000 in
set_option maxRecDepth 100000 in
theorem k_X5_chariot (l : Launch) (dC : Nat → ClassId) (dI : Nat → Nat → Nat) (cI cZ cJ cA : ClassId) (h0 : Nat) (a : Nat → Nat) (sz : Nat) (N : Nat) (v1 : Int32) (v2 : Int32) (x1 : Int32) (x3 : Int32) (x4 : Int32) (x5 : Int32) (x6 : Int32) (x7 : Int32) (x9 : Int32) (x10 : Int32) (x14 : Int32) (x15 : Int32) (x16 : Int32) (x19 : Int32) (x20 : Int32) (x21 : Int32) (x22 : Int32) (x23 : Int32) (x24 : Int32) (x41 : Int32) (x42 : Int32) (f0 : (Nat → Int32)) (f2 : (Nat → Int32)) (f8 : (Nat → Int32)) (f11 : (Nat → Int32)) (f12 : (Nat → Int32)) (f13 : (Nat → Int32)) (f17 : (Nat → Int32)) (f18 : (Nat → Int32)) (f25 : (Nat → Int32)) (f26 : (Nat → Int32)) (f27 : (Nat → Int32)) (f28 : (Nat → Int32)) (f29 : (Nat → Int32)) (f30 : (Nat → Int32)) (f31 : (Nat → Int32)) (f32 : (Nat → Int32)) (f33 : (Nat → Int32)) (f34 : (Nat → Int32)) (f35 : (Nat → Int32)) (f36 : (Nat → Int32)) (f37 : (Nat → Int32)) (f38 : (Nat → Int32)) (f39 : (Nat → Int32)) (f40 : (Nat → Int32)) (f43 : (Nat → Int32)) (o : (Int32 × Int32 × (Nat → Int32) × (Nat → Int32) × (Nat → Int32) × (Nat → Int32) × (Nat → Int32) × (Nat → Int32) × (Nat → Int32) × (Nat → Int32))) (hf : q_X5_chariot N v1 v2 x19 x22 x23 f25 f26 f27 f28 f29 f30 f31 f32 = some o) : Met l yX5_chariot wsX5_chariot ({ frames := 1, cells := 0, slots := 0, locals := 22 } : Room) (z_Pre dC dI (z_ty cI cZ cJ cA) [.ref h0, .int v1, .int v2] sz (wX5 cI cZ cJ cA h0 a x1 x3 x4 x5 x6 x7 x9 x10 x14 x15 x16 x19 x20 x21 x22 x23 x24 x41 x42 f0 f2 f8 f11 f12 f13 f17 f18 f25 f26 f27 f28 f29 f30 f31 f32 f33 f34 f35 f36 f37 f38 f39 f40 f43)) (z_Pi dC dI o.1 (wX5 cI cZ cJ cA h0 a x1 x3 x4 x5 x6 x7 x9 x10 x14 x15 x16 x19 x20 x21 x22 o.2.1 x24 x41 x42 f0 f2 f8 f11 f12 f13 f17 f18 o.2.2.1 o.2.2.2.1 o.2.2.2.2.1 o.2.2.2.2.2.1 o.2.2.2.2.2.2.1 o.2.2.2.2.2.2.2.1 o.2.2.2.2.2.2.2.2.1 o.2.2.2.2.2.2.2.2.2 f33 f34 f35 f36 f37 f38 f39 f40 f43) sz (wX5 cI cZ cJ cA h0 a x1 x3 x4 x5 x6 x7 x9 x10 x14 x15 x16 x19 x20 x21 x22 x23 x24 x41 x42 f0 f2 f8 f11 f12 f13 f17 f18 f25 f26 f27 f28 f29 f30 f31 f32 f33 f34 f35 f36 f37 f38 f39 f40 f43)) 0 0 (va_A (wX5 cI cZ cJ cA h0 a x1 x3 x4 x5 x6 x7 x9 x10 x14 x15 x16 x19 x20 x21 x22 x23 x24 x41 x42 f0 f2 f8 f11 f12 f13 f17 f18 f25 f26 f27 f28 f29 f30 f31 f32 f33 f34 f35 f36 f37 f38 f39 f40 f43) sz) := by
  refine Met.ofW (cc := cX5_chariot) (maxL := 4) (ret := (some .int)) (by decide) rfl ?_
  intro p e s m args below meth c s₁ B hml hv
  obtain ⟨rfl, hsz, hP, hK, hD0, hN⟩ := hv
  subst hsz
  have hl := lv_entry ([.ref h0, .int v1, .int v2]) (n := 4) (Nat.le_of_ble_eq_true rfl)
  rw [lg_entry_eq]
  refine b_X5_chariot N ⟨⟨B.exec, B.bytes, hml, findClass_of_methodNamed B.named, atoms_spec (ws := wsX5_chariot) B.pre⟩, Nat.le_refl _, Nat.le_refl _, fun q h => Or.inr h, hN, hK⟩ hf hP hD0.self va_S.rf hl (fun pc H locs ls r hd hr hP hD hS => ?_)
  subst hr
  exact W.iret B.exec B.bytes B.returns (fun t ht hW => ⟨⟨_, (), rfl, rfl, by rw [ht]; exact hP, hD⟩, hS.F ht⟩) hS.2.2 hd
def q_X5_drive (N : Nat) (v1 : Int32) (v2 : Int32) (v3 : Int32) (x22 : Int32) (x23 : Int32) (f32 : (Nat → Int32)) (f33 : (Nat → Int32)) (f34 : (Nat → Int32)) : Option (Int32 × (Nat → Int32) × (Nat → Int32) × (Nat → Int32)) :=
  (Option.bind (q_X5_in N v1 0 (x23 - 1)) (fun o1 =>
  (if o1 = 0 then
   (some ((-1), f32, f33, f34))
  else
   (Option.bind (q_X5_in N v2 0 4) (fun o3 =>
   (if o3 = 0 then
    (some ((-1), f32, f33, f34))
   else
    (Option.bind (q_X5_in N v3 (-1) 1) (fun o5 =>
    (if o5 = 0 then
     (some ((-1), f32, f33, f34))
    else
     (if z_in v1 8 then
     (if (f32 (Int32.toNatClampNeg v1)) = 12 then
      (some ((-1), f32, f33, f34))
     else
      (if x22 ≤ 0 then
       (if z_in ((12 * v1) + (f32 (Int32.toNatClampNeg v1))) 96 then
       (some (((upd f32 (Int32.toNatClampNeg v1) ((f32 (Int32.toNatClampNeg v1)) + 1)) (Int32.toNatClampNeg v1)), (upd f32 (Int32.toNatClampNeg v1) ((f32 (Int32.toNatClampNeg v1)) + 1)), (upd f33 (Int32.toNatClampNeg ((12 * v1) + (f32 (Int32.toNatClampNeg v1)))) v2), (upd f34 (Int32.toNatClampNeg ((12 * v1) + (f32 (Int32.toNatClampNeg v1)))) v3)))
       else none)
      else
       (some ((-1), f32, f33, f34))))
     else none))))))))))
set_option maxHeartbeats 4000000 in
set_option maxRecDepth 100000 in
theorem b_X5_drive {p : Program} {l : Launch} {e : Env} {R : Room} {s : State} {m : MethodId} {args : Array Value} {below : List Frame} {meth : Method} {c : Code} {Q : State → Prop} {A : Nat → Prop} {dC : Nat → ClassId} {dI : Nat → Nat → Nat} {cI cZ cJ cA : ClassId} {h0 : Nat} {a : Nat → Nat} (N : Nat) (C0 : z_Cx p s m args c cX5_drive 4 wsX5_drive RX5 R 1 22 A dC dI (z_ty cI cZ cJ cA)) {v1 : Int32} {v2 : Int32} {v3 : Int32} {x1 : Int32} {x3 : Int32} {x4 : Int32} {x5 : Int32} {x6 : Int32} {x7 : Int32} {x9 : Int32} {x10 : Int32} {x14 : Int32} {x15 : Int32} {x16 : Int32} {x19 : Int32} {x20 : Int32} {x21 : Int32} {x22 : Int32} {x23 : Int32} {x24 : Int32} {x41 : Int32} {x42 : Int32} {f0 : (Nat → Int32)} {f2 : (Nat → Int32)} {f8 : (Nat → Int32)} {f11 : (Nat → Int32)} {f12 : (Nat → Int32)} {f13 : (Nat → Int32)} {f17 : (Nat → Int32)} {f18 : (Nat → Int32)} {f25 : (Nat → Int32)} {f26 : (Nat → Int32)} {f27 : (Nat → Int32)} {f28 : (Nat → Int32)} {f29 : (Nat → Int32)} {f30 : (Nat → Int32)} {f31 : (Nat → Int32)} {f32 : (Nat → Int32)} {f33 : (Nat → Int32)} {f34 : (Nat → Int32)} {f35 : (Nat → Int32)} {f36 : (Nat → Int32)} {f37 : (Nat → Int32)} {f38 : (Nat → Int32)} {f39 : (Nat → Int32)} {f40 : (Nat → Int32)} {f43 : (Nat → Int32)} {o : (Int32 × (Nat → Int32) × (Nat → Int32) × (Nat → Int32))} {H : Heap} {locs : List Loc} {ls : Array Slot} (hf : q_X5_drive N v1 v2 v3 x22 x23 f32 f33 f34 = some o) (hP : va_P (dC, dI) vwCl (wX5 cI cZ cJ cA h0 a x1 x3 x4 x5 x6 x7 x9 x10 x14 x15 x16 x19 x20 x21 x22 x23 x24 x41 x42 f0 f2 f8 f11 f12 f13 f17 f18 f25 f26 f27 f28 f29 f30 f31 f32 f33 f34 f35 f36 f37 f38 f39 f40 f43) H) (hD : va_D A (wX5 cI cZ cJ cA h0 a x1 x3 x4 x5 x6 x7 x9 x10 x14 x15 x16 x19 x20 x21 x22 x23 x24 x41 x42 f0 f2 f8 f11 f12 f13 f17 f18 f25 f26 f27 f28 f29 f30 f31 f32 f33 f34 f35 f36 f37 f38 f39 f40 f43)) (hS : va_S A s.heap H locs) (hl : lv_has ls 4 [(0, .ref h0), (1, .int v1), (2, .int v2), (3, .int v3)])
    (hret : ∀ (pc : Nat) (H : Heap) (locs : List Loc) (ls : Array Slot) (r : Int32), decode cX5_drive pc = .ok (.ireturn, 1) → r = o.1 → va_P (dC, dI) vwCl (wX5 cI cZ cJ cA h0 a x1 x3 x4 x5 x6 x7 x9 x10 x14 x15 x16 x19 x20 x21 x22 x23 x24 x41 x42 f0 f2 f8 f11 f12 f13 f17 f18 f25 f26 f27 f28 f29 f30 f31 o.2.1 o.2.2.1 o.2.2.2 f35 f36 f37 f38 f39 f40 f43) H → va_D A (wX5 cI cZ cJ cA h0 a x1 x3 x4 x5 x6 x7 x9 x10 x14 x15 x16 x19 x20 x21 x22 x23 x24 x41 x42 f0 f2 f8 f11 f12 f13 f17 f18 f25 f26 f27 f28 f29 f30 f31 o.2.1 o.2.2.1 o.2.2.2 f35 f36 f37 f38 f39 f40 f43) → va_S A s.heap H locs → W p l e R s m args below meth c H locs 0 0 Q (F0 m pc ls [.int r])) :
    W p l e R s m args below meth c H locs 0 0 Q (F0 m 0 ls []) := by
  obtain ⟨⟨hx, hb, hml, hown, hts⟩, hRf, hRl, hA, hN, hK⟩ := C0
  unfold q_X5_drive at hf
  refine lv_iload_n hx hb dX5_drive_0 rfl (lv_at hl 1 rfl) ?_
  refine lv_iconst (v := 0) hx hb dX5_drive_1 (by decide) ?_
  refine lv_aload_n hx hb dX5_drive_2 rfl (lv_at hl 0 rfl) ?_
  refine va_get (D := (dC, dI)) (ci := 5) (v := .int x23) (C := RX5) (T := TX5) (N := 44) hx hb hts (fun w hw => List.mem_cons_of_mem _ (List.mem_append_right _ hw)) hown hK hP 0 rfl rfl 23 (by decide) (hts (.fieldLink RX5 171 "OldStadiumModel" "chariots" "I") (List.mem_of_getElem? (i := 1) rfl)) (fun _ h9 => h9) rfl dX5_drive_3 ?_
  refine lv_iconst (v := 1) hx hb dX5_drive_6 (by decide) ?_
  refine lv_isub hx hb dX5_drive_7 ?_
  obtain ⟨o1, ho1, hf1⟩ := z_ib hf
  replace hf := hf1
  clear hf1
  refine z_S0 (As := [.int v1, .int 0, .int (x23 - 1)]) (rest := []) ⟨hx, hb, hml, hown, hts⟩ (k_X5_in l dC dI cI cZ cJ cA H.size N v1 0 (x23 - 1) o1 ho1) (va_cwS 3 hts gX5_drive_X5_in rfl rfl rfl (by decide +kernel) ⟨Nat.le_trans (Nat.le_of_ble_eq_true rfl) hRf, Nat.le_trans (Nat.le_of_ble_eq_true rfl) hRl⟩) hK hP hS hA hN rfl hl.1 rfl (Nat.le_of_ble_eq_true rfl) dX5_drive_8 (fun H locs hP hS => ?_)
  refine lv_if_eq (tgt := 50) hx hb dX5_drive_11 (by decide) (fun c2 => ?_) (fun c2 => ?_)
  · replace hf := z_ip hf c2
    refine lv_iconst (v := (-1)) hx hb dX5_drive_50 (by decide) ?_
    obtain rfl := Option.some.inj hf
    exact hret _ _ _ _ _ dX5_drive_51 rfl hP hD hS
  · replace hf := z_im hf c2
    refine lv_iload_n hx hb dX5_drive_14 rfl (lv_at hl 2 rfl) ?_
    refine lv_iconst (v := 0) hx hb dX5_drive_15 (by decide) ?_
    refine lv_iconst (v := 4) hx hb dX5_drive_16 (by decide) ?_
    obtain ⟨o3, ho3, hf1⟩ := z_ib hf
    replace hf := hf1
    clear hf1
    refine z_S0 (As := [.int v2, .int 0, .int 4]) (rest := []) ⟨hx, hb, hml, hown, hts⟩ (k_X5_in l dC dI cI cZ cJ cA H.size N v2 0 4 o3 ho3) (va_cwS 3 hts gX5_drive_X5_in rfl rfl rfl (by decide +kernel) ⟨Nat.le_trans (Nat.le_of_ble_eq_true rfl) hRf, Nat.le_trans (Nat.le_of_ble_eq_true rfl) hRl⟩) hK hP hS hA hN rfl hl.1 rfl (Nat.le_of_ble_eq_true rfl) dX5_drive_17 (fun H locs hP hS => ?_)
    refine lv_if_eq (tgt := 50) hx hb dX5_drive_20 (by decide) (fun c4 => ?_) (fun c4 => ?_)
    · replace hf := z_ip hf c4
      refine lv_iconst (v := (-1)) hx hb dX5_drive_50 (by decide) ?_
      obtain rfl := Option.some.inj hf
      exact hret _ _ _ _ _ dX5_drive_51 rfl hP hD hS
    · replace hf := z_im hf c4
      refine lv_iload_n hx hb dX5_drive_23 rfl (lv_at hl 3 rfl) ?_
      refine lv_iconst (v := (-1)) hx hb dX5_drive_24 (by decide) ?_
      refine lv_iconst (v := 1) hx hb dX5_drive_25 (by decide) ?_
      obtain ⟨o5, ho5, hf1⟩ := z_ib hf
      replace hf := hf1
      clear hf1
      refine z_S0 (As := [.int v3, .int (-1), .int 1]) (rest := []) ⟨hx, hb, hml, hown, hts⟩ (k_X5_in l dC dI cI cZ cJ cA H.size N v3 (-1) 1 o5 ho5) (va_cwS 3 hts gX5_drive_X5_in rfl rfl rfl (by decide +kernel) ⟨Nat.le_trans (Nat.le_of_ble_eq_true rfl) hRf, Nat.le_trans (Nat.le_of_ble_eq_true rfl) hRl⟩) hK hP hS hA hN rfl hl.1 rfl (Nat.le_of_ble_eq_true rfl) dX5_drive_26 (fun H locs hP hS => ?_)
      refine lv_if_eq (tgt := 50) hx hb dX5_drive_29 (by decide) (fun c6 => ?_) (fun c6 => ?_)
      · replace hf := z_ip hf c6
        refine lv_iconst (v := (-1)) hx hb dX5_drive_50 (by decide) ?_
        obtain rfl := Option.some.inj hf
        exact hret _ _ _ _ _ dX5_drive_51 rfl hP hD hS
      · replace hf := z_im hf c6
        refine lv_aload_n hx hb dX5_drive_32 rfl (lv_at hl 0 rfl) ?_
        refine va_get (D := (dC, dI)) (ci := 5) (v := .ref (a 32)) (C := RX5) (T := TX5) (N := 44) hx hb hts (fun w hw => List.mem_cons_of_mem _ (List.mem_append_right _ hw)) hown hK hP 0 rfl rfl 32 (by decide) (hts (.fieldLink RX5 63 "OldStadiumModel" "actMany" "[I") (List.mem_of_getElem? (i := 2) rfl)) (fun _ h9 => h9) rfl dX5_drive_33 ?_
        refine lv_iload_n hx hb dX5_drive_36 rfl (lv_at hl 1 rfl) ?_
        have b7 := z_c1 hf
        replace hf := z_c2 hf
        refine va_iald hx hb hK hP 16 0 rfl rfl b7 dX5_drive_37 ?_
        refine lv_bipush (v := 12) hx hb dX5_drive_38 (by decide) ?_
        refine lv_icmp_eq (tgt := 50) hx hb dX5_drive_40 (by decide) (fun c8 => ?_) (fun c8 => ?_)
        · replace hf := z_ip hf c8
          refine lv_iconst (v := (-1)) hx hb dX5_drive_50 (by decide) ?_
          obtain rfl := Option.some.inj hf
          exact hret _ _ _ _ _ dX5_drive_51 rfl hP hD hS
        · replace hf := z_im hf c8
          refine lv_aload_n hx hb dX5_drive_43 rfl (lv_at hl 0 rfl) ?_
          refine va_get (D := (dC, dI)) (ci := 5) (v := .int x22) (C := RX5) (T := TX5) (N := 44) hx hb hts (fun w hw => List.mem_cons_of_mem _ (List.mem_append_right _ hw)) hown hK hP 0 rfl rfl 22 (by decide) (hts (.fieldLink RX5 168 "OldStadiumModel" "tick" "I") (List.mem_of_getElem? (i := 3) rfl)) (fun _ h9 => h9) rfl dX5_drive_44 ?_
          refine lv_if_le (tgt := 52) hx hb dX5_drive_47 (by decide) (fun c9 => ?_) (fun c9 => ?_)
          · replace hf := z_ip hf c9
            refine lv_aload_n hx hb dX5_drive_52 rfl (lv_at hl 0 rfl) ?_
            refine va_get (D := (dC, dI)) (ci := 5) (v := .ref (a 33)) (C := RX5) (T := TX5) (N := 44) hx hb hts (fun w hw => List.mem_cons_of_mem _ (List.mem_append_right _ hw)) hown hK hP 0 rfl rfl 33 (by decide) (hts (.fieldLink RX5 66 "OldStadiumModel" "forward" "[I") (List.mem_of_getElem? (i := 4) rfl)) (fun _ h9 => h9) rfl dX5_drive_53 ?_
            refine lv_bipush (v := 12) hx hb dX5_drive_56 (by decide) ?_
            refine lv_iload_n hx hb dX5_drive_58 rfl (lv_at hl 1 rfl) ?_
            refine lv_imul hx hb dX5_drive_59 ?_
            refine lv_aload_n hx hb dX5_drive_60 rfl (lv_at hl 0 rfl) ?_
            refine va_get (D := (dC, dI)) (ci := 5) (v := .ref (a 32)) (C := RX5) (T := TX5) (N := 44) hx hb hts (fun w hw => List.mem_cons_of_mem _ (List.mem_append_right _ hw)) hown hK hP 0 rfl rfl 32 (by decide) (hts (.fieldLink RX5 63 "OldStadiumModel" "actMany" "[I") (List.mem_of_getElem? (i := 2) rfl)) (fun _ h9 => h9) rfl dX5_drive_61 ?_
            refine lv_iload_n hx hb dX5_drive_64 rfl (lv_at hl 1 rfl) ?_
            refine va_iald hx hb hK hP 16 0 rfl rfl b7 dX5_drive_65 ?_
            refine lv_iadd hx hb dX5_drive_66 ?_
            refine lv_iload_n hx hb dX5_drive_67 rfl (lv_at hl 2 rfl) ?_
            have b10 := z_c1 hf
            replace hf := z_c2 hf
            refine va_iast hx hb hK hP hD hS 17 0 rfl rfl b10 dX5_drive_68 (fun H locs hP hD hS => ?_)
            replace hP : va_P (dC, dI) vwCl (wX5 cI cZ cJ cA h0 a x1 x3 x4 x5 x6 x7 x9 x10 x14 x15 x16 x19 x20 x21 x22 x23 x24 x41 x42 f0 f2 f8 f11 f12 f13 f17 f18 f25 f26 f27 f28 f29 f30 f31 f32 (upd f33 (Int32.toNatClampNeg ((12 * v1) + (f32 (Int32.toNatClampNeg v1)))) v2) f34 f35 f36 f37 f38 f39 f40 f43) H := hP
            replace hD : va_D A (wX5 cI cZ cJ cA h0 a x1 x3 x4 x5 x6 x7 x9 x10 x14 x15 x16 x19 x20 x21 x22 x23 x24 x41 x42 f0 f2 f8 f11 f12 f13 f17 f18 f25 f26 f27 f28 f29 f30 f31 f32 (upd f33 (Int32.toNatClampNeg ((12 * v1) + (f32 (Int32.toNatClampNeg v1)))) v2) f34 f35 f36 f37 f38 f39 f40 f43) := hD
            refine lv_aload_n hx hb dX5_drive_69 rfl (lv_at hl 0 rfl) ?_
            refine va_get (D := (dC, dI)) (ci := 5) (v := .ref (a 34)) (C := RX5) (T := TX5) (N := 44) hx hb hts (fun w hw => List.mem_cons_of_mem _ (List.mem_append_right _ hw)) hown hK hP 0 rfl rfl 34 (by decide) (hts (.fieldLink RX5 69 "OldStadiumModel" "side" "[I") (List.mem_of_getElem? (i := 5) rfl)) (fun _ h9 => h9) rfl dX5_drive_70 ?_
            refine lv_bipush (v := 12) hx hb dX5_drive_73 (by decide) ?_
            refine lv_iload_n hx hb dX5_drive_75 rfl (lv_at hl 1 rfl) ?_
            refine lv_imul hx hb dX5_drive_76 ?_
            refine lv_aload_n hx hb dX5_drive_77 rfl (lv_at hl 0 rfl) ?_
            refine va_get (D := (dC, dI)) (ci := 5) (v := .ref (a 32)) (C := RX5) (T := TX5) (N := 44) hx hb hts (fun w hw => List.mem_cons_of_mem _ (List.mem_append_right _ hw)) hown hK hP 0 rfl rfl 32 (by decide) (hts (.fieldLink RX5 63 "OldStadiumModel" "actMany" "[I") (List.mem_of_getElem? (i := 2) rfl)) (fun _ h9 => h9) rfl dX5_drive_78 ?_
            refine lv_iload_n hx hb dX5_drive_81 rfl (lv_at hl 1 rfl) ?_
            refine va_iald hx hb hK hP 16 0 rfl rfl b7 dX5_drive_82 ?_
            refine lv_iadd hx hb dX5_drive_83 ?_
            refine lv_iload_n hx hb dX5_drive_84 rfl (lv_at hl 3 rfl) ?_
            refine va_iast hx hb hK hP hD hS 18 0 rfl rfl b10 dX5_drive_85 (fun H locs hP hD hS => ?_)
            replace hP : va_P (dC, dI) vwCl (wX5 cI cZ cJ cA h0 a x1 x3 x4 x5 x6 x7 x9 x10 x14 x15 x16 x19 x20 x21 x22 x23 x24 x41 x42 f0 f2 f8 f11 f12 f13 f17 f18 f25 f26 f27 f28 f29 f30 f31 f32 (upd f33 (Int32.toNatClampNeg ((12 * v1) + (f32 (Int32.toNatClampNeg v1)))) v2) (upd f34 (Int32.toNatClampNeg ((12 * v1) + (f32 (Int32.toNatClampNeg v1)))) v3) f35 f36 f37 f38 f39 f40 f43) H := hP
            replace hD : va_D A (wX5 cI cZ cJ cA h0 a x1 x3 x4 x5 x6 x7 x9 x10 x14 x15 x16 x19 x20 x21 x22 x23 x24 x41 x42 f0 f2 f8 f11 f12 f13 f17 f18 f25 f26 f27 f28 f29 f30 f31 f32 (upd f33 (Int32.toNatClampNeg ((12 * v1) + (f32 (Int32.toNatClampNeg v1)))) v2) (upd f34 (Int32.toNatClampNeg ((12 * v1) + (f32 (Int32.toNatClampNeg v1)))) v3) f35 f36 f37 f38 f39 f40 f43) := hD
            refine lv_aload_n hx hb dX5_drive_86 rfl (lv_at hl 0 rfl) ?_
            refine va_get (D := (dC, dI)) (ci := 5) (v := .ref (a 32)) (C := RX5) (T := TX5) (N := 44) hx hb hts (fun w hw => List.mem_cons_of_mem _ (List.mem_append_right _ hw)) hown hK hP 0 rfl rfl 32 (by decide) (hts (.fieldLink RX5 63 "OldStadiumModel" "actMany" "[I") (List.mem_of_getElem? (i := 2) rfl)) (fun _ h9 => h9) rfl dX5_drive_87 ?_
            refine lv_iload_n hx hb dX5_drive_90 rfl (lv_at hl 1 rfl) ?_
            refine lv_dup2_11 hx hb dX5_drive_91 rfl rfl ?_
            refine va_iald hx hb hK hP 16 0 rfl rfl b7 dX5_drive_92 ?_
            refine lv_iconst (v := 1) hx hb dX5_drive_93 (by decide) ?_
            refine lv_iadd hx hb dX5_drive_94 ?_
            refine va_iast hx hb hK hP hD hS 16 0 rfl rfl b7 dX5_drive_95 (fun H locs hP hD hS => ?_)
            replace hP : va_P (dC, dI) vwCl (wX5 cI cZ cJ cA h0 a x1 x3 x4 x5 x6 x7 x9 x10 x14 x15 x16 x19 x20 x21 x22 x23 x24 x41 x42 f0 f2 f8 f11 f12 f13 f17 f18 f25 f26 f27 f28 f29 f30 f31 (upd f32 (Int32.toNatClampNeg v1) ((f32 (Int32.toNatClampNeg v1)) + 1)) (upd f33 (Int32.toNatClampNeg ((12 * v1) + (f32 (Int32.toNatClampNeg v1)))) v2) (upd f34 (Int32.toNatClampNeg ((12 * v1) + (f32 (Int32.toNatClampNeg v1)))) v3) f35 f36 f37 f38 f39 f40 f43) H := hP
            replace hD : va_D A (wX5 cI cZ cJ cA h0 a x1 x3 x4 x5 x6 x7 x9 x10 x14 x15 x16 x19 x20 x21 x22 x23 x24 x41 x42 f0 f2 f8 f11 f12 f13 f17 f18 f25 f26 f27 f28 f29 f30 f31 (upd f32 (Int32.toNatClampNeg v1) ((f32 (Int32.toNatClampNeg v1)) + 1)) (upd f33 (Int32.toNatClampNeg ((12 * v1) + (f32 (Int32.toNatClampNeg v1)))) v2) (upd f34 (Int32.toNatClampNeg ((12 * v1) + (f32 (Int32.toNatClampNeg v1)))) v3) f35 f36 f37 f38 f39 f40 f43) := hD
            refine lv_aload_n hx hb dX5_drive_96 rfl (lv_at hl 0 rfl) ?_
            refine va_get (D := (dC, dI)) (ci := 5) (v := .ref (a 32)) (C := RX5) (T := TX5) (N := 44) hx hb hts (fun w hw => List.mem_cons_of_mem _ (List.mem_append_right _ hw)) hown hK hP 0 rfl rfl 32 (by decide) (hts (.fieldLink RX5 63 "OldStadiumModel" "actMany" "[I") (List.mem_of_getElem? (i := 2) rfl)) (fun _ h9 => h9) rfl dX5_drive_97 ?_
            refine lv_iload_n hx hb dX5_drive_100 rfl (lv_at hl 1 rfl) ?_
            refine va_iald hx hb hK hP 16 0 rfl rfl b7 dX5_drive_101 ?_
            obtain rfl := Option.some.inj hf
            exact hret _ _ _ _ _ dX5_drive_102 rfl hP hD hS
          · replace hf := z_im hf c9
            refine lv_iconst (v := (-1)) hx hb dX5_drive_50 (by decide) ?_
            obtain rfl := Option.some.inj hf
            exact hret _ _ _ _ _ dX5_drive_51 rfl hP hD hS
set_option maxHeartbeats 4000000 in
set_option maxRecDepth 100000 in
theorem k_X5_drive (l : Launch) (dC : Nat → ClassId) (dI : Nat → Nat → Nat) (cI cZ cJ cA : ClassId) (h0 : Nat) (a : Nat → Nat) (sz : Nat) (N : Nat) (v1 : Int32) (v2 : Int32) (v3 : Int32) (x1 : Int32) (x3 : Int32) (x4 : Int32) (x5 : Int32) (x6 : Int32) (x7 : Int32) (x9 : Int32) (x10 : Int32) (x14 : Int32) (x15 : Int32) (x16 : Int32) (x19 : Int32) (x20 : Int32) (x21 : Int32) (x22 : Int32) (x23 : Int32) (x24 : Int32) (x41 : Int32) (x42 : Int32) (f0 : (Nat → Int32)) (f2 : (Nat → Int32)) (f8 : (Nat → Int32)) (f11 : (Nat → Int32)) (f12 : (Nat → Int32)) (f13 : (Nat → Int32)) (f17 : (Nat → Int32)) (f18 : (Nat → Int32)) (f25 : (Nat → Int32)) (f26 : (Nat → Int32)) (f27 : (Nat → Int32)) (f28 : (Nat → Int32)) (f29 : (Nat → Int32)) (f30 : (Nat → Int32)) (f31 : (Nat → Int32)) (f32 : (Nat → Int32)) (f33 : (Nat → Int32)) (f34 : (Nat → Int32)) (f35 : (Nat → Int32)) (f36 : (Nat → Int32)) (f37 : (Nat → Int32)) (f38 : (Nat → Int32)) (f39 : (Nat → Int32)) (f40 : (Nat → Int32)) (f43 : (Nat → Int32)) (o : (Int32 × (Nat → Int32) × (Nat → Int32) × (Nat → Int32))) (hf : q_X5_drive N v1 v2 v3 x22 x23 f32 f33 f34 = some o) : Met l yX5_drive wsX5_drive ({ frames := 1, cells := 0, slots := 0, locals := 22 } : Room) (z_Pre dC dI (z_ty cI cZ cJ cA) [.ref h0, .int v1, .int v2, .int v3] sz (wX5 cI cZ cJ cA h0 a x1 x3 x4 x5 x6 x7 x9 x10 x14 x15 x16 x19 x20 x21 x22 x23 x24 x41 x42 f0 f2 f8 f11 f12 f13 f17 f18 f25 f26 f27 f28 f29 f30 f31 f32 f33 f34 f35 f36 f37 f38 f39 f40 f43)) (z_Pi dC dI o.1 (wX5 cI cZ cJ cA h0 a x1 x3 x4 x5 x6 x7 x9 x10 x14 x15 x16 x19 x20 x21 x22 x23 x24 x41 x42 f0 f2 f8 f11 f12 f13 f17 f18 f25 f26 f27 f28 f29 f30 f31 o.2.1 o.2.2.1 o.2.2.2 f35 f36 f37 f38 f39 f40 f43) sz (wX5 cI cZ cJ cA h0 a x1 x3 x4 x5 x6 x7 x9 x10 x14 x15 x16 x19 x20 x21 x22 x23 x24 x41 x42 f0 f2 f8 f11 f12 f13 f17 f18 f25 f26 f27 f28 f29 f30 f31 f32 f33 f34 f35 f36 f37 f38 f39 f40 f43)) 0 0 (va_A (wX5 cI cZ cJ cA h0 a x1 x3 x4 x5 x6 x7 x9 x10 x14 x15 x16 x19 x20 x21 x22 x23 x24 x41 x42 f0 f2 f8 f11 f12 f13 f17 f18 f25 f26 f27 f28 f29 f30 f31 f32 f33 f34 f35 f36 f37 f38 f39 f40 f43) sz) := by
  refine Met.ofW (cc := cX5_drive) (maxL := 4) (ret := (some .int)) (by decide) rfl ?_
  intro p e s m args below meth c s₁ B hml hv
  obtain ⟨rfl, hsz, hP, hK, hD0, hN⟩ := hv
  subst hsz
  have hl := lv_entry ([.ref h0, .int v1, .int v2, .int v3]) (n := 4) (Nat.le_of_ble_eq_true rfl)
  rw [lg_entry_eq]
  refine b_X5_drive N ⟨⟨B.exec, B.bytes, hml, findClass_of_methodNamed B.named, atoms_spec (ws := wsX5_drive) B.pre⟩, Nat.le_refl _, Nat.le_refl _, fun q h => Or.inr h, hN, hK⟩ hf hP hD0.self va_S.rf hl (fun pc H locs ls r hd hr hP hD hS => ?_)
  subst hr
  exact W.iret B.exec B.bytes B.returns (fun t ht hW => ⟨⟨_, (), rfl, rfl, by rw [ht]; exact hP, hD⟩, hS.F ht⟩) hS.2.2 hd
def q_X5_crash_L27 (N : Nat) (v1 : Int32) (x23 : Int32) (f25 : (Nat → Int32)) (f26 : (Nat → Int32)) (f27 : (Nat → Int32)) : Nat → Int32 → Int32 → Option Int32
  | 0, _, _ => none
  | n + 1, v2, v3 =>
    (if x23 ≤ v3 then
     (some v2)
    else
     (if v2 = 0 then
      (if v3 = v1 then
       (q_X5_crash_L27 N v1 x23 f25 f26 f27 n 0 (v3 + 1))
      else
       (if z_in v3 8 then
       (if (f25 (Int32.toNatClampNeg v3)) = 1 then
        (if z_in v1 8 then
        (if (f26 (Int32.toNatClampNeg v3)) = (f26 (Int32.toNatClampNeg v1)) then
         (if (f27 (Int32.toNatClampNeg v3)) = (f27 (Int32.toNatClampNeg v1)) then
          (q_X5_crash_L27 N v1 x23 f25 f26 f27 n 1 (v3 + 1))
         else
          (q_X5_crash_L27 N v1 x23 f25 f26 f27 n 0 (v3 + 1)))
        else
         (q_X5_crash_L27 N v1 x23 f25 f26 f27 n 0 (v3 + 1)))
        else none)
       else
        (if (f25 (Int32.toNatClampNeg v3)) = 4 then
         (if z_in v1 8 then
         (if (f26 (Int32.toNatClampNeg v3)) = (f26 (Int32.toNatClampNeg v1)) then
          (if (f27 (Int32.toNatClampNeg v3)) = (f27 (Int32.toNatClampNeg v1)) then
           (q_X5_crash_L27 N v1 x23 f25 f26 f27 n 1 (v3 + 1))
          else
           (q_X5_crash_L27 N v1 x23 f25 f26 f27 n 0 (v3 + 1)))
         else
          (q_X5_crash_L27 N v1 x23 f25 f26 f27 n 0 (v3 + 1)))
         else none)
        else
         (q_X5_crash_L27 N v1 x23 f25 f26 f27 n 0 (v3 + 1))))
       else none))
     else
      (q_X5_crash_L27 N v1 x23 f25 f26 f27 n 1 (v3 + 1))))
set_option maxHeartbeats 4000000 in
set_option maxRecDepth 100000 in
theorem b_X5_crash_L27 {p : Program} {l : Launch} {e : Env} {R : Room} {s : State} {m : MethodId} {args : Array Value} {below : List Frame} {meth : Method} {c : Code} {Q : State → Prop} {A : Nat → Prop} {dC : Nat → ClassId} {dI : Nat → Nat → Nat} {cI cZ cJ cA : ClassId} {h0 : Nat} {a : Nat → Nat} (N : Nat) (C0 : z_Cx p s m args c cX5_crash 4 wsX5_crash RX5 R 0 0 A dC dI (z_ty cI cZ cJ cA)) : ∀ (n : Nat) {v1 : Int32} {v2 : Int32} {v3 : Int32} {x1 : Int32} {x3 : Int32} {x4 : Int32} {x5 : Int32} {x6 : Int32} {x7 : Int32} {x9 : Int32} {x10 : Int32} {x14 : Int32} {x15 : Int32} {x16 : Int32} {x19 : Int32} {x20 : Int32} {x21 : Int32} {x22 : Int32} {x23 : Int32} {x24 : Int32} {x41 : Int32} {x42 : Int32} {f0 : (Nat → Int32)} {f2 : (Nat → Int32)} {f8 : (Nat → Int32)} {f11 : (Nat → Int32)} {f12 : (Nat → Int32)} {f13 : (Nat → Int32)} {f17 : (Nat → Int32)} {f18 : (Nat → Int32)} {f25 : (Nat → Int32)} {f26 : (Nat → Int32)} {f27 : (Nat → Int32)} {f28 : (Nat → Int32)} {f29 : (Nat → Int32)} {f30 : (Nat → Int32)} {f31 : (Nat → Int32)} {f32 : (Nat → Int32)} {f33 : (Nat → Int32)} {f34 : (Nat → Int32)} {f35 : (Nat → Int32)} {f36 : (Nat → Int32)} {f37 : (Nat → Int32)} {f38 : (Nat → Int32)} {f39 : (Nat → Int32)} {f40 : (Nat → Int32)} {f43 : (Nat → Int32)} {o : Int32} {H : Heap} {locs : List Loc} {ls : Array Slot}, q_X5_crash_L27 N v1 x23 f25 f26 f27 n v2 v3 = some o → va_P (dC, dI) vwCl (wX5 cI cZ cJ cA h0 a x1 x3 x4 x5 x6 x7 x9 x10 x14 x15 x16 x19 x20 x21 x22 x23 x24 x41 x42 f0 f2 f8 f11 f12 f13 f17 f18 f25 f26 f27 f28 f29 f30 f31 f32 f33 f34 f35 f36 f37 f38 f39 f40 f43) H → va_D A (wX5 cI cZ cJ cA h0 a x1 x3 x4 x5 x6 x7 x9 x10 x14 x15 x16 x19 x20 x21 x22 x23 x24 x41 x42 f0 f2 f8 f11 f12 f13 f17 f18 f25 f26 f27 f28 f29 f30 f31 f32 f33 f34 f35 f36 f37 f38 f39 f40 f43) → va_S A s.heap H locs → lv_has ls 4 [(0, .ref h0), (1, .int v1), (2, .int v2), (3, .int v3)] →
    (∀ (H : Heap) (locs : List Loc) (ls : Array Slot), va_P (dC, dI) vwCl (wX5 cI cZ cJ cA h0 a x1 x3 x4 x5 x6 x7 x9 x10 x14 x15 x16 x19 x20 x21 x22 x23 x24 x41 x42 f0 f2 f8 f11 f12 f13 f17 f18 f25 f26 f27 f28 f29 f30 f31 f32 f33 f34 f35 f36 f37 f38 f39 f40 f43) H → va_D A (wX5 cI cZ cJ cA h0 a x1 x3 x4 x5 x6 x7 x9 x10 x14 x15 x16 x19 x20 x21 x22 x23 x24 x41 x42 f0 f2 f8 f11 f12 f13 f17 f18 f25 f26 f27 f28 f29 f30 f31 f32 f33 f34 f35 f36 f37 f38 f39 f40 f43) → va_S A s.heap H locs → lv_has ls 4 [(0, .ref h0), (1, .int v1), (2, .int o)] → W p l e R s m args below meth c H locs 0 0 Q (F0 m 106 ls [])) →
    W p l e R s m args below meth c H locs 0 0 Q (F0 m 27 ls []) := by
  obtain ⟨⟨hx, hb, hml, hown, hts⟩, hRf, hRl, hA, hN, hK⟩ := C0
  intro n
  induction n with
  | zero =>
    intro v1 v2 v3 x1 x3 x4 x5 x6 x7 x9 x10 x14 x15 x16 x19 x20 x21 x22 x23 x24 x41 x42 f0 f2 f8 f11 f12 f13 f17 f18 f25 f26 f27 f28 f29 f30 f31 f32 f33 f34 f35 f36 f37 f38 f39 f40 f43 o H locs ls hf
    cases hf
  | succ n ih =>
    intro v1 v2 v3 x1 x3 x4 x5 x6 x7 x9 x10 x14 x15 x16 x19 x20 x21 x22 x23 x24 x41 x42 f0 f2 f8 f11 f12 f13 f17 f18 f25 f26 f27 f28 f29 f30 f31 f32 f33 f34 f35 f36 f37 f38 f39 f40 f43 o H locs ls hf hP hD hS hl hexit
    rw [q_X5_crash_L27] at hf
    refine lv_iload_n hx hb dX5_crash_27 rfl (lv_at hl 3 rfl) ?_
    refine lv_aload_n hx hb dX5_crash_28 rfl (lv_at hl 0 rfl) ?_
    refine va_get (D := (dC, dI)) (ci := 5) (v := .int x23) (C := RX5) (T := TX5) (N := 44) hx hb hts (fun w hw => List.mem_cons_of_mem _ (List.mem_append_right _ hw)) hown hK hP 0 rfl rfl 23 (by decide) (hts (.fieldLink RX5 171 "OldStadiumModel" "chariots" "I") (List.mem_of_getElem? (i := 1) rfl)) (fun _ h9 => h9) rfl dX5_crash_29 ?_
    refine lv_icmp_ge (tgt := 106) hx hb dX5_crash_32 (by decide) (fun c1 => ?_) (fun c1 => ?_)
    · replace hf := z_ip hf c1
      obtain rfl := Option.some.inj hf
      exact hexit _ _ _ hP hD hS (lv_sub hl [0, 1, 2] rfl)
    · replace hf := z_im hf c1
      refine lv_iload_n hx hb dX5_crash_35 rfl (lv_at hl 2 rfl) ?_
      refine lv_if_ne (tgt := 94) hx hb dX5_crash_36 (by decide) (fun c2 => ?_) (fun c2 => ?_)
      · replace hf := z_im hf c2
        refine lv_iconst (v := 1) hx hb dX5_crash_94 (by decide) ?_
        refine lv_goto (tgt := 99) hx hb dX5_crash_95 (by decide) ?_
        refine lv_istore_n (lv' := [(2, .int 1), (0, .ref h0), (1, .int v1), (3, .int v3)]) hx hb dX5_crash_99 rfl hl (by decide) rfl (fun ls hl => ?_)
        refine lv_iinc (v := (v3 + 1)) (lv' := [(3, .int (v3 + 1)), (2, .int 1), (0, .ref h0), (1, .int v1)]) hx hb dX5_crash_100 hl (k := 3) rfl rfl (by decide) rfl (fun ls hl => ?_)
        refine lv_goto (tgt := 27) hx hb dX5_crash_103 (by decide) ?_
        exact ih hf hP hD hS (lv_sub hl [2, 3, 1, 0] rfl) hexit
      · replace hf := z_ip hf c2
        refine lv_iload_n hx hb dX5_crash_39 rfl (lv_at hl 3 rfl) ?_
        refine lv_iload_n hx hb dX5_crash_40 rfl (lv_at hl 1 rfl) ?_
        refine lv_icmp_eq (tgt := 98) hx hb dX5_crash_41 (by decide) (fun c3 => ?_) (fun c3 => ?_)
        · replace hf := z_ip hf c3
          refine lv_iconst (v := 0) hx hb dX5_crash_98 (by decide) ?_
          refine lv_istore_n (lv' := [(2, .int 0), (0, .ref h0), (1, .int v1), (3, .int v3)]) hx hb dX5_crash_99 rfl hl (by decide) rfl (fun ls hl => ?_)
          refine lv_iinc (v := (v3 + 1)) (lv' := [(3, .int (v3 + 1)), (2, .int 0), (0, .ref h0), (1, .int v1)]) hx hb dX5_crash_100 hl (k := 3) rfl rfl (by decide) rfl (fun ls hl => ?_)
          refine lv_goto (tgt := 27) hx hb dX5_crash_103 (by decide) ?_
          exact ih hf hP hD hS (lv_sub hl [2, 3, 1, 0] rfl) hexit
        · replace hf := z_im hf c3
          refine lv_aload_n hx hb dX5_crash_44 rfl (lv_at hl 0 rfl) ?_
          refine va_get (D := (dC, dI)) (ci := 5) (v := .ref (a 25)) (C := RX5) (T := TX5) (N := 44) hx hb hts (fun w hw => List.mem_cons_of_mem _ (List.mem_append_right _ hw)) hown hK hP 0 rfl rfl 25 (by decide) (hts (.fieldLink RX5 42 "OldStadiumModel" "state" "[I") (List.mem_of_getElem? (i := 2) rfl)) (fun _ h9 => h9) rfl dX5_crash_45 ?_
          refine lv_iload_n hx hb dX5_crash_48 rfl (lv_at hl 3 rfl) ?_
          have b4 := z_c1 hf
          replace hf := z_c2 hf
          refine va_iald hx hb hK hP 9 0 rfl rfl b4 dX5_crash_49 ?_
          refine lv_iconst (v := 1) hx hb dX5_crash_50 (by decide) ?_
          refine lv_icmp_eq (tgt := 64) hx hb dX5_crash_51 (by decide) (fun c5 => ?_) (fun c5 => ?_)
          · replace hf := z_ip hf c5
            refine lv_aload_n hx hb dX5_crash_64 rfl (lv_at hl 0 rfl) ?_
            refine va_get (D := (dC, dI)) (ci := 5) (v := .ref (a 26)) (C := RX5) (T := TX5) (N := 44) hx hb hts (fun w hw => List.mem_cons_of_mem _ (List.mem_append_right _ hw)) hown hK hP 0 rfl rfl 26 (by decide) (hts (.fieldLink RX5 45 "OldStadiumModel" "lane" "[I") (List.mem_of_getElem? (i := 3) rfl)) (fun _ h9 => h9) rfl dX5_crash_65 ?_
            refine lv_iload_n hx hb dX5_crash_68 rfl (lv_at hl 3 rfl) ?_
            refine va_iald hx hb hK hP 10 0 rfl rfl b4 dX5_crash_69 ?_
            refine lv_aload_n hx hb dX5_crash_70 rfl (lv_at hl 0 rfl) ?_
            refine va_get (D := (dC, dI)) (ci := 5) (v := .ref (a 26)) (C := RX5) (T := TX5) (N := 44) hx hb hts (fun w hw => List.mem_cons_of_mem _ (List.mem_append_right _ hw)) hown hK hP 0 rfl rfl 26 (by decide) (hts (.fieldLink RX5 45 "OldStadiumModel" "lane" "[I") (List.mem_of_getElem? (i := 3) rfl)) (fun _ h9 => h9) rfl dX5_crash_71 ?_
            refine lv_iload_n hx hb dX5_crash_74 rfl (lv_at hl 1 rfl) ?_
            have b6 := z_c1 hf
            replace hf := z_c2 hf
            refine va_iald hx hb hK hP 10 0 rfl rfl b6 dX5_crash_75 ?_
            refine lv_icmp_ne (tgt := 98) hx hb dX5_crash_76 (by decide) (fun c7 => ?_) (fun c7 => ?_)
            · replace hf := z_im hf c7
              refine lv_iconst (v := 0) hx hb dX5_crash_98 (by decide) ?_
              refine lv_istore_n (lv' := [(2, .int 0), (0, .ref h0), (1, .int v1), (3, .int v3)]) hx hb dX5_crash_99 rfl hl (by decide) rfl (fun ls hl => ?_)
              refine lv_iinc (v := (v3 + 1)) (lv' := [(3, .int (v3 + 1)), (2, .int 0), (0, .ref h0), (1, .int v1)]) hx hb dX5_crash_100 hl (k := 3) rfl rfl (by decide) rfl (fun ls hl => ?_)
              refine lv_goto (tgt := 27) hx hb dX5_crash_103 (by decide) ?_
              exact ih hf hP hD hS (lv_sub hl [2, 3, 1, 0] rfl) hexit
            · replace hf := z_ip hf c7
              refine lv_aload_n hx hb dX5_crash_79 rfl (lv_at hl 0 rfl) ?_
              refine va_get (D := (dC, dI)) (ci := 5) (v := .ref (a 27)) (C := RX5) (T := TX5) (N := 44) hx hb hts (fun w hw => List.mem_cons_of_mem _ (List.mem_append_right _ hw)) hown hK hP 0 rfl rfl 27 (by decide) (hts (.fieldLink RX5 48 "OldStadiumModel" "cell" "[I") (List.mem_of_getElem? (i := 4) rfl)) (fun _ h9 => h9) rfl dX5_crash_80 ?_
              refine lv_iload_n hx hb dX5_crash_83 rfl (lv_at hl 3 rfl) ?_
              refine va_iald hx hb hK hP 11 0 rfl rfl b4 dX5_crash_84 ?_
              refine lv_aload_n hx hb dX5_crash_85 rfl (lv_at hl 0 rfl) ?_
              refine va_get (D := (dC, dI)) (ci := 5) (v := .ref (a 27)) (C := RX5) (T := TX5) (N := 44) hx hb hts (fun w hw => List.mem_cons_of_mem _ (List.mem_append_right _ hw)) hown hK hP 0 rfl rfl 27 (by decide) (hts (.fieldLink RX5 48 "OldStadiumModel" "cell" "[I") (List.mem_of_getElem? (i := 4) rfl)) (fun _ h9 => h9) rfl dX5_crash_86 ?_
              refine lv_iload_n hx hb dX5_crash_89 rfl (lv_at hl 1 rfl) ?_
              refine va_iald hx hb hK hP 11 0 rfl rfl b6 dX5_crash_90 ?_
              refine lv_icmp_ne (tgt := 98) hx hb dX5_crash_91 (by decide) (fun c8 => ?_) (fun c8 => ?_)
              · replace hf := z_im hf c8
                refine lv_iconst (v := 0) hx hb dX5_crash_98 (by decide) ?_
                refine lv_istore_n (lv' := [(2, .int 0), (0, .ref h0), (1, .int v1), (3, .int v3)]) hx hb dX5_crash_99 rfl hl (by decide) rfl (fun ls hl => ?_)
                refine lv_iinc (v := (v3 + 1)) (lv' := [(3, .int (v3 + 1)), (2, .int 0), (0, .ref h0), (1, .int v1)]) hx hb dX5_crash_100 hl (k := 3) rfl rfl (by decide) rfl (fun ls hl => ?_)
                refine lv_goto (tgt := 27) hx hb dX5_crash_103 (by decide) ?_
                exact ih hf hP hD hS (lv_sub hl [2, 3, 1, 0] rfl) hexit
              · replace hf := z_ip hf c8
                refine lv_iconst (v := 1) hx hb dX5_crash_94 (by decide) ?_
                refine lv_goto (tgt := 99) hx hb dX5_crash_95 (by decide) ?_
                refine lv_istore_n (lv' := [(2, .int 1), (0, .ref h0), (1, .int v1), (3, .int v3)]) hx hb dX5_crash_99 rfl hl (by decide) rfl (fun ls hl => ?_)
                refine lv_iinc (v := (v3 + 1)) (lv' := [(3, .int (v3 + 1)), (2, .int 1), (0, .ref h0), (1, .int v1)]) hx hb dX5_crash_100 hl (k := 3) rfl rfl (by decide) rfl (fun ls hl => ?_)
                refine lv_goto (tgt := 27) hx hb dX5_crash_103 (by decide) ?_
                exact ih hf hP hD hS (lv_sub hl [2, 3, 1, 0] rfl) hexit
          · replace hf := z_im hf c5
            refine lv_aload_n hx hb dX5_crash_54 rfl (lv_at hl 0 rfl) ?_
            refine va_get (D := (dC, dI)) (ci := 5) (v := .ref (a 25)) (C := RX5) (T := TX5) (N := 44) hx hb hts (fun w hw => List.mem_cons_of_mem _ (List.mem_append_right _ hw)) hown hK hP 0 rfl rfl 25 (by decide) (hts (.fieldLink RX5 42 "OldStadiumModel" "state" "[I") (List.mem_of_getElem? (i := 2) rfl)) (fun _ h9 => h9) rfl dX5_crash_55 ?_
            refine lv_iload_n hx hb dX5_crash_58 rfl (lv_at hl 3 rfl) ?_
            refine va_iald hx hb hK hP 9 0 rfl rfl b4 dX5_crash_59 ?_
            refine lv_iconst (v := 4) hx hb dX5_crash_60 (by decide) ?_
            refine lv_icmp_ne (tgt := 98) hx hb dX5_crash_61 (by decide) (fun c9 => ?_) (fun c9 => ?_)
            · replace hf := z_im hf c9
              refine lv_iconst (v := 0) hx hb dX5_crash_98 (by decide) ?_
              refine lv_istore_n (lv' := [(2, .int 0), (0, .ref h0), (1, .int v1), (3, .int v3)]) hx hb dX5_crash_99 rfl hl (by decide) rfl (fun ls hl => ?_)
              refine lv_iinc (v := (v3 + 1)) (lv' := [(3, .int (v3 + 1)), (2, .int 0), (0, .ref h0), (1, .int v1)]) hx hb dX5_crash_100 hl (k := 3) rfl rfl (by decide) rfl (fun ls hl => ?_)
              refine lv_goto (tgt := 27) hx hb dX5_crash_103 (by decide) ?_
              exact ih hf hP hD hS (lv_sub hl [2, 3, 1, 0] rfl) hexit
            · replace hf := z_ip hf c9
              refine lv_aload_n hx hb dX5_crash_64 rfl (lv_at hl 0 rfl) ?_
              refine va_get (D := (dC, dI)) (ci := 5) (v := .ref (a 26)) (C := RX5) (T := TX5) (N := 44) hx hb hts (fun w hw => List.mem_cons_of_mem _ (List.mem_append_right _ hw)) hown hK hP 0 rfl rfl 26 (by decide) (hts (.fieldLink RX5 45 "OldStadiumModel" "lane" "[I") (List.mem_of_getElem? (i := 3) rfl)) (fun _ h9 => h9) rfl dX5_crash_65 ?_
              refine lv_iload_n hx hb dX5_crash_68 rfl (lv_at hl 3 rfl) ?_
              refine va_iald hx hb hK hP 10 0 rfl rfl b4 dX5_crash_69 ?_
              refine lv_aload_n hx hb dX5_crash_70 rfl (lv_at hl 0 rfl) ?_
              refine va_get (D := (dC, dI)) (ci := 5) (v := .ref (a 26)) (C := RX5) (T := TX5) (N := 44) hx hb hts (fun w hw => List.mem_cons_of_mem _ (List.mem_append_right _ hw)) hown hK hP 0 rfl rfl 26 (by decide) (hts (.fieldLink RX5 45 "OldStadiumModel" "lane" "[I") (List.mem_of_getElem? (i := 3) rfl)) (fun _ h9 => h9) rfl dX5_crash_71 ?_
              refine lv_iload_n hx hb dX5_crash_74 rfl (lv_at hl 1 rfl) ?_
              have b10 := z_c1 hf
              replace hf := z_c2 hf
              refine va_iald hx hb hK hP 10 0 rfl rfl b10 dX5_crash_75 ?_
              refine lv_icmp_ne (tgt := 98) hx hb dX5_crash_76 (by decide) (fun c11 => ?_) (fun c11 => ?_)
              · replace hf := z_im hf c11
                refine lv_iconst (v := 0) hx hb dX5_crash_98 (by decide) ?_
                refine lv_istore_n (lv' := [(2, .int 0), (0, .ref h0), (1, .int v1), (3, .int v3)]) hx hb dX5_crash_99 rfl hl (by decide) rfl (fun ls hl => ?_)
                refine lv_iinc (v := (v3 + 1)) (lv' := [(3, .int (v3 + 1)), (2, .int 0), (0, .ref h0), (1, .int v1)]) hx hb dX5_crash_100 hl (k := 3) rfl rfl (by decide) rfl (fun ls hl => ?_)
                refine lv_goto (tgt := 27) hx hb dX5_crash_103 (by decide) ?_
                exact ih hf hP hD hS (lv_sub hl [2, 3, 1, 0] rfl) hexit
              · replace hf := z_ip hf c11
                refine lv_aload_n hx hb dX5_crash_79 rfl (lv_at hl 0 rfl) ?_
                refine va_get (D := (dC, dI)) (ci := 5) (v := .ref (a 27)) (C := RX5) (T := TX5) (N := 44) hx hb hts (fun w hw => List.mem_cons_of_mem _ (List.mem_append_right _ hw)) hown hK hP 0 rfl rfl 27 (by decide) (hts (.fieldLink RX5 48 "OldStadiumModel" "cell" "[I") (List.mem_of_getElem? (i := 4) rfl)) (fun _ h9 => h9) rfl dX5_crash_80 ?_
                refine lv_iload_n hx hb dX5_crash_83 rfl (lv_at hl 3 rfl) ?_
                refine va_iald hx hb hK hP 11 0 rfl rfl b4 dX5_crash_84 ?_
                refine lv_aload_n hx hb dX5_crash_85 rfl (lv_at hl 0 rfl) ?_
                refine va_get (D := (dC, dI)) (ci := 5) (v := .ref (a 27)) (C := RX5) (T := TX5) (N := 44) hx hb hts (fun w hw => List.mem_cons_of_mem _ (List.mem_append_right _ hw)) hown hK hP 0 rfl rfl 27 (by decide) (hts (.fieldLink RX5 48 "OldStadiumModel" "cell" "[I") (List.mem_of_getElem? (i := 4) rfl)) (fun _ h9 => h9) rfl dX5_crash_86 ?_
                refine lv_iload_n hx hb dX5_crash_89 rfl (lv_at hl 1 rfl) ?_
                refine va_iald hx hb hK hP 11 0 rfl rfl b10 dX5_crash_90 ?_
                refine lv_icmp_ne (tgt := 98) hx hb dX5_crash_91 (by decide) (fun c12 => ?_) (fun c12 => ?_)
                · replace hf := z_im hf c12
                  refine lv_iconst (v := 0) hx hb dX5_crash_98 (by decide) ?_
                  refine lv_istore_n (lv' := [(2, .int 0), (0, .ref h0), (1, .int v1), (3, .int v3)]) hx hb dX5_crash_99 rfl hl (by decide) rfl (fun ls hl => ?_)
                  refine lv_iinc (v := (v3 + 1)) (lv' := [(3, .int (v3 + 1)), (2, .int 0), (0, .ref h0), (1, .int v1)]) hx hb dX5_crash_100 hl (k := 3) rfl rfl (by decide) rfl (fun ls hl => ?_)
                  refine lv_goto (tgt := 27) hx hb dX5_crash_103 (by decide) ?_
                  exact ih hf hP hD hS (lv_sub hl [2, 3, 1, 0] rfl) hexit
                · replace hf := z_ip hf c12
                  refine lv_iconst (v := 1) hx hb dX5_crash_94 (by decide) ?_
                  refine lv_goto (tgt := 99) hx hb dX5_crash_95 (by decide) ?_
                  refine lv_istore_n (lv' := [(2, .int 1), (0, .ref h0), (1, .int v1), (3, .int v3)]) hx hb dX5_crash_99 rfl hl (by decide) rfl (fun ls hl => ?_)
                  refine lv_iinc (v := (v3 + 1)) (lv' := [(3, .int (v3 + 1)), (2, .int 1), (0, .ref h0), (1, .int v1)]) hx hb dX5_crash_100 hl (k := 3) rfl rfl (by decide) rfl (fun ls hl => ?_)
                  refine lv_goto (tgt := 27) hx hb dX5_crash_103 (by decide) ?_
                  exact ih hf hP hD hS (lv_sub hl [2, 3, 1, 0] rfl) hexit
def q_X5_crash_L2 (N : Nat) (x23 : Int32) (f26 : (Nat → Int32)) (f27 : (Nat → Int32)) : Nat → Int32 → (Nat → Int32) → Option (Nat → Int32)
  | 0, _, _ => none
  | n + 1, v1, f25 =>
    (if x23 ≤ v1 then
     (some f25)
    else
     (if z_in v1 8 then
     (if (f25 (Int32.toNatClampNeg v1)) = 1 then
      (Option.bind (q_X5_crash_L27 N v1 x23 f25 f26 f27 N 0 0) (fun t4 =>
      (if t4 = 0 then
       (q_X5_crash_L2 N x23 f26 f27 n (v1 + 1) f25)
      else
       (q_X5_crash_L2 N x23 f26 f27 n (v1 + 1) (upd f25 (Int32.toNatClampNeg v1) 4)))))
     else
      (q_X5_crash_L2 N x23 f26 f27 n (v1 + 1) f25))
     else none))
set_option maxHeartbeats 4000000 in
set_option maxRecDepth 100000 in
theorem b_X5_crash_L2 {p : Program} {l : Launch} {e : Env} {R : Room} {s : State} {m : MethodId} {args : Array Value} {below : List Frame} {meth : Method} {c : Code} {Q : State → Prop} {A : Nat → Prop} {dC : Nat → ClassId} {dI : Nat → Nat → Nat} {cI cZ cJ cA : ClassId} {h0 : Nat} {a : Nat → Nat} (N : Nat) (C0 : z_Cx p s m args c cX5_crash 4 wsX5_crash RX5 R 0 0 A dC dI (z_ty cI cZ cJ cA)) : ∀ (n : Nat) {v1 : Int32} {x1 : Int32} {x3 : Int32} {x4 : Int32} {x5 : Int32} {x6 : Int32} {x7 : Int32} {x9 : Int32} {x10 : Int32} {x14 : Int32} {x15 : Int32} {x16 : Int32} {x19 : Int32} {x20 : Int32} {x21 : Int32} {x22 : Int32} {x23 : Int32} {x24 : Int32} {x41 : Int32} {x42 : Int32} {f0 : (Nat → Int32)} {f2 : (Nat → Int32)} {f8 : (Nat → Int32)} {f11 : (Nat → Int32)} {f12 : (Nat → Int32)} {f13 : (Nat → Int32)} {f17 : (Nat → Int32)} {f18 : (Nat → Int32)} {f25 : (Nat → Int32)} {f26 : (Nat → Int32)} {f27 : (Nat → Int32)} {f28 : (Nat → Int32)} {f29 : (Nat → Int32)} {f30 : (Nat → Int32)} {f31 : (Nat → Int32)} {f32 : (Nat → Int32)} {f33 : (Nat → Int32)} {f34 : (Nat → Int32)} {f35 : (Nat → Int32)} {f36 : (Nat → Int32)} {f37 : (Nat → Int32)} {f38 : (Nat → Int32)} {f39 : (Nat → Int32)} {f40 : (Nat → Int32)} {f43 : (Nat → Int32)} {o : (Nat → Int32)} {H : Heap} {locs : List Loc} {ls : Array Slot}, q_X5_crash_L2 N x23 f26 f27 n v1 f25 = some o → va_P (dC, dI) vwCl (wX5 cI cZ cJ cA h0 a x1 x3 x4 x5 x6 x7 x9 x10 x14 x15 x16 x19 x20 x21 x22 x23 x24 x41 x42 f0 f2 f8 f11 f12 f13 f17 f18 f25 f26 f27 f28 f29 f30 f31 f32 f33 f34 f35 f36 f37 f38 f39 f40 f43) H → va_D A (wX5 cI cZ cJ cA h0 a x1 x3 x4 x5 x6 x7 x9 x10 x14 x15 x16 x19 x20 x21 x22 x23 x24 x41 x42 f0 f2 f8 f11 f12 f13 f17 f18 f25 f26 f27 f28 f29 f30 f31 f32 f33 f34 f35 f36 f37 f38 f39 f40 f43) → va_S A s.heap H locs → lv_has ls 4 [(0, .ref h0), (1, .int v1)] →
    (∀ (H : Heap) (locs : List Loc) (ls : Array Slot), va_P (dC, dI) vwCl (wX5 cI cZ cJ cA h0 a x1 x3 x4 x5 x6 x7 x9 x10 x14 x15 x16 x19 x20 x21 x22 x23 x24 x41 x42 f0 f2 f8 f11 f12 f13 f17 f18 o f26 f27 f28 f29 f30 f31 f32 f33 f34 f35 f36 f37 f38 f39 f40 f43) H → va_D A (wX5 cI cZ cJ cA h0 a x1 x3 x4 x5 x6 x7 x9 x10 x14 x15 x16 x19 x20 x21 x22 x23 x24 x41 x42 f0 f2 f8 f11 f12 f13 f17 f18 o f26 f27 f28 f29 f30 f31 f32 f33 f34 f35 f36 f37 f38 f39 f40 f43) → va_S A s.heap H locs → lv_has ls 4 [(0, .ref h0)] → W p l e R s m args below meth c H locs 0 0 Q (F0 m 123 ls [])) →
    W p l e R s m args below meth c H locs 0 0 Q (F0 m 2 ls []) := by
  obtain ⟨⟨hx, hb, hml, hown, hts⟩, hRf, hRl, hA, hN, hK⟩ := C0
  intro n
  induction n with
  | zero =>
    intro v1 x1 x3 x4 x5 x6 x7 x9 x10 x14 x15 x16 x19 x20 x21 x22 x23 x24 x41 x42 f0 f2 f8 f11 f12 f13 f17 f18 f25 f26 f27 f28 f29 f30 f31 f32 f33 f34 f35 f36 f37 f38 f39 f40 f43 o H locs ls hf
    cases hf
  | succ n ih =>
    intro v1 x1 x3 x4 x5 x6 x7 x9 x10 x14 x15 x16 x19 x20 x21 x22 x23 x24 x41 x42 f0 f2 f8 f11 f12 f13 f17 f18 f25 f26 f27 f28 f29 f30 f31 f32 f33 f34 f35 f36 f37 f38 f39 f40 f43 o H locs ls hf hP hD hS hl hexit
    rw [q_X5_crash_L2] at hf
    refine lv_iload_n hx hb dX5_crash_2 rfl (lv_at hl 1 rfl) ?_
    refine lv_aload_n hx hb dX5_crash_3 rfl (lv_at hl 0 rfl) ?_
    refine va_get (D := (dC, dI)) (ci := 5) (v := .int x23) (C := RX5) (T := TX5) (N := 44) hx hb hts (fun w hw => List.mem_cons_of_mem _ (List.mem_append_right _ hw)) hown hK hP 0 rfl rfl 23 (by decide) (hts (.fieldLink RX5 171 "OldStadiumModel" "chariots" "I") (List.mem_of_getElem? (i := 1) rfl)) (fun _ h9 => h9) rfl dX5_crash_4 ?_
    refine lv_icmp_ge (tgt := 123) hx hb dX5_crash_7 (by decide) (fun c1 => ?_) (fun c1 => ?_)
    · replace hf := z_ip hf c1
      obtain rfl := Option.some.inj hf
      exact hexit _ _ _ hP hD hS (lv_sub hl [0] rfl)
    · replace hf := z_im hf c1
      refine lv_aload_n hx hb dX5_crash_10 rfl (lv_at hl 0 rfl) ?_
      refine va_get (D := (dC, dI)) (ci := 5) (v := .ref (a 25)) (C := RX5) (T := TX5) (N := 44) hx hb hts (fun w hw => List.mem_cons_of_mem _ (List.mem_append_right _ hw)) hown hK hP 0 rfl rfl 25 (by decide) (hts (.fieldLink RX5 42 "OldStadiumModel" "state" "[I") (List.mem_of_getElem? (i := 2) rfl)) (fun _ h9 => h9) rfl dX5_crash_11 ?_
      refine lv_iload_n hx hb dX5_crash_14 rfl (lv_at hl 1 rfl) ?_
      have b2 := z_c1 hf
      replace hf := z_c2 hf
      refine va_iald hx hb hK hP 9 0 rfl rfl b2 dX5_crash_15 ?_
      refine lv_iconst (v := 1) hx hb dX5_crash_16 (by decide) ?_
      refine lv_icmp_eq (tgt := 23) hx hb dX5_crash_17 (by decide) (fun c3 => ?_) (fun c3 => ?_)
      · replace hf := z_ip hf c3
        refine lv_iconst (v := 0) hx hb dX5_crash_23 (by decide) ?_
        refine lv_istore_n (lv' := [(2, .int 0), (0, .ref h0), (1, .int v1)]) hx hb dX5_crash_24 rfl hl (by decide) rfl (fun ls hl => ?_)
        refine lv_iconst (v := 0) hx hb dX5_crash_25 (by decide) ?_
        refine lv_istore_n (lv' := [(3, .int 0), (2, .int 0), (0, .ref h0), (1, .int v1)]) hx hb dX5_crash_26 rfl hl (by decide) rfl (fun ls hl => ?_)
        obtain ⟨t4, ht4, hf1⟩ := z_ib hf
        replace hf := hf1
        clear hf1
        refine b_X5_crash_L27 N ⟨⟨hx, hb, hml, hown, hts⟩, hRf, hRl, hA, hN, hK⟩ N ht4 hP hD hS (lv_sub hl [2, 3, 1, 0] rfl) (fun H locs ls hP hD hS hl => ?_)
        refine lv_iload_n hx hb dX5_crash_106 rfl (lv_at hl 2 rfl) ?_
        refine lv_if_eq (tgt := 117) hx hb dX5_crash_107 (by decide) (fun c5 => ?_) (fun c5 => ?_)
        · replace hf := z_ip hf c5
          refine lv_iinc (v := (v1 + 1)) (lv' := [(1, .int (v1 + 1)), (0, .ref h0), (2, .int t4)]) hx hb dX5_crash_117 hl (k := 1) rfl rfl (by decide) rfl (fun ls hl => ?_)
          refine lv_goto (tgt := 2) hx hb dX5_crash_120 (by decide) ?_
          exact ih hf hP hD hS (lv_sub hl [1, 0] rfl) hexit
        · replace hf := z_im hf c5
          refine lv_aload_n hx hb dX5_crash_110 rfl (lv_at hl 0 rfl) ?_
          refine va_get (D := (dC, dI)) (ci := 5) (v := .ref (a 25)) (C := RX5) (T := TX5) (N := 44) hx hb hts (fun w hw => List.mem_cons_of_mem _ (List.mem_append_right _ hw)) hown hK hP 0 rfl rfl 25 (by decide) (hts (.fieldLink RX5 42 "OldStadiumModel" "state" "[I") (List.mem_of_getElem? (i := 2) rfl)) (fun _ h9 => h9) rfl dX5_crash_111 ?_
          refine lv_iload_n hx hb dX5_crash_114 rfl (lv_at hl 1 rfl) ?_
          refine lv_iconst (v := 4) hx hb dX5_crash_115 (by decide) ?_
          refine va_iast hx hb hK hP hD hS 9 0 rfl rfl b2 dX5_crash_116 (fun H locs hP hD hS => ?_)
          replace hP : va_P (dC, dI) vwCl (wX5 cI cZ cJ cA h0 a x1 x3 x4 x5 x6 x7 x9 x10 x14 x15 x16 x19 x20 x21 x22 x23 x24 x41 x42 f0 f2 f8 f11 f12 f13 f17 f18 (upd f25 (Int32.toNatClampNeg v1) 4) f26 f27 f28 f29 f30 f31 f32 f33 f34 f35 f36 f37 f38 f39 f40 f43) H := hP
          replace hD : va_D A (wX5 cI cZ cJ cA h0 a x1 x3 x4 x5 x6 x7 x9 x10 x14 x15 x16 x19 x20 x21 x22 x23 x24 x41 x42 f0 f2 f8 f11 f12 f13 f17 f18 (upd f25 (Int32.toNatClampNeg v1) 4) f26 f27 f28 f29 f30 f31 f32 f33 f34 f35 f36 f37 f38 f39 f40 f43) := hD
          refine lv_iinc (v := (v1 + 1)) (lv' := [(1, .int (v1 + 1)), (0, .ref h0), (2, .int t4)]) hx hb dX5_crash_117 hl (k := 1) rfl rfl (by decide) rfl (fun ls hl => ?_)
          refine lv_goto (tgt := 2) hx hb dX5_crash_120 (by decide) ?_
          exact ih hf hP hD hS (lv_sub hl [1, 0] rfl) hexit
      · replace hf := z_im hf c3
        refine lv_goto (tgt := 117) hx hb dX5_crash_20 (by decide) ?_
        refine lv_iinc (v := (v1 + 1)) (lv' := [(1, .int (v1 + 1)), (0, .ref h0)]) hx hb dX5_crash_117 hl (k := 1) rfl rfl (by decide) rfl (fun ls hl => ?_)
        refine lv_goto (tgt := 2) hx hb dX5_crash_120 (by decide) ?_
        exact ih hf hP hD hS (lv_sub hl [1, 0] rfl) hexit
def q_X5_crash_L125 (N : Nat) (x22 : Int32) (x23 : Int32) : Nat → Int32 → (Nat → Int32) → (Nat → Int32) → Option ((Nat → Int32) × (Nat → Int32))
  | 0, _, _, _ => none
  | n + 1, v1, f25, f29 =>
    (if x23 ≤ v1 then
     (some (f25, f29))
    else
     (if z_in v1 8 then
     (if (f25 (Int32.toNatClampNeg v1)) = 4 then
      (q_X5_crash_L125 N x22 x23 n (v1 + 1) (upd f25 (Int32.toNatClampNeg v1) 3) (upd f29 (Int32.toNatClampNeg v1) x22))
     else
      (q_X5_crash_L125 N x22 x23 n (v1 + 1) f25 f29))
     else none))
set_option maxHeartbeats 4000000 in
set_option maxRecDepth 100000 in
theorem b_X5_crash_L125 {p : Program} {l : Launch} {e : Env} {R : Room} {s : State} {m : MethodId} {args : Array Value} {below : List Frame} {meth : Method} {c : Code} {Q : State → Prop} {A : Nat → Prop} {dC : Nat → ClassId} {dI : Nat → Nat → Nat} {cI cZ cJ cA : ClassId} {h0 : Nat} {a : Nat → Nat} (N : Nat) (C0 : z_Cx p s m args c cX5_crash 4 wsX5_crash RX5 R 0 0 A dC dI (z_ty cI cZ cJ cA)) : ∀ (n : Nat) {v1 : Int32} {x1 : Int32} {x3 : Int32} {x4 : Int32} {x5 : Int32} {x6 : Int32} {x7 : Int32} {x9 : Int32} {x10 : Int32} {x14 : Int32} {x15 : Int32} {x16 : Int32} {x19 : Int32} {x20 : Int32} {x21 : Int32} {x22 : Int32} {x23 : Int32} {x24 : Int32} {x41 : Int32} {x42 : Int32} {f0 : (Nat → Int32)} {f2 : (Nat → Int32)} {f8 : (Nat → Int32)} {f11 : (Nat → Int32)} {f12 : (Nat → Int32)} {f13 : (Nat → Int32)} {f17 : (Nat → Int32)} {f18 : (Nat → Int32)} {f25 : (Nat → Int32)} {f26 : (Nat → Int32)} {f27 : (Nat → Int32)} {f28 : (Nat → Int32)} {f29 : (Nat → Int32)} {f30 : (Nat → Int32)} {f31 : (Nat → Int32)} {f32 : (Nat → Int32)} {f33 : (Nat → Int32)} {f34 : (Nat → Int32)} {f35 : (Nat → Int32)} {f36 : (Nat → Int32)} {f37 : (Nat → Int32)} {f38 : (Nat → Int32)} {f39 : (Nat → Int32)} {f40 : (Nat → Int32)} {f43 : (Nat → Int32)} {o : ((Nat → Int32) × (Nat → Int32))} {H : Heap} {locs : List Loc} {ls : Array Slot}, q_X5_crash_L125 N x22 x23 n v1 f25 f29 = some o → va_P (dC, dI) vwCl (wX5 cI cZ cJ cA h0 a x1 x3 x4 x5 x6 x7 x9 x10 x14 x15 x16 x19 x20 x21 x22 x23 x24 x41 x42 f0 f2 f8 f11 f12 f13 f17 f18 f25 f26 f27 f28 f29 f30 f31 f32 f33 f34 f35 f36 f37 f38 f39 f40 f43) H → va_D A (wX5 cI cZ cJ cA h0 a x1 x3 x4 x5 x6 x7 x9 x10 x14 x15 x16 x19 x20 x21 x22 x23 x24 x41 x42 f0 f2 f8 f11 f12 f13 f17 f18 f25 f26 f27 f28 f29 f30 f31 f32 f33 f34 f35 f36 f37 f38 f39 f40 f43) → va_S A s.heap H locs → lv_has ls 4 [(0, .ref h0), (1, .int v1)] →
    (∀ (H : Heap) (locs : List Loc) (ls : Array Slot), va_P (dC, dI) vwCl (wX5 cI cZ cJ cA h0 a x1 x3 x4 x5 x6 x7 x9 x10 x14 x15 x16 x19 x20 x21 x22 x23 x24 x41 x42 f0 f2 f8 f11 f12 f13 f17 f18 o.1 f26 f27 f28 o.2 f30 f31 f32 f33 f34 f35 f36 f37 f38 f39 f40 f43) H → va_D A (wX5 cI cZ cJ cA h0 a x1 x3 x4 x5 x6 x7 x9 x10 x14 x15 x16 x19 x20 x21 x22 x23 x24 x41 x42 f0 f2 f8 f11 f12 f13 f17 f18 o.1 f26 f27 f28 o.2 f30 f31 f32 f33 f34 f35 f36 f37 f38 f39 f40 f43) → va_S A s.heap H locs → lv_has ls 4 [] → W p l e R s m args below meth c H locs 0 0 Q (F0 m 169 ls [])) →
    W p l e R s m args below meth c H locs 0 0 Q (F0 m 125 ls []) := by
  obtain ⟨⟨hx, hb, hml, hown, hts⟩, hRf, hRl, hA, hN, hK⟩ := C0
  intro n
  induction n with
  | zero =>
    intro v1 x1 x3 x4 x5 x6 x7 x9 x10 x14 x15 x16 x19 x20 x21 x22 x23 x24 x41 x42 f0 f2 f8 f11 f12 f13 f17 f18 f25 f26 f27 f28 f29 f30 f31 f32 f33 f34 f35 f36 f37 f38 f39 f40 f43 o H locs ls hf
    cases hf
  | succ n ih =>
    intro v1 x1 x3 x4 x5 x6 x7 x9 x10 x14 x15 x16 x19 x20 x21 x22 x23 x24 x41 x42 f0 f2 f8 f11 f12 f13 f17 f18 f25 f26 f27 f28 f29 f30 f31 f32 f33 f34 f35 f36 f37 f38 f39 f40 f43 o H locs ls hf hP hD hS hl hexit
    rw [q_X5_crash_L125] at hf
    refine lv_iload_n hx hb dX5_crash_125 rfl (lv_at hl 1 rfl) ?_
    refine lv_aload_n hx hb dX5_crash_126 rfl (lv_at hl 0 rfl) ?_
    refine va_get (D := (dC, dI)) (ci := 5) (v := .int x23) (C := RX5) (T := TX5) (N := 44) hx hb hts (fun w hw => List.mem_cons_of_mem _ (List.mem_append_right _ hw)) hown hK hP 0 rfl rfl 23 (by decide) (hts (.fieldLink RX5 171 "OldStadiumModel" "chariots" "I") (List.mem_of_getElem? (i := 1) rfl)) (fun _ h9 => h9) rfl dX5_crash_127 ?_
    refine lv_icmp_ge (tgt := 169) hx hb dX5_crash_130 (by decide) (fun c1 => ?_) (fun c1 => ?_)
    · replace hf := z_ip hf c1
      obtain rfl := Option.some.inj hf
      exact hexit _ _ _ hP hD hS (lv_sub hl [] rfl)
    · replace hf := z_im hf c1
      refine lv_aload_n hx hb dX5_crash_133 rfl (lv_at hl 0 rfl) ?_
      refine va_get (D := (dC, dI)) (ci := 5) (v := .ref (a 25)) (C := RX5) (T := TX5) (N := 44) hx hb hts (fun w hw => List.mem_cons_of_mem _ (List.mem_append_right _ hw)) hown hK hP 0 rfl rfl 25 (by decide) (hts (.fieldLink RX5 42 "OldStadiumModel" "state" "[I") (List.mem_of_getElem? (i := 2) rfl)) (fun _ h9 => h9) rfl dX5_crash_134 ?_
      refine lv_iload_n hx hb dX5_crash_137 rfl (lv_at hl 1 rfl) ?_
      have b2 := z_c1 hf
      replace hf := z_c2 hf
      refine va_iald hx hb hK hP 9 0 rfl rfl b2 dX5_crash_138 ?_
      refine lv_iconst (v := 4) hx hb dX5_crash_139 (by decide) ?_
      refine lv_icmp_eq (tgt := 146) hx hb dX5_crash_140 (by decide) (fun c3 => ?_) (fun c3 => ?_)
      · replace hf := z_ip hf c3
        refine lv_aload_n hx hb dX5_crash_146 rfl (lv_at hl 0 rfl) ?_
        refine va_get (D := (dC, dI)) (ci := 5) (v := .ref (a 25)) (C := RX5) (T := TX5) (N := 44) hx hb hts (fun w hw => List.mem_cons_of_mem _ (List.mem_append_right _ hw)) hown hK hP 0 rfl rfl 25 (by decide) (hts (.fieldLink RX5 42 "OldStadiumModel" "state" "[I") (List.mem_of_getElem? (i := 2) rfl)) (fun _ h9 => h9) rfl dX5_crash_147 ?_
        refine lv_iload_n hx hb dX5_crash_150 rfl (lv_at hl 1 rfl) ?_
        refine lv_iconst (v := 3) hx hb dX5_crash_151 (by decide) ?_
        refine va_iast hx hb hK hP hD hS 9 0 rfl rfl b2 dX5_crash_152 (fun H locs hP hD hS => ?_)
        replace hP : va_P (dC, dI) vwCl (wX5 cI cZ cJ cA h0 a x1 x3 x4 x5 x6 x7 x9 x10 x14 x15 x16 x19 x20 x21 x22 x23 x24 x41 x42 f0 f2 f8 f11 f12 f13 f17 f18 (upd f25 (Int32.toNatClampNeg v1) 3) f26 f27 f28 f29 f30 f31 f32 f33 f34 f35 f36 f37 f38 f39 f40 f43) H := hP
        replace hD : va_D A (wX5 cI cZ cJ cA h0 a x1 x3 x4 x5 x6 x7 x9 x10 x14 x15 x16 x19 x20 x21 x22 x23 x24 x41 x42 f0 f2 f8 f11 f12 f13 f17 f18 (upd f25 (Int32.toNatClampNeg v1) 3) f26 f27 f28 f29 f30 f31 f32 f33 f34 f35 f36 f37 f38 f39 f40 f43) := hD
        refine lv_aload_n hx hb dX5_crash_153 rfl (lv_at hl 0 rfl) ?_
        refine va_get (D := (dC, dI)) (ci := 5) (v := .ref (a 29)) (C := RX5) (T := TX5) (N := 44) hx hb hts (fun w hw => List.mem_cons_of_mem _ (List.mem_append_right _ hw)) hown hK hP 0 rfl rfl 29 (by decide) (hts (.fieldLink RX5 54 "OldStadiumModel" "when" "[I") (List.mem_of_getElem? (i := 5) rfl)) (fun _ h9 => h9) rfl dX5_crash_154 ?_
        refine lv_iload_n hx hb dX5_crash_157 rfl (lv_at hl 1 rfl) ?_
        refine lv_aload_n hx hb dX5_crash_158 rfl (lv_at hl 0 rfl) ?_
        refine va_get (D := (dC, dI)) (ci := 5) (v := .int x22) (C := RX5) (T := TX5) (N := 44) hx hb hts (fun w hw => List.mem_cons_of_mem _ (List.mem_append_right _ hw)) hown hK hP 0 rfl rfl 22 (by decide) (hts (.fieldLink RX5 168 "OldStadiumModel" "tick" "I") (List.mem_of_getElem? (i := 6) rfl)) (fun _ h9 => h9) rfl dX5_crash_159 ?_
        refine va_iast hx hb hK hP hD hS 13 0 rfl rfl b2 dX5_crash_162 (fun H locs hP hD hS => ?_)
        replace hP : va_P (dC, dI) vwCl (wX5 cI cZ cJ cA h0 a x1 x3 x4 x5 x6 x7 x9 x10 x14 x15 x16 x19 x20 x21 x22 x23 x24 x41 x42 f0 f2 f8 f11 f12 f13 f17 f18 (upd f25 (Int32.toNatClampNeg v1) 3) f26 f27 f28 (upd f29 (Int32.toNatClampNeg v1) x22) f30 f31 f32 f33 f34 f35 f36 f37 f38 f39 f40 f43) H := hP
        replace hD : va_D A (wX5 cI cZ cJ cA h0 a x1 x3 x4 x5 x6 x7 x9 x10 x14 x15 x16 x19 x20 x21 x22 x23 x24 x41 x42 f0 f2 f8 f11 f12 f13 f17 f18 (upd f25 (Int32.toNatClampNeg v1) 3) f26 f27 f28 (upd f29 (Int32.toNatClampNeg v1) x22) f30 f31 f32 f33 f34 f35 f36 f37 f38 f39 f40 f43) := hD
        refine lv_iinc (v := (v1 + 1)) (lv' := [(1, .int (v1 + 1)), (0, .ref h0)]) hx hb dX5_crash_163 hl (k := 1) rfl rfl (by decide) rfl (fun ls hl => ?_)
        refine lv_goto (tgt := 125) hx hb dX5_crash_166 (by decide) ?_
        exact ih hf hP hD hS (lv_sub hl [1, 0] rfl) hexit
      · replace hf := z_im hf c3
        refine lv_goto (tgt := 163) hx hb dX5_crash_143 (by decide) ?_
        refine lv_iinc (v := (v1 + 1)) (lv' := [(1, .int (v1 + 1)), (0, .ref h0)]) hx hb dX5_crash_163 hl (k := 1) rfl rfl (by decide) rfl (fun ls hl => ?_)
        refine lv_goto (tgt := 125) hx hb dX5_crash_166 (by decide) ?_
        exact ih hf hP hD hS (lv_sub hl [1, 0] rfl) hexit
def q_X5_crash (N : Nat) (x22 : Int32) (x23 : Int32) (f25 : (Nat → Int32)) (f26 : (Nat → Int32)) (f27 : (Nat → Int32)) (f29 : (Nat → Int32)) : Option ((Nat → Int32) × (Nat → Int32)) :=
  (Option.bind (q_X5_crash_L2 N x23 f26 f27 N 0 f25) (fun t1 =>
  (Option.bind (q_X5_crash_L125 N x22 x23 N 0 t1 f29) (fun t2 =>
  (some (t2.1, t2.2))))))
set_option maxHeartbeats 4000000 in
set_option maxRecDepth 100000 in
theorem b_X5_crash {p : Program} {l : Launch} {e : Env} {R : Room} {s : State} {m : MethodId} {args : Array Value} {below : List Frame} {meth : Method} {c : Code} {Q : State → Prop} {A : Nat → Prop} {dC : Nat → ClassId} {dI : Nat → Nat → Nat} {cI cZ cJ cA : ClassId} {h0 : Nat} {a : Nat → Nat} (N : Nat) (C0 : z_Cx p s m args c cX5_crash 4 wsX5_crash RX5 R 0 0 A dC dI (z_ty cI cZ cJ cA)) {x1 : Int32} {x3 : Int32} {x4 : Int32} {x5 : Int32} {x6 : Int32} {x7 : Int32} {x9 : Int32} {x10 : Int32} {x14 : Int32} {x15 : Int32} {x16 : Int32} {x19 : Int32} {x20 : Int32} {x21 : Int32} {x22 : Int32} {x23 : Int32} {x24 : Int32} {x41 : Int32} {x42 : Int32} {f0 : (Nat → Int32)} {f2 : (Nat → Int32)} {f8 : (Nat → Int32)} {f11 : (Nat → Int32)} {f12 : (Nat → Int32)} {f13 : (Nat → Int32)} {f17 : (Nat → Int32)} {f18 : (Nat → Int32)} {f25 : (Nat → Int32)} {f26 : (Nat → Int32)} {f27 : (Nat → Int32)} {f28 : (Nat → Int32)} {f29 : (Nat → Int32)} {f30 : (Nat → Int32)} {f31 : (Nat → Int32)} {f32 : (Nat → Int32)} {f33 : (Nat → Int32)} {f34 : (Nat → Int32)} {f35 : (Nat → Int32)} {f36 : (Nat → Int32)} {f37 : (Nat → Int32)} {f38 : (Nat → Int32)} {f39 : (Nat → Int32)} {f40 : (Nat → Int32)} {f43 : (Nat → Int32)} {o : ((Nat → Int32) × (Nat → Int32))} {H : Heap} {locs : List Loc} {ls : Array Slot} (hf : q_X5_crash N x22 x23 f25 f26 f27 f29 = some o) (hP : va_P (dC, dI) vwCl (wX5 cI cZ cJ cA h0 a x1 x3 x4 x5 x6 x7 x9 x10 x14 x15 x16 x19 x20 x21 x22 x23 x24 x41 x42 f0 f2 f8 f11 f12 f13 f17 f18 f25 f26 f27 f28 f29 f30 f31 f32 f33 f34 f35 f36 f37 f38 f39 f40 f43) H) (hD : va_D A (wX5 cI cZ cJ cA h0 a x1 x3 x4 x5 x6 x7 x9 x10 x14 x15 x16 x19 x20 x21 x22 x23 x24 x41 x42 f0 f2 f8 f11 f12 f13 f17 f18 f25 f26 f27 f28 f29 f30 f31 f32 f33 f34 f35 f36 f37 f38 f39 f40 f43)) (hS : va_S A s.heap H locs) (hl : lv_has ls 4 [(0, .ref h0)])
    (hret : ∀ (pc : Nat) (H : Heap) (locs : List Loc) (ls : Array Slot), decode cX5_crash pc = .ok (.return_, 1) → va_P (dC, dI) vwCl (wX5 cI cZ cJ cA h0 a x1 x3 x4 x5 x6 x7 x9 x10 x14 x15 x16 x19 x20 x21 x22 x23 x24 x41 x42 f0 f2 f8 f11 f12 f13 f17 f18 o.1 f26 f27 f28 o.2 f30 f31 f32 f33 f34 f35 f36 f37 f38 f39 f40 f43) H → va_D A (wX5 cI cZ cJ cA h0 a x1 x3 x4 x5 x6 x7 x9 x10 x14 x15 x16 x19 x20 x21 x22 x23 x24 x41 x42 f0 f2 f8 f11 f12 f13 f17 f18 o.1 f26 f27 f28 o.2 f30 f31 f32 f33 f34 f35 f36 f37 f38 f39 f40 f43) → va_S A s.heap H locs → W p l e R s m args below meth c H locs 0 0 Q (F0 m pc ls [])) :
    W p l e R s m args below meth c H locs 0 0 Q (F0 m 0 ls []) := by
  obtain ⟨⟨hx, hb, hml, hown, hts⟩, hRf, hRl, hA, hN, hK⟩ := C0
  unfold q_X5_crash at hf
  refine lv_iconst (v := 0) hx hb dX5_crash_0 (by decide) ?_
  refine lv_istore_n (lv' := [(1, .int 0), (0, .ref h0)]) hx hb dX5_crash_1 rfl hl (by decide) rfl (fun ls hl => ?_)
  obtain ⟨t1, ht1, hf1⟩ := z_ib hf
  replace hf := hf1
  clear hf1
  refine b_X5_crash_L2 N ⟨⟨hx, hb, hml, hown, hts⟩, hRf, hRl, hA, hN, hK⟩ N ht1 hP hD hS (lv_sub hl [1, 0] rfl) (fun H locs ls hP hD hS hl => ?_)
  refine lv_iconst (v := 0) hx hb dX5_crash_123 (by decide) ?_
  refine lv_istore_n (lv' := [(1, .int 0), (0, .ref h0)]) hx hb dX5_crash_124 rfl hl (by decide) rfl (fun ls hl => ?_)
  obtain ⟨t2, ht2, hf1⟩ := z_ib hf
  replace hf := hf1
  clear hf1
  refine b_X5_crash_L125 N ⟨⟨hx, hb, hml, hown, hts⟩, hRf, hRl, hA, hN, hK⟩ N ht2 hP hD hS (lv_sub hl [1, 0] rfl) (fun H locs ls hP hD hS hl => ?_)
  obtain rfl := Option.some.inj hf
  exact hret _ _ _ _ dX5_crash_169 hP hD hS
set_option maxHeartbeats 4000000 in
set_option maxRecDepth 100000 in
theorem k_X5_crash (l : Launch) (dC : Nat → ClassId) (dI : Nat → Nat → Nat) (cI cZ cJ cA : ClassId) (h0 : Nat) (a : Nat → Nat) (sz : Nat) (N : Nat) (x1 : Int32) (x3 : Int32) (x4 : Int32) (x5 : Int32) (x6 : Int32) (x7 : Int32) (x9 : Int32) (x10 : Int32) (x14 : Int32) (x15 : Int32) (x16 : Int32) (x19 : Int32) (x20 : Int32) (x21 : Int32) (x22 : Int32) (x23 : Int32) (x24 : Int32) (x41 : Int32) (x42 : Int32) (f0 : (Nat → Int32)) (f2 : (Nat → Int32)) (f8 : (Nat → Int32)) (f11 : (Nat → Int32)) (f12 : (Nat → Int32)) (f13 : (Nat → Int32)) (f17 : (Nat → Int32)) (f18 : (Nat → Int32)) (f25 : (Nat → Int32)) (f26 : (Nat → Int32)) (f27 : (Nat → Int32)) (f28 : (Nat → Int32)) (f29 : (Nat → Int32)) (f30 : (Nat → Int32)) (f31 : (Nat → Int32)) (f32 : (Nat → Int32)) (f33 : (Nat → Int32)) (f34 : (Nat → Int32)) (f35 : (Nat → Int32)) (f36 : (Nat → Int32)) (f37 : (Nat → Int32)) (f38 : (Nat → Int32)) (f39 : (Nat → Int32)) (f40 : (Nat → Int32)) (f43 : (Nat → Int32)) (o : ((Nat → Int32) × (Nat → Int32))) (hf : q_X5_crash N x22 x23 f25 f26 f27 f29 = some o) : Met l yX5_crash wsX5_crash ({ frames := 0, cells := 0, slots := 0, locals := 0 } : Room) (z_Pre dC dI (z_ty cI cZ cJ cA) [.ref h0] sz (wX5 cI cZ cJ cA h0 a x1 x3 x4 x5 x6 x7 x9 x10 x14 x15 x16 x19 x20 x21 x22 x23 x24 x41 x42 f0 f2 f8 f11 f12 f13 f17 f18 f25 f26 f27 f28 f29 f30 f31 f32 f33 f34 f35 f36 f37 f38 f39 f40 f43)) (z_Pv dC dI (wX5 cI cZ cJ cA h0 a x1 x3 x4 x5 x6 x7 x9 x10 x14 x15 x16 x19 x20 x21 x22 x23 x24 x41 x42 f0 f2 f8 f11 f12 f13 f17 f18 o.1 f26 f27 f28 o.2 f30 f31 f32 f33 f34 f35 f36 f37 f38 f39 f40 f43) sz (wX5 cI cZ cJ cA h0 a x1 x3 x4 x5 x6 x7 x9 x10 x14 x15 x16 x19 x20 x21 x22 x23 x24 x41 x42 f0 f2 f8 f11 f12 f13 f17 f18 f25 f26 f27 f28 f29 f30 f31 f32 f33 f34 f35 f36 f37 f38 f39 f40 f43)) 0 0 (va_A (wX5 cI cZ cJ cA h0 a x1 x3 x4 x5 x6 x7 x9 x10 x14 x15 x16 x19 x20 x21 x22 x23 x24 x41 x42 f0 f2 f8 f11 f12 f13 f17 f18 f25 f26 f27 f28 f29 f30 f31 f32 f33 f34 f35 f36 f37 f38 f39 f40 f43) sz) := by
  refine Met.ofW (cc := cX5_crash) (maxL := 4) (ret := none) (by decide) rfl ?_
  intro p e s m args below meth c s₁ B hml hv
  obtain ⟨rfl, hsz, hP, hK, hD0, hN⟩ := hv
  subst hsz
  have hl := lv_entry ([.ref h0]) (n := 4) (Nat.le_of_ble_eq_true rfl)
  rw [lg_entry_eq]
  refine b_X5_crash N ⟨⟨B.exec, B.bytes, hml, findClass_of_methodNamed B.named, atoms_spec (ws := wsX5_crash) B.pre⟩, Nat.le_refl _, Nat.le_refl _, fun q h => Or.inr h, hN, hK⟩ hf hP hD0.self va_S.rf hl (fun pc H locs ls hd hP hD hS => ?_)
  exact W.vret B.exec B.bytes B.returns (fun t ht hW => ⟨⟨(), rfl, trivial, by rw [ht]; exact hP, hD⟩, hS.F ht⟩) hS.2.2 hd
def q_X5_actOf (N : Nat) (v1 : Int32) (x22 : Int32) (f31 : (Nat → Int32)) (f32 : (Nat → Int32)) : Option Int32 :=
  (if z_in v1 8 then
  (if (f32 (Int32.toNatClampNeg v1)) = 0 then
   (some (-1))
  else
   (if (f32 (Int32.toNatClampNeg v1)) = 0 then none else
   (some ((12 * v1) + (z_rem ((x22 - 1) - (f31 (Int32.toNatClampNeg v1))) (f32 (Int32.toNatClampNeg v1)))))))
  else none)
set_option maxHeartbeats 4000000 in
set_option maxRecDepth 100000 in
theorem b_X5_actOf {p : Program} {l : Launch} {e : Env} {R : Room} {s : State} {m : MethodId} {args : Array Value} {below : List Frame} {meth : Method} {c : Code} {Q : State → Prop} {A : Nat → Prop} {dC : Nat → ClassId} {dI : Nat → Nat → Nat} {cI cZ cJ cA : ClassId} {h0 : Nat} {a : Nat → Nat} (N : Nat) (C0 : z_Cx p s m args c cX5_actOf 2 wsX5_actOf RX5 R 0 0 A dC dI (z_ty cI cZ cJ cA)) {v1 : Int32} {x1 : Int32} {x3 : Int32} {x4 : Int32} {x5 : Int32} {x6 : Int32} {x7 : Int32} {x9 : Int32} {x10 : Int32} {x14 : Int32} {x15 : Int32} {x16 : Int32} {x19 : Int32} {x20 : Int32} {x21 : Int32} {x22 : Int32} {x23 : Int32} {x24 : Int32} {x41 : Int32} {x42 : Int32} {f0 : (Nat → Int32)} {f2 : (Nat → Int32)} {f8 : (Nat → Int32)} {f11 : (Nat → Int32)} {f12 : (Nat → Int32)} {f13 : (Nat → Int32)} {f17 : (Nat → Int32)} {f18 : (Nat → Int32)} {f25 : (Nat → Int32)} {f26 : (Nat → Int32)} {f27 : (Nat → Int32)} {f28 : (Nat → Int32)} {f29 : (Nat → Int32)} {f30 : (Nat → Int32)} {f31 : (Nat → Int32)} {f32 : (Nat → Int32)} {f33 : (Nat → Int32)} {f34 : (Nat → Int32)} {f35 : (Nat → Int32)} {f36 : (Nat → Int32)} {f37 : (Nat → Int32)} {f38 : (Nat → Int32)} {f39 : (Nat → Int32)} {f40 : (Nat → Int32)} {f43 : (Nat → Int32)} {o : Int32} {H : Heap} {locs : List Loc} {ls : Array Slot} (hf : q_X5_actOf N v1 x22 f31 f32 = some o) (hP : va_P (dC, dI) vwCl (wX5 cI cZ cJ cA h0 a x1 x3 x4 x5 x6 x7 x9 x10 x14 x15 x16 x19 x20 x21 x22 x23 x24 x41 x42 f0 f2 f8 f11 f12 f13 f17 f18 f25 f26 f27 f28 f29 f30 f31 f32 f33 f34 f35 f36 f37 f38 f39 f40 f43) H) (hD : va_D A (wX5 cI cZ cJ cA h0 a x1 x3 x4 x5 x6 x7 x9 x10 x14 x15 x16 x19 x20 x21 x22 x23 x24 x41 x42 f0 f2 f8 f11 f12 f13 f17 f18 f25 f26 f27 f28 f29 f30 f31 f32 f33 f34 f35 f36 f37 f38 f39 f40 f43)) (hS : va_S A s.heap H locs) (hl : lv_has ls 2 [(0, .ref h0), (1, .int v1)])
    (hret : ∀ (pc : Nat) (H : Heap) (locs : List Loc) (ls : Array Slot) (r : Int32), decode cX5_actOf pc = .ok (.ireturn, 1) → r = o → va_P (dC, dI) vwCl (wX5 cI cZ cJ cA h0 a x1 x3 x4 x5 x6 x7 x9 x10 x14 x15 x16 x19 x20 x21 x22 x23 x24 x41 x42 f0 f2 f8 f11 f12 f13 f17 f18 f25 f26 f27 f28 f29 f30 f31 f32 f33 f34 f35 f36 f37 f38 f39 f40 f43) H → va_D A (wX5 cI cZ cJ cA h0 a x1 x3 x4 x5 x6 x7 x9 x10 x14 x15 x16 x19 x20 x21 x22 x23 x24 x41 x42 f0 f2 f8 f11 f12 f13 f17 f18 f25 f26 f27 f28 f29 f30 f31 f32 f33 f34 f35 f36 f37 f38 f39 f40 f43) → va_S A s.heap H locs → W p l e R s m args below meth c H locs 0 0 Q (F0 m pc ls [.int r])) :
    W p l e R s m args below meth c H locs 0 0 Q (F0 m 0 ls []) := by
  obtain ⟨⟨hx, hb, hml, hown, hts⟩, hRf, hRl, hA, hN, hK⟩ := C0
  unfold q_X5_actOf at hf
  refine lv_aload_n hx hb dX5_actOf_0 rfl (lv_at hl 0 rfl) ?_
  refine va_get (D := (dC, dI)) (ci := 5) (v := .ref (a 32)) (C := RX5) (T := TX5) (N := 44) hx hb hts (fun w hw => List.mem_cons_of_mem _ (List.mem_append_right _ hw)) hown hK hP 0 rfl rfl 32 (by decide) (hts (.fieldLink RX5 63 "OldStadiumModel" "actMany" "[I") (List.mem_of_getElem? (i := 1) rfl)) (fun _ h9 => h9) rfl dX5_actOf_1 ?_
  refine lv_iload_n hx hb dX5_actOf_4 rfl (lv_at hl 1 rfl) ?_
  have b1 := z_c1 hf
  replace hf := z_c2 hf
  refine va_iald hx hb hK hP 16 0 rfl rfl b1 dX5_actOf_5 ?_
  refine lv_if_ne (tgt := 13) hx hb dX5_actOf_6 (by decide) (fun c2 => ?_) (fun c2 => ?_)
  · replace hf := z_im hf c2
    refine lv_bipush (v := 12) hx hb dX5_actOf_13 (by decide) ?_
    refine lv_iload_n hx hb dX5_actOf_15 rfl (lv_at hl 1 rfl) ?_
    refine lv_imul hx hb dX5_actOf_16 ?_
    refine lv_aload_n hx hb dX5_actOf_17 rfl (lv_at hl 0 rfl) ?_
    refine va_get (D := (dC, dI)) (ci := 5) (v := .int x22) (C := RX5) (T := TX5) (N := 44) hx hb hts (fun w hw => List.mem_cons_of_mem _ (List.mem_append_right _ hw)) hown hK hP 0 rfl rfl 22 (by decide) (hts (.fieldLink RX5 168 "OldStadiumModel" "tick" "I") (List.mem_of_getElem? (i := 2) rfl)) (fun _ h9 => h9) rfl dX5_actOf_18 ?_
    refine lv_iconst (v := 1) hx hb dX5_actOf_21 (by decide) ?_
    refine lv_isub hx hb dX5_actOf_22 ?_
    refine lv_aload_n hx hb dX5_actOf_23 rfl (lv_at hl 0 rfl) ?_
    refine va_get (D := (dC, dI)) (ci := 5) (v := .ref (a 31)) (C := RX5) (T := TX5) (N := 44) hx hb hts (fun w hw => List.mem_cons_of_mem _ (List.mem_append_right _ hw)) hown hK hP 0 rfl rfl 31 (by decide) (hts (.fieldLink RX5 60 "OldStadiumModel" "delay" "[I") (List.mem_of_getElem? (i := 3) rfl)) (fun _ h9 => h9) rfl dX5_actOf_24 ?_
    refine lv_iload_n hx hb dX5_actOf_27 rfl (lv_at hl 1 rfl) ?_
    refine va_iald hx hb hK hP 15 0 rfl rfl b1 dX5_actOf_28 ?_
    refine lv_isub hx hb dX5_actOf_29 ?_
    refine lv_aload_n hx hb dX5_actOf_30 rfl (lv_at hl 0 rfl) ?_
    refine va_get (D := (dC, dI)) (ci := 5) (v := .ref (a 32)) (C := RX5) (T := TX5) (N := 44) hx hb hts (fun w hw => List.mem_cons_of_mem _ (List.mem_append_right _ hw)) hown hK hP 0 rfl rfl 32 (by decide) (hts (.fieldLink RX5 63 "OldStadiumModel" "actMany" "[I") (List.mem_of_getElem? (i := 1) rfl)) (fun _ h9 => h9) rfl dX5_actOf_31 ?_
    refine lv_iload_n hx hb dX5_actOf_34 rfl (lv_at hl 1 rfl) ?_
    refine va_iald hx hb hK hP 16 0 rfl rfl b1 dX5_actOf_35 ?_
    have d3 := z_n1 hf
    replace hf := z_n2 hf
    refine z_irem hx hb dX5_actOf_36 d3 ?_
    refine lv_iadd hx hb dX5_actOf_37 ?_
    obtain rfl := Option.some.inj hf
    exact hret _ _ _ _ _ dX5_actOf_38 rfl hP hD hS
  · replace hf := z_ip hf c2
    refine lv_iconst (v := (-1)) hx hb dX5_actOf_9 (by decide) ?_
    refine lv_goto (tgt := 38) hx hb dX5_actOf_10 (by decide) ?_
    obtain rfl := Option.some.inj hf
    exact hret _ _ _ _ _ dX5_actOf_38 rfl hP hD hS
set_option maxHeartbeats 4000000 in
set_option maxRecDepth 100000 in
theorem k_X5_actOf (l : Launch) (dC : Nat → ClassId) (dI : Nat → Nat → Nat) (cI cZ cJ cA : ClassId) (h0 : Nat) (a : Nat → Nat) (sz : Nat) (N : Nat) (v1 : Int32) (x1 : Int32) (x3 : Int32) (x4 : Int32) (x5 : Int32) (x6 : Int32) (x7 : Int32) (x9 : Int32) (x10 : Int32) (x14 : Int32) (x15 : Int32) (x16 : Int32) (x19 : Int32) (x20 : Int32) (x21 : Int32) (x22 : Int32) (x23 : Int32) (x24 : Int32) (x41 : Int32) (x42 : Int32) (f0 : (Nat → Int32)) (f2 : (Nat → Int32)) (f8 : (Nat → Int32)) (f11 : (Nat → Int32)) (f12 : (Nat → Int32)) (f13 : (Nat → Int32)) (f17 : (Nat → Int32)) (f18 : (Nat → Int32)) (f25 : (Nat → Int32)) (f26 : (Nat → Int32)) (f27 : (Nat → Int32)) (f28 : (Nat → Int32)) (f29 : (Nat → Int32)) (f30 : (Nat → Int32)) (f31 : (Nat → Int32)) (f32 : (Nat → Int32)) (f33 : (Nat → Int32)) (f34 : (Nat → Int32)) (f35 : (Nat → Int32)) (f36 : (Nat → Int32)) (f37 : (Nat → Int32)) (f38 : (Nat → Int32)) (f39 : (Nat → Int32)) (f40 : (Nat → Int32)) (f43 : (Nat → Int32)) (o : Int32) (hf : q_X5_actOf N v1 x22 f31 f32 = some o) : Met l yX5_actOf wsX5_actOf ({ frames := 0, cells := 0, slots := 0, locals := 0 } : Room) (z_Pre dC dI (z_ty cI cZ cJ cA) [.ref h0, .int v1] sz (wX5 cI cZ cJ cA h0 a x1 x3 x4 x5 x6 x7 x9 x10 x14 x15 x16 x19 x20 x21 x22 x23 x24 x41 x42 f0 f2 f8 f11 f12 f13 f17 f18 f25 f26 f27 f28 f29 f30 f31 f32 f33 f34 f35 f36 f37 f38 f39 f40 f43)) (z_Pi dC dI o (wX5 cI cZ cJ cA h0 a x1 x3 x4 x5 x6 x7 x9 x10 x14 x15 x16 x19 x20 x21 x22 x23 x24 x41 x42 f0 f2 f8 f11 f12 f13 f17 f18 f25 f26 f27 f28 f29 f30 f31 f32 f33 f34 f35 f36 f37 f38 f39 f40 f43) sz (wX5 cI cZ cJ cA h0 a x1 x3 x4 x5 x6 x7 x9 x10 x14 x15 x16 x19 x20 x21 x22 x23 x24 x41 x42 f0 f2 f8 f11 f12 f13 f17 f18 f25 f26 f27 f28 f29 f30 f31 f32 f33 f34 f35 f36 f37 f38 f39 f40 f43)) 0 0 (va_A (wX5 cI cZ cJ cA h0 a x1 x3 x4 x5 x6 x7 x9 x10 x14 x15 x16 x19 x20 x21 x22 x23 x24 x41 x42 f0 f2 f8 f11 f12 f13 f17 f18 f25 f26 f27 f28 f29 f30 f31 f32 f33 f34 f35 f36 f37 f38 f39 f40 f43) sz) := by
  refine Met.ofW (cc := cX5_actOf) (maxL := 2) (ret := (some .int)) (by decide) rfl ?_
  intro p e s m args below meth c s₁ B hml hv
  obtain ⟨rfl, hsz, hP, hK, hD0, hN⟩ := hv
  subst hsz
  have hl := lv_entry ([.ref h0, .int v1]) (n := 2) (Nat.le_of_ble_eq_true rfl)
  rw [lg_entry_eq]
  refine b_X5_actOf N ⟨⟨B.exec, B.bytes, hml, findClass_of_methodNamed B.named, atoms_spec (ws := wsX5_actOf) B.pre⟩, Nat.le_refl _, Nat.le_refl _, fun q h => Or.inr h, hN, hK⟩ hf hP hD0.self va_S.rf hl (fun pc H locs ls r hd hr hP hD hS => ?_)
  subst hr
  exact W.iret B.exec B.bytes B.returns (fun t ht hW => ⟨⟨_, (), rfl, rfl, by rw [ht]; exact hP, hD⟩, hS.F ht⟩) hS.2.2 hd
def q_X5_step_L2 (N : Nat) (v1 : Int32) (x20 : Int32) (x22 : Int32) (x23 : Int32) (f25 : (Nat → Int32)) (f31 : (Nat → Int32)) (f32 : (Nat → Int32)) (f33 : (Nat → Int32)) : Nat → Int32 → (Nat → Int32) → (Nat → Int32) → Option ((Nat → Int32) × (Nat → Int32))
  | 0, _, _, _ => none
  | n + 1, v2, f27, f28 =>
    (if x23 ≤ v2 then
     (some (f27, f28))
    else
     (if z_in v2 8 then
     (if (f25 (Int32.toNatClampNeg v2)) = 1 then
      (Option.bind (q_X5_actOf N v2 x22 f31 f32) (fun o4 =>
      (if o4 = (-1) then
       (q_X5_step_L2 N v1 x20 x22 x23 f25 f31 f32 f33 n (v2 + 1) f27 f28)
      else
       (Option.bind (q_X5_actOf N v2 x22 f31 f32) (fun o6 =>
       (if z_in o6 96 then
       (if v1 ≤ (f33 (Int32.toNatClampNeg o6)) then
        (if x20 ≤ ((upd f27 (Int32.toNatClampNeg v2) ((f27 (Int32.toNatClampNeg v2)) + 1)) (Int32.toNatClampNeg v2)) then
         (q_X5_step_L2 N v1 x20 x22 x23 f25 f31 f32 f33 n (v2 + 1) (upd (upd f27 (Int32.toNatClampNeg v2) ((f27 (Int32.toNatClampNeg v2)) + 1)) (Int32.toNatClampNeg v2) 0) (upd f28 (Int32.toNatClampNeg v2) ((f28 (Int32.toNatClampNeg v2)) + 1)))
        else
         (q_X5_step_L2 N v1 x20 x22 x23 f25 f31 f32 f33 n (v2 + 1) (upd f27 (Int32.toNatClampNeg v2) ((f27 (Int32.toNatClampNeg v2)) + 1)) f28))
       else
        (q_X5_step_L2 N v1 x20 x22 x23 f25 f31 f32 f33 n (v2 + 1) f27 f28))
       else none))))))
     else
      (q_X5_step_L2 N v1 x20 x22 x23 f25 f31 f32 f33 n (v2 + 1) f27 f28))
     else none))
set_option maxHeartbeats 4000000 in
set_option maxRecDepth 100000 in
theorem b_X5_step_L2 {p : Program} {l : Launch} {e : Env} {R : Room} {s : State} {m : MethodId} {args : Array Value} {below : List Frame} {meth : Method} {c : Code} {Q : State → Prop} {A : Nat → Prop} {dC : Nat → ClassId} {dI : Nat → Nat → Nat} {cI cZ cJ cA : ClassId} {h0 : Nat} {a : Nat → Nat} (N : Nat) (C0 : z_Cx p s m args c cX5_step 4 wsX5_step RX5 R 1 23 A dC dI (z_ty cI cZ cJ cA)) : ∀ (n : Nat) {v1 : Int32} {v2 : Int32} {x1 : Int32} {x3 : Int32} {x4 : Int32} {x5 : Int32} {x6 : Int32} {x7 : Int32} {x9 : Int32} {x10 : Int32} {x14 : Int32} {x15 : Int32} {x16 : Int32} {x19 : Int32} {x20 : Int32} {x21 : Int32} {x22 : Int32} {x23 : Int32} {x24 : Int32} {x41 : Int32} {x42 : Int32} {f0 : (Nat → Int32)} {f2 : (Nat → Int32)} {f8 : (Nat → Int32)} {f11 : (Nat → Int32)} {f12 : (Nat → Int32)} {f13 : (Nat → Int32)} {f17 : (Nat → Int32)} {f18 : (Nat → Int32)} {f25 : (Nat → Int32)} {f26 : (Nat → Int32)} {f27 : (Nat → Int32)} {f28 : (Nat → Int32)} {f29 : (Nat → Int32)} {f30 : (Nat → Int32)} {f31 : (Nat → Int32)} {f32 : (Nat → Int32)} {f33 : (Nat → Int32)} {f34 : (Nat → Int32)} {f35 : (Nat → Int32)} {f36 : (Nat → Int32)} {f37 : (Nat → Int32)} {f38 : (Nat → Int32)} {f39 : (Nat → Int32)} {f40 : (Nat → Int32)} {f43 : (Nat → Int32)} {o : ((Nat → Int32) × (Nat → Int32))} {H : Heap} {locs : List Loc} {ls : Array Slot}, q_X5_step_L2 N v1 x20 x22 x23 f25 f31 f32 f33 n v2 f27 f28 = some o → va_P (dC, dI) vwCl (wX5 cI cZ cJ cA h0 a x1 x3 x4 x5 x6 x7 x9 x10 x14 x15 x16 x19 x20 x21 x22 x23 x24 x41 x42 f0 f2 f8 f11 f12 f13 f17 f18 f25 f26 f27 f28 f29 f30 f31 f32 f33 f34 f35 f36 f37 f38 f39 f40 f43) H → va_D A (wX5 cI cZ cJ cA h0 a x1 x3 x4 x5 x6 x7 x9 x10 x14 x15 x16 x19 x20 x21 x22 x23 x24 x41 x42 f0 f2 f8 f11 f12 f13 f17 f18 f25 f26 f27 f28 f29 f30 f31 f32 f33 f34 f35 f36 f37 f38 f39 f40 f43) → va_S A s.heap H locs → lv_has ls 4 [(0, .ref h0), (1, .int v1), (2, .int v2)] →
    (∀ (H : Heap) (locs : List Loc) (ls : Array Slot), va_P (dC, dI) vwCl (wX5 cI cZ cJ cA h0 a x1 x3 x4 x5 x6 x7 x9 x10 x14 x15 x16 x19 x20 x21 x22 x23 x24 x41 x42 f0 f2 f8 f11 f12 f13 f17 f18 f25 f26 o.1 o.2 f29 f30 f31 f32 f33 f34 f35 f36 f37 f38 f39 f40 f43) H → va_D A (wX5 cI cZ cJ cA h0 a x1 x3 x4 x5 x6 x7 x9 x10 x14 x15 x16 x19 x20 x21 x22 x23 x24 x41 x42 f0 f2 f8 f11 f12 f13 f17 f18 f25 f26 o.1 o.2 f29 f30 f31 f32 f33 f34 f35 f36 f37 f38 f39 f40 f43) → va_S A s.heap H locs → lv_has ls 4 [(0, .ref h0)] → W p l e R s m args below meth c H locs 0 0 Q (F0 m 95 ls [])) →
    W p l e R s m args below meth c H locs 0 0 Q (F0 m 2 ls []) := by
  obtain ⟨⟨hx, hb, hml, hown, hts⟩, hRf, hRl, hA, hN, hK⟩ := C0
  intro n
  induction n with
  | zero =>
    intro v1 v2 x1 x3 x4 x5 x6 x7 x9 x10 x14 x15 x16 x19 x20 x21 x22 x23 x24 x41 x42 f0 f2 f8 f11 f12 f13 f17 f18 f25 f26 f27 f28 f29 f30 f31 f32 f33 f34 f35 f36 f37 f38 f39 f40 f43 o H locs ls hf
    cases hf
  | succ n ih =>
    intro v1 v2 x1 x3 x4 x5 x6 x7 x9 x10 x14 x15 x16 x19 x20 x21 x22 x23 x24 x41 x42 f0 f2 f8 f11 f12 f13 f17 f18 f25 f26 f27 f28 f29 f30 f31 f32 f33 f34 f35 f36 f37 f38 f39 f40 f43 o H locs ls hf hP hD hS hl hexit
    rw [q_X5_step_L2] at hf
    refine lv_iload_n hx hb dX5_step_2 rfl (lv_at hl 2 rfl) ?_
    refine lv_aload_n hx hb dX5_step_3 rfl (lv_at hl 0 rfl) ?_
    refine va_get (D := (dC, dI)) (ci := 5) (v := .int x23) (C := RX5) (T := TX5) (N := 44) hx hb hts (fun w hw => List.mem_cons_of_mem _ (List.mem_append_right _ hw)) hown hK hP 0 rfl rfl 23 (by decide) (hts (.fieldLink RX5 171 "OldStadiumModel" "chariots" "I") (List.mem_of_getElem? (i := 1) rfl)) (fun _ h9 => h9) rfl dX5_step_4 ?_
    refine lv_icmp_ge (tgt := 95) hx hb dX5_step_7 (by decide) (fun c1 => ?_) (fun c1 => ?_)
    · replace hf := z_ip hf c1
      obtain rfl := Option.some.inj hf
      exact hexit _ _ _ hP hD hS (lv_sub hl [0] rfl)
    · replace hf := z_im hf c1
      refine lv_aload_n hx hb dX5_step_10 rfl (lv_at hl 0 rfl) ?_
      refine va_get (D := (dC, dI)) (ci := 5) (v := .ref (a 25)) (C := RX5) (T := TX5) (N := 44) hx hb hts (fun w hw => List.mem_cons_of_mem _ (List.mem_append_right _ hw)) hown hK hP 0 rfl rfl 25 (by decide) (hts (.fieldLink RX5 42 "OldStadiumModel" "state" "[I") (List.mem_of_getElem? (i := 2) rfl)) (fun _ h9 => h9) rfl dX5_step_11 ?_
      refine lv_iload_n hx hb dX5_step_14 rfl (lv_at hl 2 rfl) ?_
      have b2 := z_c1 hf
      replace hf := z_c2 hf
      refine va_iald hx hb hK hP 9 0 rfl rfl b2 dX5_step_15 ?_
      refine lv_iconst (v := 1) hx hb dX5_step_16 (by decide) ?_
      refine lv_icmp_ne (tgt := 89) hx hb dX5_step_17 (by decide) (fun c3 => ?_) (fun c3 => ?_)
      · replace hf := z_im hf c3
        refine lv_iinc (v := (v2 + 1)) (lv' := [(2, .int (v2 + 1)), (0, .ref h0), (1, .int v1)]) hx hb dX5_step_89 hl (k := 2) rfl rfl (by decide) rfl (fun ls hl => ?_)
        refine lv_goto (tgt := 2) hx hb dX5_step_92 (by decide) ?_
        exact ih hf hP hD hS (lv_sub hl [1, 2, 0] rfl) hexit
      · replace hf := z_ip hf c3
        refine lv_aload_n hx hb dX5_step_20 rfl (lv_at hl 0 rfl) ?_
        refine lv_iload_n hx hb dX5_step_21 rfl (lv_at hl 2 rfl) ?_
        obtain ⟨o4, ho4, hf1⟩ := z_ib hf
        replace hf := hf1
        clear hf1
        refine z_Vi (As := [.int v2]) (rest := []) (w := (wX5 cI cZ cJ cA h0 a x1 x3 x4 x5 x6 x7 x9 x10 x14 x15 x16 x19 x20 x21 x22 x23 x24 x41 x42 f0 f2 f8 f11 f12 f13 f17 f18 f25 f26 f27 f28 f29 f30 f31 f32 f33 f34 f35 f36 f37 f38 f39 f40 f43)) (w1 := (wX5 cI cZ cJ cA h0 a x1 x3 x4 x5 x6 x7 x9 x10 x14 x15 x16 x19 x20 x21 x22 x23 x24 x41 x42 f0 f2 f8 f11 f12 f13 f17 f18 f25 f26 f27 f28 f29 f30 f31 f32 f33 f34 f35 f36 f37 f38 f39 f40 f43)) ⟨hx, hb, hml, hown, hts⟩ (k_X5_actOf l dC dI cI cZ cJ cA h0 a H.size N v2 x1 x3 x4 x5 x6 x7 x9 x10 x14 x15 x16 x19 x20 x21 x22 x23 x24 x41 x42 f0 f2 f8 f11 f12 f13 f17 f18 f25 f26 f27 f28 f29 f30 f31 f32 f33 f34 f35 f36 f37 f38 f39 f40 f43 o4 ho4) (cwV 1 hts gX5_step_X5_actOf rfl rfl rfl (by decide +kernel) ⟨Nat.le_trans (Nat.le_of_ble_eq_true rfl) hRf, Nat.le_trans (Nat.le_of_ble_eq_true rfl) hRl⟩) hK hP hD hS hA hN (ci := 5) rfl rfl rfl rfl hl.1 rfl (Nat.le_of_ble_eq_true rfl) dX5_step_22 (fun H locs hP hD hS => ?_)
        refine lv_iconst (v := (-1)) hx hb dX5_step_25 (by decide) ?_
        refine lv_icmp_eq (tgt := 89) hx hb dX5_step_26 (by decide) (fun c5 => ?_) (fun c5 => ?_)
        · replace hf := z_ip hf c5
          refine lv_iinc (v := (v2 + 1)) (lv' := [(2, .int (v2 + 1)), (0, .ref h0), (1, .int v1)]) hx hb dX5_step_89 hl (k := 2) rfl rfl (by decide) rfl (fun ls hl => ?_)
          refine lv_goto (tgt := 2) hx hb dX5_step_92 (by decide) ?_
          exact ih hf hP hD hS (lv_sub hl [1, 2, 0] rfl) hexit
        · replace hf := z_im hf c5
          refine lv_aload_n hx hb dX5_step_29 rfl (lv_at hl 0 rfl) ?_
          refine va_get (D := (dC, dI)) (ci := 5) (v := .ref (a 33)) (C := RX5) (T := TX5) (N := 44) hx hb hts (fun w hw => List.mem_cons_of_mem _ (List.mem_append_right _ hw)) hown hK hP 0 rfl rfl 33 (by decide) (hts (.fieldLink RX5 66 "OldStadiumModel" "forward" "[I") (List.mem_of_getElem? (i := 3) rfl)) (fun _ h9 => h9) rfl dX5_step_30 ?_
          refine lv_aload_n hx hb dX5_step_33 rfl (lv_at hl 0 rfl) ?_
          refine lv_iload_n hx hb dX5_step_34 rfl (lv_at hl 2 rfl) ?_
          obtain ⟨o6, ho6, hf1⟩ := z_ib hf
          replace hf := hf1
          clear hf1
          refine z_Vi (As := [.int v2]) (rest := [.ref (a 33)]) (w := (wX5 cI cZ cJ cA h0 a x1 x3 x4 x5 x6 x7 x9 x10 x14 x15 x16 x19 x20 x21 x22 x23 x24 x41 x42 f0 f2 f8 f11 f12 f13 f17 f18 f25 f26 f27 f28 f29 f30 f31 f32 f33 f34 f35 f36 f37 f38 f39 f40 f43)) (w1 := (wX5 cI cZ cJ cA h0 a x1 x3 x4 x5 x6 x7 x9 x10 x14 x15 x16 x19 x20 x21 x22 x23 x24 x41 x42 f0 f2 f8 f11 f12 f13 f17 f18 f25 f26 f27 f28 f29 f30 f31 f32 f33 f34 f35 f36 f37 f38 f39 f40 f43)) ⟨hx, hb, hml, hown, hts⟩ (k_X5_actOf l dC dI cI cZ cJ cA h0 a H.size N v2 x1 x3 x4 x5 x6 x7 x9 x10 x14 x15 x16 x19 x20 x21 x22 x23 x24 x41 x42 f0 f2 f8 f11 f12 f13 f17 f18 f25 f26 f27 f28 f29 f30 f31 f32 f33 f34 f35 f36 f37 f38 f39 f40 f43 o6 ho6) (cwV 1 hts gX5_step_X5_actOf rfl rfl rfl (by decide +kernel) ⟨Nat.le_trans (Nat.le_of_ble_eq_true rfl) hRf, Nat.le_trans (Nat.le_of_ble_eq_true rfl) hRl⟩) hK hP hD hS hA hN (ci := 5) rfl rfl rfl rfl hl.1 rfl (Nat.le_of_ble_eq_true rfl) dX5_step_35 (fun H locs hP hD hS => ?_)
          have b7 := z_c1 hf
          replace hf := z_c2 hf
          refine va_iald hx hb hK hP 17 0 rfl rfl b7 dX5_step_38 ?_
          refine lv_iload_n hx hb dX5_step_39 rfl (lv_at hl 1 rfl) ?_
          refine lv_icmp_ge (tgt := 46) hx hb dX5_step_40 (by decide) (fun c8 => ?_) (fun c8 => ?_)
          · replace hf := z_ip hf c8
            refine lv_aload_n hx hb dX5_step_46 rfl (lv_at hl 0 rfl) ?_
            refine va_get (D := (dC, dI)) (ci := 5) (v := .ref (a 27)) (C := RX5) (T := TX5) (N := 44) hx hb hts (fun w hw => List.mem_cons_of_mem _ (List.mem_append_right _ hw)) hown hK hP 0 rfl rfl 27 (by decide) (hts (.fieldLink RX5 48 "OldStadiumModel" "cell" "[I") (List.mem_of_getElem? (i := 4) rfl)) (fun _ h9 => h9) rfl dX5_step_47 ?_
            refine lv_iload_n hx hb dX5_step_50 rfl (lv_at hl 2 rfl) ?_
            refine lv_dup2_11 hx hb dX5_step_51 rfl rfl ?_
            refine va_iald hx hb hK hP 11 0 rfl rfl b2 dX5_step_52 ?_
            refine lv_iconst (v := 1) hx hb dX5_step_53 (by decide) ?_
            refine lv_iadd hx hb dX5_step_54 ?_
            refine va_iast hx hb hK hP hD hS 11 0 rfl rfl b2 dX5_step_55 (fun H locs hP hD hS => ?_)
            replace hP : va_P (dC, dI) vwCl (wX5 cI cZ cJ cA h0 a x1 x3 x4 x5 x6 x7 x9 x10 x14 x15 x16 x19 x20 x21 x22 x23 x24 x41 x42 f0 f2 f8 f11 f12 f13 f17 f18 f25 f26 (upd f27 (Int32.toNatClampNeg v2) ((f27 (Int32.toNatClampNeg v2)) + 1)) f28 f29 f30 f31 f32 f33 f34 f35 f36 f37 f38 f39 f40 f43) H := hP
            replace hD : va_D A (wX5 cI cZ cJ cA h0 a x1 x3 x4 x5 x6 x7 x9 x10 x14 x15 x16 x19 x20 x21 x22 x23 x24 x41 x42 f0 f2 f8 f11 f12 f13 f17 f18 f25 f26 (upd f27 (Int32.toNatClampNeg v2) ((f27 (Int32.toNatClampNeg v2)) + 1)) f28 f29 f30 f31 f32 f33 f34 f35 f36 f37 f38 f39 f40 f43) := hD
            refine lv_aload_n hx hb dX5_step_56 rfl (lv_at hl 0 rfl) ?_
            refine va_get (D := (dC, dI)) (ci := 5) (v := .ref (a 27)) (C := RX5) (T := TX5) (N := 44) hx hb hts (fun w hw => List.mem_cons_of_mem _ (List.mem_append_right _ hw)) hown hK hP 0 rfl rfl 27 (by decide) (hts (.fieldLink RX5 48 "OldStadiumModel" "cell" "[I") (List.mem_of_getElem? (i := 4) rfl)) (fun _ h9 => h9) rfl dX5_step_57 ?_
            refine lv_iload_n hx hb dX5_step_60 rfl (lv_at hl 2 rfl) ?_
            refine va_iald hx hb hK hP 11 0 rfl rfl b2 dX5_step_61 ?_
            refine lv_aload_n hx hb dX5_step_62 rfl (lv_at hl 0 rfl) ?_
            refine va_get (D := (dC, dI)) (ci := 5) (v := .int x20) (C := RX5) (T := TX5) (N := 44) hx hb hts (fun w hw => List.mem_cons_of_mem _ (List.mem_append_right _ hw)) hown hK hP 0 rfl rfl 20 (by decide) (hts (.fieldLink RX5 162 "OldStadiumModel" "cells" "I") (List.mem_of_getElem? (i := 5) rfl)) (fun _ h9 => h9) rfl dX5_step_63 ?_
            refine lv_icmp_ge (tgt := 72) hx hb dX5_step_66 (by decide) (fun c9 => ?_) (fun c9 => ?_)
            · replace hf := z_ip hf c9
              refine lv_aload_n hx hb dX5_step_72 rfl (lv_at hl 0 rfl) ?_
              refine va_get (D := (dC, dI)) (ci := 5) (v := .ref (a 27)) (C := RX5) (T := TX5) (N := 44) hx hb hts (fun w hw => List.mem_cons_of_mem _ (List.mem_append_right _ hw)) hown hK hP 0 rfl rfl 27 (by decide) (hts (.fieldLink RX5 48 "OldStadiumModel" "cell" "[I") (List.mem_of_getElem? (i := 4) rfl)) (fun _ h9 => h9) rfl dX5_step_73 ?_
              refine lv_iload_n hx hb dX5_step_76 rfl (lv_at hl 2 rfl) ?_
              refine lv_iconst (v := 0) hx hb dX5_step_77 (by decide) ?_
              refine va_iast hx hb hK hP hD hS 11 0 rfl rfl b2 dX5_step_78 (fun H locs hP hD hS => ?_)
              replace hP : va_P (dC, dI) vwCl (wX5 cI cZ cJ cA h0 a x1 x3 x4 x5 x6 x7 x9 x10 x14 x15 x16 x19 x20 x21 x22 x23 x24 x41 x42 f0 f2 f8 f11 f12 f13 f17 f18 f25 f26 (upd (upd f27 (Int32.toNatClampNeg v2) ((f27 (Int32.toNatClampNeg v2)) + 1)) (Int32.toNatClampNeg v2) 0) f28 f29 f30 f31 f32 f33 f34 f35 f36 f37 f38 f39 f40 f43) H := hP
              replace hD : va_D A (wX5 cI cZ cJ cA h0 a x1 x3 x4 x5 x6 x7 x9 x10 x14 x15 x16 x19 x20 x21 x22 x23 x24 x41 x42 f0 f2 f8 f11 f12 f13 f17 f18 f25 f26 (upd (upd f27 (Int32.toNatClampNeg v2) ((f27 (Int32.toNatClampNeg v2)) + 1)) (Int32.toNatClampNeg v2) 0) f28 f29 f30 f31 f32 f33 f34 f35 f36 f37 f38 f39 f40 f43) := hD
              refine lv_aload_n hx hb dX5_step_79 rfl (lv_at hl 0 rfl) ?_
              refine va_get (D := (dC, dI)) (ci := 5) (v := .ref (a 28)) (C := RX5) (T := TX5) (N := 44) hx hb hts (fun w hw => List.mem_cons_of_mem _ (List.mem_append_right _ hw)) hown hK hP 0 rfl rfl 28 (by decide) (hts (.fieldLink RX5 51 "OldStadiumModel" "done" "[I") (List.mem_of_getElem? (i := 6) rfl)) (fun _ h9 => h9) rfl dX5_step_80 ?_
              refine lv_iload_n hx hb dX5_step_83 rfl (lv_at hl 2 rfl) ?_
              refine lv_dup2_11 hx hb dX5_step_84 rfl rfl ?_
              refine va_iald hx hb hK hP 12 0 rfl rfl b2 dX5_step_85 ?_
              refine lv_iconst (v := 1) hx hb dX5_step_86 (by decide) ?_
              refine lv_iadd hx hb dX5_step_87 ?_
              refine va_iast hx hb hK hP hD hS 12 0 rfl rfl b2 dX5_step_88 (fun H locs hP hD hS => ?_)
              replace hP : va_P (dC, dI) vwCl (wX5 cI cZ cJ cA h0 a x1 x3 x4 x5 x6 x7 x9 x10 x14 x15 x16 x19 x20 x21 x22 x23 x24 x41 x42 f0 f2 f8 f11 f12 f13 f17 f18 f25 f26 (upd (upd f27 (Int32.toNatClampNeg v2) ((f27 (Int32.toNatClampNeg v2)) + 1)) (Int32.toNatClampNeg v2) 0) (upd f28 (Int32.toNatClampNeg v2) ((f28 (Int32.toNatClampNeg v2)) + 1)) f29 f30 f31 f32 f33 f34 f35 f36 f37 f38 f39 f40 f43) H := hP
              replace hD : va_D A (wX5 cI cZ cJ cA h0 a x1 x3 x4 x5 x6 x7 x9 x10 x14 x15 x16 x19 x20 x21 x22 x23 x24 x41 x42 f0 f2 f8 f11 f12 f13 f17 f18 f25 f26 (upd (upd f27 (Int32.toNatClampNeg v2) ((f27 (Int32.toNatClampNeg v2)) + 1)) (Int32.toNatClampNeg v2) 0) (upd f28 (Int32.toNatClampNeg v2) ((f28 (Int32.toNatClampNeg v2)) + 1)) f29 f30 f31 f32 f33 f34 f35 f36 f37 f38 f39 f40 f43) := hD
              refine lv_iinc (v := (v2 + 1)) (lv' := [(2, .int (v2 + 1)), (0, .ref h0), (1, .int v1)]) hx hb dX5_step_89 hl (k := 2) rfl rfl (by decide) rfl (fun ls hl => ?_)
              refine lv_goto (tgt := 2) hx hb dX5_step_92 (by decide) ?_
              exact ih hf hP hD hS (lv_sub hl [1, 2, 0] rfl) hexit
            · replace hf := z_im hf c9
              refine lv_goto (tgt := 89) hx hb dX5_step_69 (by decide) ?_
              refine lv_iinc (v := (v2 + 1)) (lv' := [(2, .int (v2 + 1)), (0, .ref h0), (1, .int v1)]) hx hb dX5_step_89 hl (k := 2) rfl rfl (by decide) rfl (fun ls hl => ?_)
              refine lv_goto (tgt := 2) hx hb dX5_step_92 (by decide) ?_
              exact ih hf hP hD hS (lv_sub hl [1, 2, 0] rfl) hexit
          · replace hf := z_im hf c8
            refine lv_goto (tgt := 89) hx hb dX5_step_43 (by decide) ?_
            refine lv_iinc (v := (v2 + 1)) (lv' := [(2, .int (v2 + 1)), (0, .ref h0), (1, .int v1)]) hx hb dX5_step_89 hl (k := 2) rfl rfl (by decide) rfl (fun ls hl => ?_)
            refine lv_goto (tgt := 2) hx hb dX5_step_92 (by decide) ?_
            exact ih hf hP hD hS (lv_sub hl [1, 2, 0] rfl) hexit
def q_X5_step_L107 (N : Nat) (v2 : Int32) (x21 : Int32) (x22 : Int32) (x23 : Int32) (f26 : (Nat → Int32)) (f28 : (Nat → Int32)) : Nat → Int32 → Int32 → (Nat → Int32) → (Nat → Int32) → (Nat → Int32) → Option (Int32 × (Nat → Int32) × (Nat → Int32) × (Nat → Int32))
  | 0, _, _, _, _, _ => none
  | n + 1, v3, x24, f25, f29, f30 =>
    (if x23 ≤ v3 then
     (some (x24, f25, f29, f30))
    else
     (if z_in v3 8 then
     (if (f25 (Int32.toNatClampNeg v3)) = 1 then
      (if (f26 (Int32.toNatClampNeg v3)) = v2 then
       (if x21 ≤ (f28 (Int32.toNatClampNeg v3)) then
        (q_X5_step_L107 N v2 x21 x22 x23 f26 f28 n (v3 + 1) (x24 + 1) (upd f25 (Int32.toNatClampNeg v3) 2) (upd f29 (Int32.toNatClampNeg v3) x22) (upd f30 (Int32.toNatClampNeg v3) (x24 + 1)))
       else
        (q_X5_step_L107 N v2 x21 x22 x23 f26 f28 n (v3 + 1) x24 f25 f29 f30))
      else
       (q_X5_step_L107 N v2 x21 x22 x23 f26 f28 n (v3 + 1) x24 f25 f29 f30))
     else
      (q_X5_step_L107 N v2 x21 x22 x23 f26 f28 n (v3 + 1) x24 f25 f29 f30))
     else none))
set_option maxHeartbeats 4000000 in
set_option maxRecDepth 100000 in
theorem b_X5_step_L107 {p : Program} {l : Launch} {e : Env} {R : Room} {s : State} {m : MethodId} {args : Array Value} {below : List Frame} {meth : Method} {c : Code} {Q : State → Prop} {A : Nat → Prop} {dC : Nat → ClassId} {dI : Nat → Nat → Nat} {cI cZ cJ cA : ClassId} {h0 : Nat} {a : Nat → Nat} (N : Nat) (C0 : z_Cx p s m args c cX5_step 4 wsX5_step RX5 R 1 23 A dC dI (z_ty cI cZ cJ cA)) : ∀ (n : Nat) {v2 : Int32} {v3 : Int32} {x1 : Int32} {x3 : Int32} {x4 : Int32} {x5 : Int32} {x6 : Int32} {x7 : Int32} {x9 : Int32} {x10 : Int32} {x14 : Int32} {x15 : Int32} {x16 : Int32} {x19 : Int32} {x20 : Int32} {x21 : Int32} {x22 : Int32} {x23 : Int32} {x24 : Int32} {x41 : Int32} {x42 : Int32} {f0 : (Nat → Int32)} {f2 : (Nat → Int32)} {f8 : (Nat → Int32)} {f11 : (Nat → Int32)} {f12 : (Nat → Int32)} {f13 : (Nat → Int32)} {f17 : (Nat → Int32)} {f18 : (Nat → Int32)} {f25 : (Nat → Int32)} {f26 : (Nat → Int32)} {f27 : (Nat → Int32)} {f28 : (Nat → Int32)} {f29 : (Nat → Int32)} {f30 : (Nat → Int32)} {f31 : (Nat → Int32)} {f32 : (Nat → Int32)} {f33 : (Nat → Int32)} {f34 : (Nat → Int32)} {f35 : (Nat → Int32)} {f36 : (Nat → Int32)} {f37 : (Nat → Int32)} {f38 : (Nat → Int32)} {f39 : (Nat → Int32)} {f40 : (Nat → Int32)} {f43 : (Nat → Int32)} {o : (Int32 × (Nat → Int32) × (Nat → Int32) × (Nat → Int32))} {H : Heap} {locs : List Loc} {ls : Array Slot}, q_X5_step_L107 N v2 x21 x22 x23 f26 f28 n v3 x24 f25 f29 f30 = some o → va_P (dC, dI) vwCl (wX5 cI cZ cJ cA h0 a x1 x3 x4 x5 x6 x7 x9 x10 x14 x15 x16 x19 x20 x21 x22 x23 x24 x41 x42 f0 f2 f8 f11 f12 f13 f17 f18 f25 f26 f27 f28 f29 f30 f31 f32 f33 f34 f35 f36 f37 f38 f39 f40 f43) H → va_D A (wX5 cI cZ cJ cA h0 a x1 x3 x4 x5 x6 x7 x9 x10 x14 x15 x16 x19 x20 x21 x22 x23 x24 x41 x42 f0 f2 f8 f11 f12 f13 f17 f18 f25 f26 f27 f28 f29 f30 f31 f32 f33 f34 f35 f36 f37 f38 f39 f40 f43) → va_S A s.heap H locs → lv_has ls 4 [(0, .ref h0), (2, .int v2), (3, .int v3)] →
    (∀ (H : Heap) (locs : List Loc) (ls : Array Slot), va_P (dC, dI) vwCl (wX5 cI cZ cJ cA h0 a x1 x3 x4 x5 x6 x7 x9 x10 x14 x15 x16 x19 x20 x21 x22 x23 o.1 x41 x42 f0 f2 f8 f11 f12 f13 f17 f18 o.2.1 f26 f27 f28 o.2.2.1 o.2.2.2 f31 f32 f33 f34 f35 f36 f37 f38 f39 f40 f43) H → va_D A (wX5 cI cZ cJ cA h0 a x1 x3 x4 x5 x6 x7 x9 x10 x14 x15 x16 x19 x20 x21 x22 x23 o.1 x41 x42 f0 f2 f8 f11 f12 f13 f17 f18 o.2.1 f26 f27 f28 o.2.2.1 o.2.2.2 f31 f32 f33 f34 f35 f36 f37 f38 f39 f40 f43) → va_S A s.heap H locs → lv_has ls 4 [(0, .ref h0), (2, .int v2)] → W p l e R s m args below meth c H locs 0 0 Q (F0 m 194 ls [])) →
    W p l e R s m args below meth c H locs 0 0 Q (F0 m 107 ls []) := by
  obtain ⟨⟨hx, hb, hml, hown, hts⟩, hRf, hRl, hA, hN, hK⟩ := C0
  intro n
  induction n with
  | zero =>
    intro v2 v3 x1 x3 x4 x5 x6 x7 x9 x10 x14 x15 x16 x19 x20 x21 x22 x23 x24 x41 x42 f0 f2 f8 f11 f12 f13 f17 f18 f25 f26 f27 f28 f29 f30 f31 f32 f33 f34 f35 f36 f37 f38 f39 f40 f43 o H locs ls hf
    cases hf
  | succ n ih =>
    intro v2 v3 x1 x3 x4 x5 x6 x7 x9 x10 x14 x15 x16 x19 x20 x21 x22 x23 x24 x41 x42 f0 f2 f8 f11 f12 f13 f17 f18 f25 f26 f27 f28 f29 f30 f31 f32 f33 f34 f35 f36 f37 f38 f39 f40 f43 o H locs ls hf hP hD hS hl hexit
    rw [q_X5_step_L107] at hf
    refine lv_iload_n hx hb dX5_step_107 rfl (lv_at hl 2 rfl) ?_
    refine lv_aload_n hx hb dX5_step_108 rfl (lv_at hl 0 rfl) ?_
    refine va_get (D := (dC, dI)) (ci := 5) (v := .int x23) (C := RX5) (T := TX5) (N := 44) hx hb hts (fun w hw => List.mem_cons_of_mem _ (List.mem_append_right _ hw)) hown hK hP 0 rfl rfl 23 (by decide) (hts (.fieldLink RX5 171 "OldStadiumModel" "chariots" "I") (List.mem_of_getElem? (i := 1) rfl)) (fun _ h9 => h9) rfl dX5_step_109 ?_
    refine lv_icmp_ge (tgt := 194) hx hb dX5_step_112 (by decide) (fun c1 => ?_) (fun c1 => ?_)
    · replace hf := z_ip hf c1
      obtain rfl := Option.some.inj hf
      exact hexit _ _ _ hP hD hS (lv_sub hl [0, 1] rfl)
    · replace hf := z_im hf c1
      refine lv_aload_n hx hb dX5_step_115 rfl (lv_at hl 0 rfl) ?_
      refine va_get (D := (dC, dI)) (ci := 5) (v := .ref (a 25)) (C := RX5) (T := TX5) (N := 44) hx hb hts (fun w hw => List.mem_cons_of_mem _ (List.mem_append_right _ hw)) hown hK hP 0 rfl rfl 25 (by decide) (hts (.fieldLink RX5 42 "OldStadiumModel" "state" "[I") (List.mem_of_getElem? (i := 2) rfl)) (fun _ h9 => h9) rfl dX5_step_116 ?_
      refine lv_iload_n hx hb dX5_step_119 rfl (lv_at hl 2 rfl) ?_
      have b2 := z_c1 hf
      replace hf := z_c2 hf
      refine va_iald hx hb hK hP 9 0 rfl rfl b2 dX5_step_120 ?_
      refine lv_iconst (v := 1) hx hb dX5_step_121 (by decide) ?_
      refine lv_icmp_ne (tgt := 188) hx hb dX5_step_122 (by decide) (fun c3 => ?_) (fun c3 => ?_)
      · replace hf := z_im hf c3
        refine lv_iinc (v := (v3 + 1)) (lv' := [(3, .int (v3 + 1)), (0, .ref h0), (2, .int v2)]) hx hb dX5_step_188 hl (k := 2) rfl rfl (by decide) rfl (fun ls hl => ?_)
        refine lv_goto (tgt := 107) hx hb dX5_step_191 (by decide) ?_
        exact ih hf hP hD hS (lv_sub hl [1, 2, 0] rfl) hexit
      · replace hf := z_ip hf c3
        refine lv_aload_n hx hb dX5_step_125 rfl (lv_at hl 0 rfl) ?_
        refine va_get (D := (dC, dI)) (ci := 5) (v := .ref (a 26)) (C := RX5) (T := TX5) (N := 44) hx hb hts (fun w hw => List.mem_cons_of_mem _ (List.mem_append_right _ hw)) hown hK hP 0 rfl rfl 26 (by decide) (hts (.fieldLink RX5 45 "OldStadiumModel" "lane" "[I") (List.mem_of_getElem? (i := 8) rfl)) (fun _ h9 => h9) rfl dX5_step_126 ?_
        refine lv_iload_n hx hb dX5_step_129 rfl (lv_at hl 2 rfl) ?_
        refine va_iald hx hb hK hP 10 0 rfl rfl b2 dX5_step_130 ?_
        refine lv_iload_n hx hb dX5_step_131 rfl (lv_at hl 1 rfl) ?_
        refine lv_icmp_ne (tgt := 188) hx hb dX5_step_132 (by decide) (fun c4 => ?_) (fun c4 => ?_)
        · replace hf := z_im hf c4
          refine lv_iinc (v := (v3 + 1)) (lv' := [(3, .int (v3 + 1)), (0, .ref h0), (2, .int v2)]) hx hb dX5_step_188 hl (k := 2) rfl rfl (by decide) rfl (fun ls hl => ?_)
          refine lv_goto (tgt := 107) hx hb dX5_step_191 (by decide) ?_
          exact ih hf hP hD hS (lv_sub hl [1, 2, 0] rfl) hexit
        · replace hf := z_ip hf c4
          refine lv_aload_n hx hb dX5_step_135 rfl (lv_at hl 0 rfl) ?_
          refine va_get (D := (dC, dI)) (ci := 5) (v := .ref (a 28)) (C := RX5) (T := TX5) (N := 44) hx hb hts (fun w hw => List.mem_cons_of_mem _ (List.mem_append_right _ hw)) hown hK hP 0 rfl rfl 28 (by decide) (hts (.fieldLink RX5 51 "OldStadiumModel" "done" "[I") (List.mem_of_getElem? (i := 6) rfl)) (fun _ h9 => h9) rfl dX5_step_136 ?_
          refine lv_iload_n hx hb dX5_step_139 rfl (lv_at hl 2 rfl) ?_
          refine va_iald hx hb hK hP 12 0 rfl rfl b2 dX5_step_140 ?_
          refine lv_aload_n hx hb dX5_step_141 rfl (lv_at hl 0 rfl) ?_
          refine va_get (D := (dC, dI)) (ci := 5) (v := .int x21) (C := RX5) (T := TX5) (N := 44) hx hb hts (fun w hw => List.mem_cons_of_mem _ (List.mem_append_right _ hw)) hown hK hP 0 rfl rfl 21 (by decide) (hts (.fieldLink RX5 165 "OldStadiumModel" "laps" "I") (List.mem_of_getElem? (i := 9) rfl)) (fun _ h9 => h9) rfl dX5_step_142 ?_
          refine lv_icmp_ge (tgt := 151) hx hb dX5_step_145 (by decide) (fun c5 => ?_) (fun c5 => ?_)
          · replace hf := z_ip hf c5
            refine lv_aload_n hx hb dX5_step_151 rfl (lv_at hl 0 rfl) ?_
            refine va_get (D := (dC, dI)) (ci := 5) (v := .ref (a 25)) (C := RX5) (T := TX5) (N := 44) hx hb hts (fun w hw => List.mem_cons_of_mem _ (List.mem_append_right _ hw)) hown hK hP 0 rfl rfl 25 (by decide) (hts (.fieldLink RX5 42 "OldStadiumModel" "state" "[I") (List.mem_of_getElem? (i := 2) rfl)) (fun _ h9 => h9) rfl dX5_step_152 ?_
            refine lv_iload_n hx hb dX5_step_155 rfl (lv_at hl 2 rfl) ?_
            refine lv_iconst (v := 2) hx hb dX5_step_156 (by decide) ?_
            refine va_iast hx hb hK hP hD hS 9 0 rfl rfl b2 dX5_step_157 (fun H locs hP hD hS => ?_)
            replace hP : va_P (dC, dI) vwCl (wX5 cI cZ cJ cA h0 a x1 x3 x4 x5 x6 x7 x9 x10 x14 x15 x16 x19 x20 x21 x22 x23 x24 x41 x42 f0 f2 f8 f11 f12 f13 f17 f18 (upd f25 (Int32.toNatClampNeg v3) 2) f26 f27 f28 f29 f30 f31 f32 f33 f34 f35 f36 f37 f38 f39 f40 f43) H := hP
            replace hD : va_D A (wX5 cI cZ cJ cA h0 a x1 x3 x4 x5 x6 x7 x9 x10 x14 x15 x16 x19 x20 x21 x22 x23 x24 x41 x42 f0 f2 f8 f11 f12 f13 f17 f18 (upd f25 (Int32.toNatClampNeg v3) 2) f26 f27 f28 f29 f30 f31 f32 f33 f34 f35 f36 f37 f38 f39 f40 f43) := hD
            refine lv_aload_n hx hb dX5_step_158 rfl (lv_at hl 0 rfl) ?_
            refine va_get (D := (dC, dI)) (ci := 5) (v := .ref (a 29)) (C := RX5) (T := TX5) (N := 44) hx hb hts (fun w hw => List.mem_cons_of_mem _ (List.mem_append_right _ hw)) hown hK hP 0 rfl rfl 29 (by decide) (hts (.fieldLink RX5 54 "OldStadiumModel" "when" "[I") (List.mem_of_getElem? (i := 10) rfl)) (fun _ h9 => h9) rfl dX5_step_159 ?_
            refine lv_iload_n hx hb dX5_step_162 rfl (lv_at hl 2 rfl) ?_
            refine lv_aload_n hx hb dX5_step_163 rfl (lv_at hl 0 rfl) ?_
            refine va_get (D := (dC, dI)) (ci := 5) (v := .int x22) (C := RX5) (T := TX5) (N := 44) hx hb hts (fun w hw => List.mem_cons_of_mem _ (List.mem_append_right _ hw)) hown hK hP 0 rfl rfl 22 (by decide) (hts (.fieldLink RX5 168 "OldStadiumModel" "tick" "I") (List.mem_of_getElem? (i := 11) rfl)) (fun _ h9 => h9) rfl dX5_step_164 ?_
            refine va_iast hx hb hK hP hD hS 13 0 rfl rfl b2 dX5_step_167 (fun H locs hP hD hS => ?_)
            replace hP : va_P (dC, dI) vwCl (wX5 cI cZ cJ cA h0 a x1 x3 x4 x5 x6 x7 x9 x10 x14 x15 x16 x19 x20 x21 x22 x23 x24 x41 x42 f0 f2 f8 f11 f12 f13 f17 f18 (upd f25 (Int32.toNatClampNeg v3) 2) f26 f27 f28 (upd f29 (Int32.toNatClampNeg v3) x22) f30 f31 f32 f33 f34 f35 f36 f37 f38 f39 f40 f43) H := hP
            replace hD : va_D A (wX5 cI cZ cJ cA h0 a x1 x3 x4 x5 x6 x7 x9 x10 x14 x15 x16 x19 x20 x21 x22 x23 x24 x41 x42 f0 f2 f8 f11 f12 f13 f17 f18 (upd f25 (Int32.toNatClampNeg v3) 2) f26 f27 f28 (upd f29 (Int32.toNatClampNeg v3) x22) f30 f31 f32 f33 f34 f35 f36 f37 f38 f39 f40 f43) := hD
            refine lv_aload_n hx hb dX5_step_168 rfl (lv_at hl 0 rfl) ?_
            refine lv_dup hx hb dX5_step_169 rfl ?_
            refine va_get (D := (dC, dI)) (ci := 5) (v := .int x24) (C := RX5) (T := TX5) (N := 44) hx hb hts (fun w hw => List.mem_cons_of_mem _ (List.mem_append_right _ hw)) hown hK hP 0 rfl rfl 24 (by decide) (hts (.fieldLink RX5 174 "OldStadiumModel" "home" "I") (List.mem_of_getElem? (i := 12) rfl)) (fun _ h9 => h9) rfl dX5_step_170 ?_
            refine lv_iconst (v := 1) hx hb dX5_step_173 (by decide) ?_
            refine lv_iadd hx hb dX5_step_174 ?_
            refine va_put (D := (dC, dI)) (ci := 5) (v := .int (x24 + 1)) (ty := .int) (C := RX5) (T := TX5) (N := 44) hx hb hts (fun w hw => List.mem_cons_of_mem _ (List.mem_append_right _ hw)) tyX5 tyX5_ok nmX5 hown hK hP hD hS 0 rfl rfl 24 (by decide) (hts (.fieldLink RX5 174 "OldStadiumModel" "home" "I") (List.mem_of_getElem? (i := 12) rfl)) (fun _ h9 => h9) rfl (by decide +kernel) rfl rfl (Nat.le_of_ble_eq_true rfl) dX5_step_175 (fun H locs hP hD hS => ?_)
            replace hP : va_P (dC, dI) vwCl (wX5 cI cZ cJ cA h0 a x1 x3 x4 x5 x6 x7 x9 x10 x14 x15 x16 x19 x20 x21 x22 x23 (x24 + 1) x41 x42 f0 f2 f8 f11 f12 f13 f17 f18 (upd f25 (Int32.toNatClampNeg v3) 2) f26 f27 f28 (upd f29 (Int32.toNatClampNeg v3) x22) f30 f31 f32 f33 f34 f35 f36 f37 f38 f39 f40 f43) H := hP
            replace hD : va_D A (wX5 cI cZ cJ cA h0 a x1 x3 x4 x5 x6 x7 x9 x10 x14 x15 x16 x19 x20 x21 x22 x23 (x24 + 1) x41 x42 f0 f2 f8 f11 f12 f13 f17 f18 (upd f25 (Int32.toNatClampNeg v3) 2) f26 f27 f28 (upd f29 (Int32.toNatClampNeg v3) x22) f30 f31 f32 f33 f34 f35 f36 f37 f38 f39 f40 f43) := hD
            refine lv_aload_n hx hb dX5_step_178 rfl (lv_at hl 0 rfl) ?_
            refine va_get (D := (dC, dI)) (ci := 5) (v := .ref (a 30)) (C := RX5) (T := TX5) (N := 44) hx hb hts (fun w hw => List.mem_cons_of_mem _ (List.mem_append_right _ hw)) hown hK hP 0 rfl rfl 30 (by decide) (hts (.fieldLink RX5 57 "OldStadiumModel" "place" "[I") (List.mem_of_getElem? (i := 13) rfl)) (fun _ h9 => h9) rfl dX5_step_179 ?_
            refine lv_iload_n hx hb dX5_step_182 rfl (lv_at hl 2 rfl) ?_
            refine lv_aload_n hx hb dX5_step_183 rfl (lv_at hl 0 rfl) ?_
            refine va_get (D := (dC, dI)) (ci := 5) (v := .int (x24 + 1)) (C := RX5) (T := TX5) (N := 44) hx hb hts (fun w hw => List.mem_cons_of_mem _ (List.mem_append_right _ hw)) hown hK hP 0 rfl rfl 24 (by decide) (hts (.fieldLink RX5 174 "OldStadiumModel" "home" "I") (List.mem_of_getElem? (i := 12) rfl)) (fun _ h9 => h9) rfl dX5_step_184 ?_
            refine va_iast hx hb hK hP hD hS 14 0 rfl rfl b2 dX5_step_187 (fun H locs hP hD hS => ?_)
            replace hP : va_P (dC, dI) vwCl (wX5 cI cZ cJ cA h0 a x1 x3 x4 x5 x6 x7 x9 x10 x14 x15 x16 x19 x20 x21 x22 x23 (x24 + 1) x41 x42 f0 f2 f8 f11 f12 f13 f17 f18 (upd f25 (Int32.toNatClampNeg v3) 2) f26 f27 f28 (upd f29 (Int32.toNatClampNeg v3) x22) (upd f30 (Int32.toNatClampNeg v3) (x24 + 1)) f31 f32 f33 f34 f35 f36 f37 f38 f39 f40 f43) H := hP
            replace hD : va_D A (wX5 cI cZ cJ cA h0 a x1 x3 x4 x5 x6 x7 x9 x10 x14 x15 x16 x19 x20 x21 x22 x23 (x24 + 1) x41 x42 f0 f2 f8 f11 f12 f13 f17 f18 (upd f25 (Int32.toNatClampNeg v3) 2) f26 f27 f28 (upd f29 (Int32.toNatClampNeg v3) x22) (upd f30 (Int32.toNatClampNeg v3) (x24 + 1)) f31 f32 f33 f34 f35 f36 f37 f38 f39 f40 f43) := hD
            refine lv_iinc (v := (v3 + 1)) (lv' := [(3, .int (v3 + 1)), (0, .ref h0), (2, .int v2)]) hx hb dX5_step_188 hl (k := 2) rfl rfl (by decide) rfl (fun ls hl => ?_)
            refine lv_goto (tgt := 107) hx hb dX5_step_191 (by decide) ?_
            exact ih hf hP hD hS (lv_sub hl [1, 2, 0] rfl) hexit
          · replace hf := z_im hf c5
            refine lv_goto (tgt := 188) hx hb dX5_step_148 (by decide) ?_
            refine lv_iinc (v := (v3 + 1)) (lv' := [(3, .int (v3 + 1)), (0, .ref h0), (2, .int v2)]) hx hb dX5_step_188 hl (k := 2) rfl rfl (by decide) rfl (fun ls hl => ?_)
            refine lv_goto (tgt := 107) hx hb dX5_step_191 (by decide) ?_
            exact ih hf hP hD hS (lv_sub hl [1, 2, 0] rfl) hexit
def q_X5_step_L97 (N : Nat) (x19 : Int32) (x21 : Int32) (x22 : Int32) (x23 : Int32) (f26 : (Nat → Int32)) (f28 : (Nat → Int32)) : Nat → Int32 → Int32 → (Nat → Int32) → (Nat → Int32) → (Nat → Int32) → Option (Int32 × (Nat → Int32) × (Nat → Int32) × (Nat → Int32))
  | 0, _, _, _, _, _ => none
  | n + 1, v2, x24, f25, f29, f30 =>
    (if x19 ≤ v2 then
     (some (x24, f25, f29, f30))
    else
     (Option.bind (q_X5_step_L107 N v2 x21 x22 x23 f26 f28 N 0 x24 f25 f29 f30) (fun t2 =>
     (q_X5_step_L97 N x19 x21 x22 x23 f26 f28 n (v2 + 1) t2.1 t2.2.1 t2.2.2.1 t2.2.2.2))))
set_option maxHeartbeats 4000000 in
set_option maxRecDepth 100000 in
theorem b_X5_step_L97 {p : Program} {l : Launch} {e : Env} {R : Room} {s : State} {m : MethodId} {args : Array Value} {below : List Frame} {meth : Method} {c : Code} {Q : State → Prop} {A : Nat → Prop} {dC : Nat → ClassId} {dI : Nat → Nat → Nat} {cI cZ cJ cA : ClassId} {h0 : Nat} {a : Nat → Nat} (N : Nat) (C0 : z_Cx p s m args c cX5_step 4 wsX5_step RX5 R 1 23 A dC dI (z_ty cI cZ cJ cA)) : ∀ (n : Nat) {v2 : Int32} {x1 : Int32} {x3 : Int32} {x4 : Int32} {x5 : Int32} {x6 : Int32} {x7 : Int32} {x9 : Int32} {x10 : Int32} {x14 : Int32} {x15 : Int32} {x16 : Int32} {x19 : Int32} {x20 : Int32} {x21 : Int32} {x22 : Int32} {x23 : Int32} {x24 : Int32} {x41 : Int32} {x42 : Int32} {f0 : (Nat → Int32)} {f2 : (Nat → Int32)} {f8 : (Nat → Int32)} {f11 : (Nat → Int32)} {f12 : (Nat → Int32)} {f13 : (Nat → Int32)} {f17 : (Nat → Int32)} {f18 : (Nat → Int32)} {f25 : (Nat → Int32)} {f26 : (Nat → Int32)} {f27 : (Nat → Int32)} {f28 : (Nat → Int32)} {f29 : (Nat → Int32)} {f30 : (Nat → Int32)} {f31 : (Nat → Int32)} {f32 : (Nat → Int32)} {f33 : (Nat → Int32)} {f34 : (Nat → Int32)} {f35 : (Nat → Int32)} {f36 : (Nat → Int32)} {f37 : (Nat → Int32)} {f38 : (Nat → Int32)} {f39 : (Nat → Int32)} {f40 : (Nat → Int32)} {f43 : (Nat → Int32)} {o : (Int32 × (Nat → Int32) × (Nat → Int32) × (Nat → Int32))} {H : Heap} {locs : List Loc} {ls : Array Slot}, q_X5_step_L97 N x19 x21 x22 x23 f26 f28 n v2 x24 f25 f29 f30 = some o → va_P (dC, dI) vwCl (wX5 cI cZ cJ cA h0 a x1 x3 x4 x5 x6 x7 x9 x10 x14 x15 x16 x19 x20 x21 x22 x23 x24 x41 x42 f0 f2 f8 f11 f12 f13 f17 f18 f25 f26 f27 f28 f29 f30 f31 f32 f33 f34 f35 f36 f37 f38 f39 f40 f43) H → va_D A (wX5 cI cZ cJ cA h0 a x1 x3 x4 x5 x6 x7 x9 x10 x14 x15 x16 x19 x20 x21 x22 x23 x24 x41 x42 f0 f2 f8 f11 f12 f13 f17 f18 f25 f26 f27 f28 f29 f30 f31 f32 f33 f34 f35 f36 f37 f38 f39 f40 f43) → va_S A s.heap H locs → lv_has ls 4 [(0, .ref h0), (2, .int v2)] →
    (∀ (H : Heap) (locs : List Loc) (ls : Array Slot), va_P (dC, dI) vwCl (wX5 cI cZ cJ cA h0 a x1 x3 x4 x5 x6 x7 x9 x10 x14 x15 x16 x19 x20 x21 x22 x23 o.1 x41 x42 f0 f2 f8 f11 f12 f13 f17 f18 o.2.1 f26 f27 f28 o.2.2.1 o.2.2.2 f31 f32 f33 f34 f35 f36 f37 f38 f39 f40 f43) H → va_D A (wX5 cI cZ cJ cA h0 a x1 x3 x4 x5 x6 x7 x9 x10 x14 x15 x16 x19 x20 x21 x22 x23 o.1 x41 x42 f0 f2 f8 f11 f12 f13 f17 f18 o.2.1 f26 f27 f28 o.2.2.1 o.2.2.2 f31 f32 f33 f34 f35 f36 f37 f38 f39 f40 f43) → va_S A s.heap H locs → lv_has ls 4 [(0, .ref h0)] → W p l e R s m args below meth c H locs 0 0 Q (F0 m 200 ls [])) →
    W p l e R s m args below meth c H locs 0 0 Q (F0 m 97 ls []) := by
  obtain ⟨⟨hx, hb, hml, hown, hts⟩, hRf, hRl, hA, hN, hK⟩ := C0
  intro n
  induction n with
  | zero =>
    intro v2 x1 x3 x4 x5 x6 x7 x9 x10 x14 x15 x16 x19 x20 x21 x22 x23 x24 x41 x42 f0 f2 f8 f11 f12 f13 f17 f18 f25 f26 f27 f28 f29 f30 f31 f32 f33 f34 f35 f36 f37 f38 f39 f40 f43 o H locs ls hf
    cases hf
  | succ n ih =>
    intro v2 x1 x3 x4 x5 x6 x7 x9 x10 x14 x15 x16 x19 x20 x21 x22 x23 x24 x41 x42 f0 f2 f8 f11 f12 f13 f17 f18 f25 f26 f27 f28 f29 f30 f31 f32 f33 f34 f35 f36 f37 f38 f39 f40 f43 o H locs ls hf hP hD hS hl hexit
    rw [q_X5_step_L97] at hf
    refine lv_iload_n hx hb dX5_step_97 rfl (lv_at hl 1 rfl) ?_
    refine lv_aload_n hx hb dX5_step_98 rfl (lv_at hl 0 rfl) ?_
    refine va_get (D := (dC, dI)) (ci := 5) (v := .int x19) (C := RX5) (T := TX5) (N := 44) hx hb hts (fun w hw => List.mem_cons_of_mem _ (List.mem_append_right _ hw)) hown hK hP 0 rfl rfl 19 (by decide) (hts (.fieldLink RX5 159 "OldStadiumModel" "lanes" "I") (List.mem_of_getElem? (i := 7) rfl)) (fun _ h9 => h9) rfl dX5_step_99 ?_
    refine lv_icmp_ge (tgt := 200) hx hb dX5_step_102 (by decide) (fun c1 => ?_) (fun c1 => ?_)
    · replace hf := z_ip hf c1
      obtain rfl := Option.some.inj hf
      exact hexit _ _ _ hP hD hS (lv_sub hl [0] rfl)
    · replace hf := z_im hf c1
      refine lv_iconst (v := 0) hx hb dX5_step_105 (by decide) ?_
      refine lv_istore_n (lv' := [(3, .int 0), (0, .ref h0), (2, .int v2)]) hx hb dX5_step_106 rfl hl (by decide) rfl (fun ls hl => ?_)
      obtain ⟨t2, ht2, hf1⟩ := z_ib hf
      replace hf := hf1
      clear hf1
      refine b_X5_step_L107 N ⟨⟨hx, hb, hml, hown, hts⟩, hRf, hRl, hA, hN, hK⟩ N ht2 hP hD hS (lv_sub hl [1, 2, 0] rfl) (fun H locs ls hP hD hS hl => ?_)
      refine lv_iinc (v := (v2 + 1)) (lv' := [(2, .int (v2 + 1)), (0, .ref h0)]) hx hb dX5_step_194 hl (k := 1) rfl rfl (by decide) rfl (fun ls hl => ?_)
      refine lv_goto (tgt := 97) hx hb dX5_step_197 (by decide) ?_
      exact ih hf hP hD hS (lv_sub hl [1, 0] rfl) hexit
def q_X5_step (N : Nat) (v1 : Int32) (x19 : Int32) (x20 : Int32) (x21 : Int32) (x22 : Int32) (x23 : Int32) (x24 : Int32) (f25 : (Nat → Int32)) (f26 : (Nat → Int32)) (f27 : (Nat → Int32)) (f28 : (Nat → Int32)) (f29 : (Nat → Int32)) (f30 : (Nat → Int32)) (f31 : (Nat → Int32)) (f32 : (Nat → Int32)) (f33 : (Nat → Int32)) : Option (Int32 × (Nat → Int32) × (Nat → Int32) × (Nat → Int32) × (Nat → Int32) × (Nat → Int32)) :=
  (Option.bind (q_X5_step_L2 N v1 x20 x22 x23 f25 f31 f32 f33 N 0 f27 f28) (fun t1 =>
  (Option.bind (q_X5_step_L97 N x19 x21 x22 x23 f26 t1.2 N 0 x24 f25 f29 f30) (fun t2 =>
  (Option.bind (q_X5_crash N x22 x23 t2.2.1 f26 t1.1 t2.2.2.1) (fun o3 =>
  (some (t2.1, o3.1, t1.1, t1.2, o3.2, t2.2.2.2))))))))
set_option maxHeartbeats 4000000 in
set_option maxRecDepth 100000 in
theorem b_X5_step {p : Program} {l : Launch} {e : Env} {R : Room} {s : State} {m : MethodId} {args : Array Value} {below : List Frame} {meth : Method} {c : Code} {Q : State → Prop} {A : Nat → Prop} {dC : Nat → ClassId} {dI : Nat → Nat → Nat} {cI cZ cJ cA : ClassId} {h0 : Nat} {a : Nat → Nat} (N : Nat) (C0 : z_Cx p s m args c cX5_step 4 wsX5_step RX5 R 1 23 A dC dI (z_ty cI cZ cJ cA)) {v1 : Int32} {x1 : Int32} {x3 : Int32} {x4 : Int32} {x5 : Int32} {x6 : Int32} {x7 : Int32} {x9 : Int32} {x10 : Int32} {x14 : Int32} {x15 : Int32} {x16 : Int32} {x19 : Int32} {x20 : Int32} {x21 : Int32} {x22 : Int32} {x23 : Int32} {x24 : Int32} {x41 : Int32} {x42 : Int32} {f0 : (Nat → Int32)} {f2 : (Nat → Int32)} {f8 : (Nat → Int32)} {f11 : (Nat → Int32)} {f12 : (Nat → Int32)} {f13 : (Nat → Int32)} {f17 : (Nat → Int32)} {f18 : (Nat → Int32)} {f25 : (Nat → Int32)} {f26 : (Nat → Int32)} {f27 : (Nat → Int32)} {f28 : (Nat → Int32)} {f29 : (Nat → Int32)} {f30 : (Nat → Int32)} {f31 : (Nat → Int32)} {f32 : (Nat → Int32)} {f33 : (Nat → Int32)} {f34 : (Nat → Int32)} {f35 : (Nat → Int32)} {f36 : (Nat → Int32)} {f37 : (Nat → Int32)} {f38 : (Nat → Int32)} {f39 : (Nat → Int32)} {f40 : (Nat → Int32)} {f43 : (Nat → Int32)} {o : (Int32 × (Nat → Int32) × (Nat → Int32) × (Nat → Int32) × (Nat → Int32) × (Nat → Int32))} {H : Heap} {locs : List Loc} {ls : Array Slot} (hf : q_X5_step N v1 x19 x20 x21 x22 x23 x24 f25 f26 f27 f28 f29 f30 f31 f32 f33 = some o) (hP : va_P (dC, dI) vwCl (wX5 cI cZ cJ cA h0 a x1 x3 x4 x5 x6 x7 x9 x10 x14 x15 x16 x19 x20 x21 x22 x23 x24 x41 x42 f0 f2 f8 f11 f12 f13 f17 f18 f25 f26 f27 f28 f29 f30 f31 f32 f33 f34 f35 f36 f37 f38 f39 f40 f43) H) (hD : va_D A (wX5 cI cZ cJ cA h0 a x1 x3 x4 x5 x6 x7 x9 x10 x14 x15 x16 x19 x20 x21 x22 x23 x24 x41 x42 f0 f2 f8 f11 f12 f13 f17 f18 f25 f26 f27 f28 f29 f30 f31 f32 f33 f34 f35 f36 f37 f38 f39 f40 f43)) (hS : va_S A s.heap H locs) (hl : lv_has ls 4 [(0, .ref h0), (1, .int v1)])
    (hret : ∀ (pc : Nat) (H : Heap) (locs : List Loc) (ls : Array Slot), decode cX5_step pc = .ok (.return_, 1) → va_P (dC, dI) vwCl (wX5 cI cZ cJ cA h0 a x1 x3 x4 x5 x6 x7 x9 x10 x14 x15 x16 x19 x20 x21 x22 x23 o.1 x41 x42 f0 f2 f8 f11 f12 f13 f17 f18 o.2.1 f26 o.2.2.1 o.2.2.2.1 o.2.2.2.2.1 o.2.2.2.2.2 f31 f32 f33 f34 f35 f36 f37 f38 f39 f40 f43) H → va_D A (wX5 cI cZ cJ cA h0 a x1 x3 x4 x5 x6 x7 x9 x10 x14 x15 x16 x19 x20 x21 x22 x23 o.1 x41 x42 f0 f2 f8 f11 f12 f13 f17 f18 o.2.1 f26 o.2.2.1 o.2.2.2.1 o.2.2.2.2.1 o.2.2.2.2.2 f31 f32 f33 f34 f35 f36 f37 f38 f39 f40 f43) → va_S A s.heap H locs → W p l e R s m args below meth c H locs 0 0 Q (F0 m pc ls [])) :
    W p l e R s m args below meth c H locs 0 0 Q (F0 m 0 ls []) := by
  obtain ⟨⟨hx, hb, hml, hown, hts⟩, hRf, hRl, hA, hN, hK⟩ := C0
  unfold q_X5_step at hf
  refine lv_iconst (v := 0) hx hb dX5_step_0 (by decide) ?_
  refine lv_istore_n (lv' := [(2, .int 0), (0, .ref h0), (1, .int v1)]) hx hb dX5_step_1 rfl hl (by decide) rfl (fun ls hl => ?_)
  obtain ⟨t1, ht1, hf1⟩ := z_ib hf
  replace hf := hf1
  clear hf1
  refine b_X5_step_L2 N ⟨⟨hx, hb, hml, hown, hts⟩, hRf, hRl, hA, hN, hK⟩ N ht1 hP hD hS (lv_sub hl [1, 2, 0] rfl) (fun H locs ls hP hD hS hl => ?_)
  refine lv_iconst (v := 0) hx hb dX5_step_95 (by decide) ?_
  refine lv_istore_n (lv' := [(2, .int 0), (0, .ref h0)]) hx hb dX5_step_96 rfl hl (by decide) rfl (fun ls hl => ?_)
  obtain ⟨t2, ht2, hf1⟩ := z_ib hf
  replace hf := hf1
  clear hf1
  refine b_X5_step_L97 N ⟨⟨hx, hb, hml, hown, hts⟩, hRf, hRl, hA, hN, hK⟩ N ht2 hP hD hS (lv_sub hl [1, 0] rfl) (fun H locs ls hP hD hS hl => ?_)
  refine lv_aload_n hx hb dX5_step_200 rfl (lv_at hl 0 rfl) ?_
  obtain ⟨o3, ho3, hf1⟩ := z_ib hf
  replace hf := hf1
  clear hf1
  refine z_Vv (As := []) (rest := []) (w := (wX5 cI cZ cJ cA h0 a x1 x3 x4 x5 x6 x7 x9 x10 x14 x15 x16 x19 x20 x21 x22 x23 t2.1 x41 x42 f0 f2 f8 f11 f12 f13 f17 f18 t2.2.1 f26 t1.1 t1.2 t2.2.2.1 t2.2.2.2 f31 f32 f33 f34 f35 f36 f37 f38 f39 f40 f43)) (w1 := (wX5 cI cZ cJ cA h0 a x1 x3 x4 x5 x6 x7 x9 x10 x14 x15 x16 x19 x20 x21 x22 x23 t2.1 x41 x42 f0 f2 f8 f11 f12 f13 f17 f18 o3.1 f26 t1.1 t1.2 o3.2 t2.2.2.2 f31 f32 f33 f34 f35 f36 f37 f38 f39 f40 f43)) ⟨hx, hb, hml, hown, hts⟩ (k_X5_crash l dC dI cI cZ cJ cA h0 a H.size N x1 x3 x4 x5 x6 x7 x9 x10 x14 x15 x16 x19 x20 x21 x22 x23 t2.1 x41 x42 f0 f2 f8 f11 f12 f13 f17 f18 t2.2.1 f26 t1.1 t1.2 t2.2.2.1 t2.2.2.2 f31 f32 f33 f34 f35 f36 f37 f38 f39 f40 f43 o3 ho3) (cwV 0 hts gX5_step_X5_crash rfl rfl rfl (by decide +kernel) ⟨Nat.le_trans (Nat.le_of_ble_eq_true rfl) hRf, Nat.le_trans (Nat.le_of_ble_eq_true rfl) hRl⟩) hK hP hD hS hA hN (ci := 5) rfl rfl rfl rfl hl.1 rfl (Nat.le_of_ble_eq_true rfl) dX5_step_201 (fun H locs hP hD hS => ?_)
  obtain rfl := Option.some.inj hf
  exact hret _ _ _ _ dX5_step_204 hP hD hS
set_option maxHeartbeats 4000000 in
set_option maxRecDepth 100000 in
theorem k_X5_step (l : Launch) (dC : Nat → ClassId) (dI : Nat → Nat → Nat) (cI cZ cJ cA : ClassId) (h0 : Nat) (a : Nat → Nat) (sz : Nat) (N : Nat) (v1 : Int32) (x1 : Int32) (x3 : Int32) (x4 : Int32) (x5 : Int32) (x6 : Int32) (x7 : Int32) (x9 : Int32) (x10 : Int32) (x14 : Int32) (x15 : Int32) (x16 : Int32) (x19 : Int32) (x20 : Int32) (x21 : Int32) (x22 : Int32) (x23 : Int32) (x24 : Int32) (x41 : Int32) (x42 : Int32) (f0 : (Nat → Int32)) (f2 : (Nat → Int32)) (f8 : (Nat → Int32)) (f11 : (Nat → Int32)) (f12 : (Nat → Int32)) (f13 : (Nat → Int32)) (f17 : (Nat → Int32)) (f18 : (Nat → Int32)) (f25 : (Nat → Int32)) (f26 : (Nat → Int32)) (f27 : (Nat → Int32)) (f28 : (Nat → Int32)) (f29 : (Nat → Int32)) (f30 : (Nat → Int32)) (f31 : (Nat → Int32)) (f32 : (Nat → Int32)) (f33 : (Nat → Int32)) (f34 : (Nat → Int32)) (f35 : (Nat → Int32)) (f36 : (Nat → Int32)) (f37 : (Nat → Int32)) (f38 : (Nat → Int32)) (f39 : (Nat → Int32)) (f40 : (Nat → Int32)) (f43 : (Nat → Int32)) (o : (Int32 × (Nat → Int32) × (Nat → Int32) × (Nat → Int32) × (Nat → Int32) × (Nat → Int32))) (hf : q_X5_step N v1 x19 x20 x21 x22 x23 x24 f25 f26 f27 f28 f29 f30 f31 f32 f33 = some o) : Met l yX5_step wsX5_step ({ frames := 1, cells := 0, slots := 0, locals := 23 } : Room) (z_Pre dC dI (z_ty cI cZ cJ cA) [.ref h0, .int v1] sz (wX5 cI cZ cJ cA h0 a x1 x3 x4 x5 x6 x7 x9 x10 x14 x15 x16 x19 x20 x21 x22 x23 x24 x41 x42 f0 f2 f8 f11 f12 f13 f17 f18 f25 f26 f27 f28 f29 f30 f31 f32 f33 f34 f35 f36 f37 f38 f39 f40 f43)) (z_Pv dC dI (wX5 cI cZ cJ cA h0 a x1 x3 x4 x5 x6 x7 x9 x10 x14 x15 x16 x19 x20 x21 x22 x23 o.1 x41 x42 f0 f2 f8 f11 f12 f13 f17 f18 o.2.1 f26 o.2.2.1 o.2.2.2.1 o.2.2.2.2.1 o.2.2.2.2.2 f31 f32 f33 f34 f35 f36 f37 f38 f39 f40 f43) sz (wX5 cI cZ cJ cA h0 a x1 x3 x4 x5 x6 x7 x9 x10 x14 x15 x16 x19 x20 x21 x22 x23 x24 x41 x42 f0 f2 f8 f11 f12 f13 f17 f18 f25 f26 f27 f28 f29 f30 f31 f32 f33 f34 f35 f36 f37 f38 f39 f40 f43)) 0 0 (va_A (wX5 cI cZ cJ cA h0 a x1 x3 x4 x5 x6 x7 x9 x10 x14 x15 x16 x19 x20 x21 x22 x23 x24 x41 x42 f0 f2 f8 f11 f12 f13 f17 f18 f25 f26 f27 f28 f29 f30 f31 f32 f33 f34 f35 f36 f37 f38 f39 f40 f43) sz) := by
  refine Met.ofW (cc := cX5_step) (maxL := 4) (ret := none) (by decide) rfl ?_
  intro p e s m args below meth c s₁ B hml hv
  obtain ⟨rfl, hsz, hP, hK, hD0, hN⟩ := hv
  subst hsz
  have hl := lv_entry ([.ref h0, .int v1]) (n := 4) (Nat.le_of_ble_eq_true rfl)
  rw [lg_entry_eq]
  refine b_X5_step N ⟨⟨B.exec, B.bytes, hml, findClass_of_methodNamed B.named, atoms_spec (ws := wsX5_step) B.pre⟩, Nat.le_refl _, Nat.le_refl _, fun q h => Or.inr h, hN, hK⟩ hf hP hD0.self va_S.rf hl (fun pc H locs ls hd hP hD hS => ?_)
  exact W.vret B.exec B.bytes B.returns (fun t ht hW => ⟨⟨(), rfl, trivial, by rw [ht]; exact hP, hD⟩, hS.F ht⟩) hS.2.2 hd
def q_X5_run_L39 (N : Nat) (x22 : Int32) (x23 : Int32) (f31 : (Nat → Int32)) : Nat → Int32 → (Nat → Int32) → Option (Nat → Int32)
  | 0, _, _ => none
  | n + 1, v3, f25 =>
    (if x23 ≤ v3 then
     (some f25)
    else
     (if z_in v3 8 then
     (if (f25 (Int32.toNatClampNeg v3)) = 0 then
      (if (f31 (Int32.toNatClampNeg v3)) = (x22 - 1) then
       (q_X5_run_L39 N x22 x23 f31 n (v3 + 1) (upd f25 (Int32.toNatClampNeg v3) 1))
      else
       (q_X5_run_L39 N x22 x23 f31 n (v3 + 1) f25))
     else
      (q_X5_run_L39 N x22 x23 f31 n (v3 + 1) f25))
     else none))
set_option maxHeartbeats 4000000 in
set_option maxRecDepth 100000 in
theorem b_X5_run_L39 {p : Program} {l : Launch} {e : Env} {R : Room} {s : State} {m : MethodId} {args : Array Value} {below : List Frame} {meth : Method} {c : Code} {Q : State → Prop} {A : Nat → Prop} {dC : Nat → ClassId} {dI : Nat → Nat → Nat} {cI cZ cJ cA : ClassId} {h0 : Nat} {a : Nat → Nat} (N : Nat) (C0 : z_Cx p s m args c cX5_run 5 wsX5_run RX5 R 2 46 A dC dI (z_ty cI cZ cJ cA)) : ∀ (n : Nat) {v1 : Int32} {v2 : Int32} {v3 : Int32} {x1 : Int32} {x3 : Int32} {x4 : Int32} {x5 : Int32} {x6 : Int32} {x7 : Int32} {x9 : Int32} {x10 : Int32} {x14 : Int32} {x15 : Int32} {x16 : Int32} {x19 : Int32} {x20 : Int32} {x21 : Int32} {x22 : Int32} {x23 : Int32} {x24 : Int32} {x41 : Int32} {x42 : Int32} {f0 : (Nat → Int32)} {f2 : (Nat → Int32)} {f8 : (Nat → Int32)} {f11 : (Nat → Int32)} {f12 : (Nat → Int32)} {f13 : (Nat → Int32)} {f17 : (Nat → Int32)} {f18 : (Nat → Int32)} {f25 : (Nat → Int32)} {f26 : (Nat → Int32)} {f27 : (Nat → Int32)} {f28 : (Nat → Int32)} {f29 : (Nat → Int32)} {f30 : (Nat → Int32)} {f31 : (Nat → Int32)} {f32 : (Nat → Int32)} {f33 : (Nat → Int32)} {f34 : (Nat → Int32)} {f35 : (Nat → Int32)} {f36 : (Nat → Int32)} {f37 : (Nat → Int32)} {f38 : (Nat → Int32)} {f39 : (Nat → Int32)} {f40 : (Nat → Int32)} {f43 : (Nat → Int32)} {o : (Nat → Int32)} {H : Heap} {locs : List Loc} {ls : Array Slot}, q_X5_run_L39 N x22 x23 f31 n v3 f25 = some o → va_P (dC, dI) vwCl (wX5 cI cZ cJ cA h0 a x1 x3 x4 x5 x6 x7 x9 x10 x14 x15 x16 x19 x20 x21 x22 x23 x24 x41 x42 f0 f2 f8 f11 f12 f13 f17 f18 f25 f26 f27 f28 f29 f30 f31 f32 f33 f34 f35 f36 f37 f38 f39 f40 f43) H → va_D A (wX5 cI cZ cJ cA h0 a x1 x3 x4 x5 x6 x7 x9 x10 x14 x15 x16 x19 x20 x21 x22 x23 x24 x41 x42 f0 f2 f8 f11 f12 f13 f17 f18 f25 f26 f27 f28 f29 f30 f31 f32 f33 f34 f35 f36 f37 f38 f39 f40 f43) → va_S A s.heap H locs → lv_has ls 5 [(0, .ref h0), (1, .int v1), (2, .int v2), (3, .int v3)] →
    (∀ (H : Heap) (locs : List Loc) (ls : Array Slot), va_P (dC, dI) vwCl (wX5 cI cZ cJ cA h0 a x1 x3 x4 x5 x6 x7 x9 x10 x14 x15 x16 x19 x20 x21 x22 x23 x24 x41 x42 f0 f2 f8 f11 f12 f13 f17 f18 o f26 f27 f28 f29 f30 f31 f32 f33 f34 f35 f36 f37 f38 f39 f40 f43) H → va_D A (wX5 cI cZ cJ cA h0 a x1 x3 x4 x5 x6 x7 x9 x10 x14 x15 x16 x19 x20 x21 x22 x23 x24 x41 x42 f0 f2 f8 f11 f12 f13 f17 f18 o f26 f27 f28 f29 f30 f31 f32 f33 f34 f35 f36 f37 f38 f39 f40 f43) → va_S A s.heap H locs → lv_has ls 5 [(0, .ref h0), (1, .int v1), (2, .int v2)] → W p l e R s m args below meth c H locs 0 0 Q (F0 m 84 ls [])) →
    W p l e R s m args below meth c H locs 0 0 Q (F0 m 39 ls []) := by
  obtain ⟨⟨hx, hb, hml, hown, hts⟩, hRf, hRl, hA, hN, hK⟩ := C0
  intro n
  induction n with
  | zero =>
    intro v1 v2 v3 x1 x3 x4 x5 x6 x7 x9 x10 x14 x15 x16 x19 x20 x21 x22 x23 x24 x41 x42 f0 f2 f8 f11 f12 f13 f17 f18 f25 f26 f27 f28 f29 f30 f31 f32 f33 f34 f35 f36 f37 f38 f39 f40 f43 o H locs ls hf
    cases hf
  | succ n ih =>
    intro v1 v2 v3 x1 x3 x4 x5 x6 x7 x9 x10 x14 x15 x16 x19 x20 x21 x22 x23 x24 x41 x42 f0 f2 f8 f11 f12 f13 f17 f18 f25 f26 f27 f28 f29 f30 f31 f32 f33 f34 f35 f36 f37 f38 f39 f40 f43 o H locs ls hf hP hD hS hl hexit
    rw [q_X5_run_L39] at hf
    refine lv_iload_n hx hb dX5_run_39 rfl (lv_at hl 3 rfl) ?_
    refine lv_aload_n hx hb dX5_run_40 rfl (lv_at hl 0 rfl) ?_
    refine va_get (D := (dC, dI)) (ci := 5) (v := .int x23) (C := RX5) (T := TX5) (N := 44) hx hb hts (fun w hw => List.mem_cons_of_mem _ (List.mem_append_right _ hw)) hown hK hP 0 rfl rfl 23 (by decide) (hts (.fieldLink RX5 171 "OldStadiumModel" "chariots" "I") (List.mem_of_getElem? (i := 3) rfl)) (fun _ h9 => h9) rfl dX5_run_41 ?_
    refine lv_icmp_ge (tgt := 84) hx hb dX5_run_44 (by decide) (fun c1 => ?_) (fun c1 => ?_)
    · replace hf := z_ip hf c1
      obtain rfl := Option.some.inj hf
      exact hexit _ _ _ hP hD hS (lv_sub hl [0, 1, 2] rfl)
    · replace hf := z_im hf c1
      refine lv_aload_n hx hb dX5_run_47 rfl (lv_at hl 0 rfl) ?_
      refine va_get (D := (dC, dI)) (ci := 5) (v := .ref (a 25)) (C := RX5) (T := TX5) (N := 44) hx hb hts (fun w hw => List.mem_cons_of_mem _ (List.mem_append_right _ hw)) hown hK hP 0 rfl rfl 25 (by decide) (hts (.fieldLink RX5 42 "OldStadiumModel" "state" "[I") (List.mem_of_getElem? (i := 4) rfl)) (fun _ h9 => h9) rfl dX5_run_48 ?_
      refine lv_iload_n hx hb dX5_run_51 rfl (lv_at hl 3 rfl) ?_
      have b2 := z_c1 hf
      replace hf := z_c2 hf
      refine va_iald hx hb hK hP 9 0 rfl rfl b2 dX5_run_52 ?_
      refine lv_if_ne (tgt := 78) hx hb dX5_run_53 (by decide) (fun c3 => ?_) (fun c3 => ?_)
      · replace hf := z_im hf c3
        refine lv_iinc (v := (v3 + 1)) (lv' := [(3, .int (v3 + 1)), (0, .ref h0), (1, .int v1), (2, .int v2)]) hx hb dX5_run_78 hl (k := 3) rfl rfl (by decide) rfl (fun ls hl => ?_)
        refine lv_goto (tgt := 39) hx hb dX5_run_81 (by decide) ?_
        exact ih hf hP hD hS (lv_sub hl [1, 2, 3, 0] rfl) hexit
      · replace hf := z_ip hf c3
        refine lv_aload_n hx hb dX5_run_56 rfl (lv_at hl 0 rfl) ?_
        refine va_get (D := (dC, dI)) (ci := 5) (v := .ref (a 31)) (C := RX5) (T := TX5) (N := 44) hx hb hts (fun w hw => List.mem_cons_of_mem _ (List.mem_append_right _ hw)) hown hK hP 0 rfl rfl 31 (by decide) (hts (.fieldLink RX5 60 "OldStadiumModel" "delay" "[I") (List.mem_of_getElem? (i := 5) rfl)) (fun _ h9 => h9) rfl dX5_run_57 ?_
        refine lv_iload_n hx hb dX5_run_60 rfl (lv_at hl 3 rfl) ?_
        refine va_iald hx hb hK hP 15 0 rfl rfl b2 dX5_run_61 ?_
        refine lv_aload_n hx hb dX5_run_62 rfl (lv_at hl 0 rfl) ?_
        refine va_get (D := (dC, dI)) (ci := 5) (v := .int x22) (C := RX5) (T := TX5) (N := 44) hx hb hts (fun w hw => List.mem_cons_of_mem _ (List.mem_append_right _ hw)) hown hK hP 0 rfl rfl 22 (by decide) (hts (.fieldLink RX5 168 "OldStadiumModel" "tick" "I") (List.mem_of_getElem? (i := 2) rfl)) (fun _ h9 => h9) rfl dX5_run_63 ?_
        refine lv_iconst (v := 1) hx hb dX5_run_66 (by decide) ?_
        refine lv_isub hx hb dX5_run_67 ?_
        refine lv_icmp_ne (tgt := 78) hx hb dX5_run_68 (by decide) (fun c4 => ?_) (fun c4 => ?_)
        · replace hf := z_im hf c4
          refine lv_iinc (v := (v3 + 1)) (lv' := [(3, .int (v3 + 1)), (0, .ref h0), (1, .int v1), (2, .int v2)]) hx hb dX5_run_78 hl (k := 3) rfl rfl (by decide) rfl (fun ls hl => ?_)
          refine lv_goto (tgt := 39) hx hb dX5_run_81 (by decide) ?_
          exact ih hf hP hD hS (lv_sub hl [1, 2, 3, 0] rfl) hexit
        · replace hf := z_ip hf c4
          refine lv_aload_n hx hb dX5_run_71 rfl (lv_at hl 0 rfl) ?_
          refine va_get (D := (dC, dI)) (ci := 5) (v := .ref (a 25)) (C := RX5) (T := TX5) (N := 44) hx hb hts (fun w hw => List.mem_cons_of_mem _ (List.mem_append_right _ hw)) hown hK hP 0 rfl rfl 25 (by decide) (hts (.fieldLink RX5 42 "OldStadiumModel" "state" "[I") (List.mem_of_getElem? (i := 4) rfl)) (fun _ h9 => h9) rfl dX5_run_72 ?_
          refine lv_iload_n hx hb dX5_run_75 rfl (lv_at hl 3 rfl) ?_
          refine lv_iconst (v := 1) hx hb dX5_run_76 (by decide) ?_
          refine va_iast hx hb hK hP hD hS 9 0 rfl rfl b2 dX5_run_77 (fun H locs hP hD hS => ?_)
          replace hP : va_P (dC, dI) vwCl (wX5 cI cZ cJ cA h0 a x1 x3 x4 x5 x6 x7 x9 x10 x14 x15 x16 x19 x20 x21 x22 x23 x24 x41 x42 f0 f2 f8 f11 f12 f13 f17 f18 (upd f25 (Int32.toNatClampNeg v3) 1) f26 f27 f28 f29 f30 f31 f32 f33 f34 f35 f36 f37 f38 f39 f40 f43) H := hP
          replace hD : va_D A (wX5 cI cZ cJ cA h0 a x1 x3 x4 x5 x6 x7 x9 x10 x14 x15 x16 x19 x20 x21 x22 x23 x24 x41 x42 f0 f2 f8 f11 f12 f13 f17 f18 (upd f25 (Int32.toNatClampNeg v3) 1) f26 f27 f28 f29 f30 f31 f32 f33 f34 f35 f36 f37 f38 f39 f40 f43) := hD
          refine lv_iinc (v := (v3 + 1)) (lv' := [(3, .int (v3 + 1)), (0, .ref h0), (1, .int v1), (2, .int v2)]) hx hb dX5_run_78 hl (k := 3) rfl rfl (by decide) rfl (fun ls hl => ?_)
          refine lv_goto (tgt := 39) hx hb dX5_run_81 (by decide) ?_
          exact ih hf hP hD hS (lv_sub hl [1, 2, 3, 0] rfl) hexit
def q_X5_run_L90 (N : Nat) (x19 : Int32) (x20 : Int32) (x21 : Int32) (x22 : Int32) (x23 : Int32) (f26 : (Nat → Int32)) (f31 : (Nat → Int32)) (f32 : (Nat → Int32)) (f33 : (Nat → Int32)) : Nat → Int32 → Int32 → (Nat → Int32) → (Nat → Int32) → (Nat → Int32) → (Nat → Int32) → (Nat → Int32) → Option (Int32 × (Nat → Int32) × (Nat → Int32) × (Nat → Int32) × (Nat → Int32) × (Nat → Int32))
  | 0, _, _, _, _, _, _, _ => none
  | n + 1, v3, x24, f25, f27, f28, f29, f30 =>
    (if 5 ≤ v3 then
     (some (x24, f25, f27, f28, f29, f30))
    else
     (Option.bind (q_X5_step N v3 x19 x20 x21 x22 x23 x24 f25 f26 f27 f28 f29 f30 f31 f32 f33) (fun o2 =>
     (q_X5_run_L90 N x19 x20 x21 x22 x23 f26 f31 f32 f33 n (v3 + 1) o2.1 o2.2.1 o2.2.2.1 o2.2.2.2.1 o2.2.2.2.2.1 o2.2.2.2.2.2))))
set_option maxHeartbeats 4000000 in
set_option maxRecDepth 100000 in
theorem b_X5_run_L90 {p : Program} {l : Launch} {e : Env} {R : Room} {s : State} {m : MethodId} {args : Array Value} {below : List Frame} {meth : Method} {c : Code} {Q : State → Prop} {A : Nat → Prop} {dC : Nat → ClassId} {dI : Nat → Nat → Nat} {cI cZ cJ cA : ClassId} {h0 : Nat} {a : Nat → Nat} (N : Nat) (C0 : z_Cx p s m args c cX5_run 5 wsX5_run RX5 R 2 46 A dC dI (z_ty cI cZ cJ cA)) : ∀ (n : Nat) {v1 : Int32} {v2 : Int32} {v3 : Int32} {x1 : Int32} {x3 : Int32} {x4 : Int32} {x5 : Int32} {x6 : Int32} {x7 : Int32} {x9 : Int32} {x10 : Int32} {x14 : Int32} {x15 : Int32} {x16 : Int32} {x19 : Int32} {x20 : Int32} {x21 : Int32} {x22 : Int32} {x23 : Int32} {x24 : Int32} {x41 : Int32} {x42 : Int32} {f0 : (Nat → Int32)} {f2 : (Nat → Int32)} {f8 : (Nat → Int32)} {f11 : (Nat → Int32)} {f12 : (Nat → Int32)} {f13 : (Nat → Int32)} {f17 : (Nat → Int32)} {f18 : (Nat → Int32)} {f25 : (Nat → Int32)} {f26 : (Nat → Int32)} {f27 : (Nat → Int32)} {f28 : (Nat → Int32)} {f29 : (Nat → Int32)} {f30 : (Nat → Int32)} {f31 : (Nat → Int32)} {f32 : (Nat → Int32)} {f33 : (Nat → Int32)} {f34 : (Nat → Int32)} {f35 : (Nat → Int32)} {f36 : (Nat → Int32)} {f37 : (Nat → Int32)} {f38 : (Nat → Int32)} {f39 : (Nat → Int32)} {f40 : (Nat → Int32)} {f43 : (Nat → Int32)} {o : (Int32 × (Nat → Int32) × (Nat → Int32) × (Nat → Int32) × (Nat → Int32) × (Nat → Int32))} {H : Heap} {locs : List Loc} {ls : Array Slot}, q_X5_run_L90 N x19 x20 x21 x22 x23 f26 f31 f32 f33 n v3 x24 f25 f27 f28 f29 f30 = some o → va_P (dC, dI) vwCl (wX5 cI cZ cJ cA h0 a x1 x3 x4 x5 x6 x7 x9 x10 x14 x15 x16 x19 x20 x21 x22 x23 x24 x41 x42 f0 f2 f8 f11 f12 f13 f17 f18 f25 f26 f27 f28 f29 f30 f31 f32 f33 f34 f35 f36 f37 f38 f39 f40 f43) H → va_D A (wX5 cI cZ cJ cA h0 a x1 x3 x4 x5 x6 x7 x9 x10 x14 x15 x16 x19 x20 x21 x22 x23 x24 x41 x42 f0 f2 f8 f11 f12 f13 f17 f18 f25 f26 f27 f28 f29 f30 f31 f32 f33 f34 f35 f36 f37 f38 f39 f40 f43) → va_S A s.heap H locs → lv_has ls 5 [(0, .ref h0), (1, .int v1), (2, .int v2), (3, .int v3)] →
    (∀ (H : Heap) (locs : List Loc) (ls : Array Slot), va_P (dC, dI) vwCl (wX5 cI cZ cJ cA h0 a x1 x3 x4 x5 x6 x7 x9 x10 x14 x15 x16 x19 x20 x21 x22 x23 o.1 x41 x42 f0 f2 f8 f11 f12 f13 f17 f18 o.2.1 f26 o.2.2.1 o.2.2.2.1 o.2.2.2.2.1 o.2.2.2.2.2 f31 f32 f33 f34 f35 f36 f37 f38 f39 f40 f43) H → va_D A (wX5 cI cZ cJ cA h0 a x1 x3 x4 x5 x6 x7 x9 x10 x14 x15 x16 x19 x20 x21 x22 x23 o.1 x41 x42 f0 f2 f8 f11 f12 f13 f17 f18 o.2.1 f26 o.2.2.1 o.2.2.2.1 o.2.2.2.2.1 o.2.2.2.2.2 f31 f32 f33 f34 f35 f36 f37 f38 f39 f40 f43) → va_S A s.heap H locs → lv_has ls 5 [(0, .ref h0), (1, .int v1), (2, .int v2)] → W p l e R s m args below meth c H locs 0 0 Q (F0 m 106 ls [])) →
    W p l e R s m args below meth c H locs 0 0 Q (F0 m 90 ls []) := by
  obtain ⟨⟨hx, hb, hml, hown, hts⟩, hRf, hRl, hA, hN, hK⟩ := C0
  intro n
  induction n with
  | zero =>
    intro v1 v2 v3 x1 x3 x4 x5 x6 x7 x9 x10 x14 x15 x16 x19 x20 x21 x22 x23 x24 x41 x42 f0 f2 f8 f11 f12 f13 f17 f18 f25 f26 f27 f28 f29 f30 f31 f32 f33 f34 f35 f36 f37 f38 f39 f40 f43 o H locs ls hf
    cases hf
  | succ n ih =>
    intro v1 v2 v3 x1 x3 x4 x5 x6 x7 x9 x10 x14 x15 x16 x19 x20 x21 x22 x23 x24 x41 x42 f0 f2 f8 f11 f12 f13 f17 f18 f25 f26 f27 f28 f29 f30 f31 f32 f33 f34 f35 f36 f37 f38 f39 f40 f43 o H locs ls hf hP hD hS hl hexit
    rw [q_X5_run_L90] at hf
    refine lv_iload_n hx hb dX5_run_90 rfl (lv_at hl 3 rfl) ?_
    refine lv_iconst (v := 5) hx hb dX5_run_91 (by decide) ?_
    refine lv_icmp_ge (tgt := 106) hx hb dX5_run_92 (by decide) (fun c1 => ?_) (fun c1 => ?_)
    · replace hf := z_ip hf c1
      obtain rfl := Option.some.inj hf
      exact hexit _ _ _ hP hD hS (lv_sub hl [0, 1, 2] rfl)
    · replace hf := z_im hf c1
      refine lv_aload_n hx hb dX5_run_95 rfl (lv_at hl 0 rfl) ?_
      refine lv_iload_n hx hb dX5_run_96 rfl (lv_at hl 3 rfl) ?_
      obtain ⟨o2, ho2, hf1⟩ := z_ib hf
      replace hf := hf1
      clear hf1
      refine z_Vv (As := [.int v3]) (rest := []) (w := (wX5 cI cZ cJ cA h0 a x1 x3 x4 x5 x6 x7 x9 x10 x14 x15 x16 x19 x20 x21 x22 x23 x24 x41 x42 f0 f2 f8 f11 f12 f13 f17 f18 f25 f26 f27 f28 f29 f30 f31 f32 f33 f34 f35 f36 f37 f38 f39 f40 f43)) (w1 := (wX5 cI cZ cJ cA h0 a x1 x3 x4 x5 x6 x7 x9 x10 x14 x15 x16 x19 x20 x21 x22 x23 o2.1 x41 x42 f0 f2 f8 f11 f12 f13 f17 f18 o2.2.1 f26 o2.2.2.1 o2.2.2.2.1 o2.2.2.2.2.1 o2.2.2.2.2.2 f31 f32 f33 f34 f35 f36 f37 f38 f39 f40 f43)) ⟨hx, hb, hml, hown, hts⟩ (k_X5_step l dC dI cI cZ cJ cA h0 a H.size N v3 x1 x3 x4 x5 x6 x7 x9 x10 x14 x15 x16 x19 x20 x21 x22 x23 x24 x41 x42 f0 f2 f8 f11 f12 f13 f17 f18 f25 f26 f27 f28 f29 f30 f31 f32 f33 f34 f35 f36 f37 f38 f39 f40 f43 o2 ho2) (cwV 1 hts gX5_run_X5_step rfl rfl rfl (by decide +kernel) ⟨Nat.le_trans (Nat.le_of_ble_eq_true rfl) hRf, Nat.le_trans (Nat.le_of_ble_eq_true rfl) hRl⟩) hK hP hD hS hA hN (ci := 5) rfl rfl rfl rfl hl.1 rfl (Nat.le_of_ble_eq_true rfl) dX5_run_97 (fun H locs hP hD hS => ?_)
      refine lv_iinc (v := (v3 + 1)) (lv' := [(3, .int (v3 + 1)), (0, .ref h0), (1, .int v1), (2, .int v2)]) hx hb dX5_run_100 hl (k := 3) rfl rfl (by decide) rfl (fun ls hl => ?_)
      refine lv_goto (tgt := 90) hx hb dX5_run_103 (by decide) ?_
      exact ih hf hP hD hS (lv_sub hl [1, 2, 3, 0] rfl) hexit
def q_X5_run_L108 (N : Nat) (x19 : Int32) (x22 : Int32) (x23 : Int32) (f25 : (Nat → Int32)) (f31 : (Nat → Int32)) (f32 : (Nat → Int32)) (f34 : (Nat → Int32)) : Nat → Int32 → (Nat → Int32) → Option (Nat → Int32)
  | 0, _, _ => none
  | n + 1, v3, f26 =>
    (if x23 ≤ v3 then
     (some f26)
    else
     (if z_in v3 8 then
     (if (f25 (Int32.toNatClampNeg v3)) = 1 then
      (Option.bind (q_X5_actOf N v3 x22 f31 f32) (fun o4 =>
      (if o4 = (-1) then
       (q_X5_run_L108 N x19 x22 x23 f25 f31 f32 f34 n (v3 + 1) f26)
      else
       (Option.bind (q_X5_actOf N v3 x22 f31 f32) (fun o6 =>
       (if z_in o6 96 then
       (Option.bind (some (((f26 (Int32.toNatClampNeg v3)) + (f34 (Int32.toNatClampNeg o6))) : Int32)) (fun n8 =>
       (Option.bind (q_X5_in N n8 0 (x19 - 1)) (fun o9 =>
       (if o9 = 0 then
        (q_X5_run_L108 N x19 x22 x23 f25 f31 f32 f34 n (v3 + 1) f26)
       else
        (q_X5_run_L108 N x19 x22 x23 f25 f31 f32 f34 n (v3 + 1) (upd f26 (Int32.toNatClampNeg v3) n8)))))))
       else none))))))
     else
      (q_X5_run_L108 N x19 x22 x23 f25 f31 f32 f34 n (v3 + 1) f26))
     else none))
set_option maxHeartbeats 4000000 in
set_option maxRecDepth 100000 in
theorem b_X5_run_L108 {p : Program} {l : Launch} {e : Env} {R : Room} {s : State} {m : MethodId} {args : Array Value} {below : List Frame} {meth : Method} {c : Code} {Q : State → Prop} {A : Nat → Prop} {dC : Nat → ClassId} {dI : Nat → Nat → Nat} {cI cZ cJ cA : ClassId} {h0 : Nat} {a : Nat → Nat} (N : Nat) (C0 : z_Cx p s m args c cX5_run 5 wsX5_run RX5 R 2 46 A dC dI (z_ty cI cZ cJ cA)) : ∀ (n : Nat) {v1 : Int32} {v2 : Int32} {v3 : Int32} {x1 : Int32} {x3 : Int32} {x4 : Int32} {x5 : Int32} {x6 : Int32} {x7 : Int32} {x9 : Int32} {x10 : Int32} {x14 : Int32} {x15 : Int32} {x16 : Int32} {x19 : Int32} {x20 : Int32} {x21 : Int32} {x22 : Int32} {x23 : Int32} {x24 : Int32} {x41 : Int32} {x42 : Int32} {f0 : (Nat → Int32)} {f2 : (Nat → Int32)} {f8 : (Nat → Int32)} {f11 : (Nat → Int32)} {f12 : (Nat → Int32)} {f13 : (Nat → Int32)} {f17 : (Nat → Int32)} {f18 : (Nat → Int32)} {f25 : (Nat → Int32)} {f26 : (Nat → Int32)} {f27 : (Nat → Int32)} {f28 : (Nat → Int32)} {f29 : (Nat → Int32)} {f30 : (Nat → Int32)} {f31 : (Nat → Int32)} {f32 : (Nat → Int32)} {f33 : (Nat → Int32)} {f34 : (Nat → Int32)} {f35 : (Nat → Int32)} {f36 : (Nat → Int32)} {f37 : (Nat → Int32)} {f38 : (Nat → Int32)} {f39 : (Nat → Int32)} {f40 : (Nat → Int32)} {f43 : (Nat → Int32)} {o : (Nat → Int32)} {H : Heap} {locs : List Loc} {ls : Array Slot}, q_X5_run_L108 N x19 x22 x23 f25 f31 f32 f34 n v3 f26 = some o → va_P (dC, dI) vwCl (wX5 cI cZ cJ cA h0 a x1 x3 x4 x5 x6 x7 x9 x10 x14 x15 x16 x19 x20 x21 x22 x23 x24 x41 x42 f0 f2 f8 f11 f12 f13 f17 f18 f25 f26 f27 f28 f29 f30 f31 f32 f33 f34 f35 f36 f37 f38 f39 f40 f43) H → va_D A (wX5 cI cZ cJ cA h0 a x1 x3 x4 x5 x6 x7 x9 x10 x14 x15 x16 x19 x20 x21 x22 x23 x24 x41 x42 f0 f2 f8 f11 f12 f13 f17 f18 f25 f26 f27 f28 f29 f30 f31 f32 f33 f34 f35 f36 f37 f38 f39 f40 f43) → va_S A s.heap H locs → lv_has ls 5 [(0, .ref h0), (1, .int v1), (2, .int v2), (3, .int v3)] →
    (∀ (H : Heap) (locs : List Loc) (ls : Array Slot), va_P (dC, dI) vwCl (wX5 cI cZ cJ cA h0 a x1 x3 x4 x5 x6 x7 x9 x10 x14 x15 x16 x19 x20 x21 x22 x23 x24 x41 x42 f0 f2 f8 f11 f12 f13 f17 f18 f25 o f27 f28 f29 f30 f31 f32 f33 f34 f35 f36 f37 f38 f39 f40 f43) H → va_D A (wX5 cI cZ cJ cA h0 a x1 x3 x4 x5 x6 x7 x9 x10 x14 x15 x16 x19 x20 x21 x22 x23 x24 x41 x42 f0 f2 f8 f11 f12 f13 f17 f18 f25 o f27 f28 f29 f30 f31 f32 f33 f34 f35 f36 f37 f38 f39 f40 f43) → va_S A s.heap H locs → lv_has ls 5 [(0, .ref h0), (1, .int v1), (2, .int v2)] → W p l e R s m args below meth c H locs 0 0 Q (F0 m 186 ls [])) →
    W p l e R s m args below meth c H locs 0 0 Q (F0 m 108 ls []) := by
  obtain ⟨⟨hx, hb, hml, hown, hts⟩, hRf, hRl, hA, hN, hK⟩ := C0
  intro n
  induction n with
  | zero =>
    intro v1 v2 v3 x1 x3 x4 x5 x6 x7 x9 x10 x14 x15 x16 x19 x20 x21 x22 x23 x24 x41 x42 f0 f2 f8 f11 f12 f13 f17 f18 f25 f26 f27 f28 f29 f30 f31 f32 f33 f34 f35 f36 f37 f38 f39 f40 f43 o H locs ls hf
    cases hf
  | succ n ih =>
    intro v1 v2 v3 x1 x3 x4 x5 x6 x7 x9 x10 x14 x15 x16 x19 x20 x21 x22 x23 x24 x41 x42 f0 f2 f8 f11 f12 f13 f17 f18 f25 f26 f27 f28 f29 f30 f31 f32 f33 f34 f35 f36 f37 f38 f39 f40 f43 o H locs ls hf hP hD hS hl hexit
    rw [q_X5_run_L108] at hf
    refine lv_iload_n hx hb dX5_run_108 rfl (lv_at hl 3 rfl) ?_
    refine lv_aload_n hx hb dX5_run_109 rfl (lv_at hl 0 rfl) ?_
    refine va_get (D := (dC, dI)) (ci := 5) (v := .int x23) (C := RX5) (T := TX5) (N := 44) hx hb hts (fun w hw => List.mem_cons_of_mem _ (List.mem_append_right _ hw)) hown hK hP 0 rfl rfl 23 (by decide) (hts (.fieldLink RX5 171 "OldStadiumModel" "chariots" "I") (List.mem_of_getElem? (i := 3) rfl)) (fun _ h9 => h9) rfl dX5_run_110 ?_
    refine lv_icmp_ge (tgt := 186) hx hb dX5_run_113 (by decide) (fun c1 => ?_) (fun c1 => ?_)
    · replace hf := z_ip hf c1
      obtain rfl := Option.some.inj hf
      exact hexit _ _ _ hP hD hS (lv_sub hl [0, 1, 2] rfl)
    · replace hf := z_im hf c1
      refine lv_aload_n hx hb dX5_run_116 rfl (lv_at hl 0 rfl) ?_
      refine va_get (D := (dC, dI)) (ci := 5) (v := .ref (a 25)) (C := RX5) (T := TX5) (N := 44) hx hb hts (fun w hw => List.mem_cons_of_mem _ (List.mem_append_right _ hw)) hown hK hP 0 rfl rfl 25 (by decide) (hts (.fieldLink RX5 42 "OldStadiumModel" "state" "[I") (List.mem_of_getElem? (i := 4) rfl)) (fun _ h9 => h9) rfl dX5_run_117 ?_
      refine lv_iload_n hx hb dX5_run_120 rfl (lv_at hl 3 rfl) ?_
      have b2 := z_c1 hf
      replace hf := z_c2 hf
      refine va_iald hx hb hK hP 9 0 rfl rfl b2 dX5_run_121 ?_
      refine lv_iconst (v := 1) hx hb dX5_run_122 (by decide) ?_
      refine lv_icmp_ne (tgt := 180) hx hb dX5_run_123 (by decide) (fun c3 => ?_) (fun c3 => ?_)
      · replace hf := z_im hf c3
        refine lv_iinc (v := (v3 + 1)) (lv' := [(3, .int (v3 + 1)), (0, .ref h0), (1, .int v1), (2, .int v2)]) hx hb dX5_run_180 hl (k := 3) rfl rfl (by decide) rfl (fun ls hl => ?_)
        refine lv_goto (tgt := 108) hx hb dX5_run_183 (by decide) ?_
        exact ih hf hP hD hS (lv_sub hl [1, 2, 3, 0] rfl) hexit
      · replace hf := z_ip hf c3
        refine lv_aload_n hx hb dX5_run_126 rfl (lv_at hl 0 rfl) ?_
        refine lv_iload_n hx hb dX5_run_127 rfl (lv_at hl 3 rfl) ?_
        obtain ⟨o4, ho4, hf1⟩ := z_ib hf
        replace hf := hf1
        clear hf1
        refine z_Vi (As := [.int v3]) (rest := []) (w := (wX5 cI cZ cJ cA h0 a x1 x3 x4 x5 x6 x7 x9 x10 x14 x15 x16 x19 x20 x21 x22 x23 x24 x41 x42 f0 f2 f8 f11 f12 f13 f17 f18 f25 f26 f27 f28 f29 f30 f31 f32 f33 f34 f35 f36 f37 f38 f39 f40 f43)) (w1 := (wX5 cI cZ cJ cA h0 a x1 x3 x4 x5 x6 x7 x9 x10 x14 x15 x16 x19 x20 x21 x22 x23 x24 x41 x42 f0 f2 f8 f11 f12 f13 f17 f18 f25 f26 f27 f28 f29 f30 f31 f32 f33 f34 f35 f36 f37 f38 f39 f40 f43)) ⟨hx, hb, hml, hown, hts⟩ (k_X5_actOf l dC dI cI cZ cJ cA h0 a H.size N v3 x1 x3 x4 x5 x6 x7 x9 x10 x14 x15 x16 x19 x20 x21 x22 x23 x24 x41 x42 f0 f2 f8 f11 f12 f13 f17 f18 f25 f26 f27 f28 f29 f30 f31 f32 f33 f34 f35 f36 f37 f38 f39 f40 f43 o4 ho4) (cwV 1 hts gX5_run_X5_actOf rfl rfl rfl (by decide +kernel) ⟨Nat.le_trans (Nat.le_of_ble_eq_true rfl) hRf, Nat.le_trans (Nat.le_of_ble_eq_true rfl) hRl⟩) hK hP hD hS hA hN (ci := 5) rfl rfl rfl rfl hl.1 rfl (Nat.le_of_ble_eq_true rfl) dX5_run_128 (fun H locs hP hD hS => ?_)
        refine lv_iconst (v := (-1)) hx hb dX5_run_131 (by decide) ?_
        refine lv_icmp_ne (tgt := 138) hx hb dX5_run_132 (by decide) (fun c5 => ?_) (fun c5 => ?_)
        · replace hf := z_im hf c5
          refine lv_aload_n hx hb dX5_run_138 rfl (lv_at hl 0 rfl) ?_
          refine va_get (D := (dC, dI)) (ci := 5) (v := .ref (a 26)) (C := RX5) (T := TX5) (N := 44) hx hb hts (fun w hw => List.mem_cons_of_mem _ (List.mem_append_right _ hw)) hown hK hP 0 rfl rfl 26 (by decide) (hts (.fieldLink RX5 45 "OldStadiumModel" "lane" "[I") (List.mem_of_getElem? (i := 6) rfl)) (fun _ h9 => h9) rfl dX5_run_139 ?_
          refine lv_iload_n hx hb dX5_run_142 rfl (lv_at hl 3 rfl) ?_
          refine va_iald hx hb hK hP 10 0 rfl rfl b2 dX5_run_143 ?_
          refine lv_aload_n hx hb dX5_run_144 rfl (lv_at hl 0 rfl) ?_
          refine va_get (D := (dC, dI)) (ci := 5) (v := .ref (a 34)) (C := RX5) (T := TX5) (N := 44) hx hb hts (fun w hw => List.mem_cons_of_mem _ (List.mem_append_right _ hw)) hown hK hP 0 rfl rfl 34 (by decide) (hts (.fieldLink RX5 69 "OldStadiumModel" "side" "[I") (List.mem_of_getElem? (i := 7) rfl)) (fun _ h9 => h9) rfl dX5_run_145 ?_
          refine lv_aload_n hx hb dX5_run_148 rfl (lv_at hl 0 rfl) ?_
          refine lv_iload_n hx hb dX5_run_149 rfl (lv_at hl 3 rfl) ?_
          obtain ⟨o6, ho6, hf1⟩ := z_ib hf
          replace hf := hf1
          clear hf1
          refine z_Vi (As := [.int v3]) (rest := [.ref (a 34), .int (f26 (Int32.toNatClampNeg v3))]) (w := (wX5 cI cZ cJ cA h0 a x1 x3 x4 x5 x6 x7 x9 x10 x14 x15 x16 x19 x20 x21 x22 x23 x24 x41 x42 f0 f2 f8 f11 f12 f13 f17 f18 f25 f26 f27 f28 f29 f30 f31 f32 f33 f34 f35 f36 f37 f38 f39 f40 f43)) (w1 := (wX5 cI cZ cJ cA h0 a x1 x3 x4 x5 x6 x7 x9 x10 x14 x15 x16 x19 x20 x21 x22 x23 x24 x41 x42 f0 f2 f8 f11 f12 f13 f17 f18 f25 f26 f27 f28 f29 f30 f31 f32 f33 f34 f35 f36 f37 f38 f39 f40 f43)) ⟨hx, hb, hml, hown, hts⟩ (k_X5_actOf l dC dI cI cZ cJ cA h0 a H.size N v3 x1 x3 x4 x5 x6 x7 x9 x10 x14 x15 x16 x19 x20 x21 x22 x23 x24 x41 x42 f0 f2 f8 f11 f12 f13 f17 f18 f25 f26 f27 f28 f29 f30 f31 f32 f33 f34 f35 f36 f37 f38 f39 f40 f43 o6 ho6) (cwV 1 hts gX5_run_X5_actOf rfl rfl rfl (by decide +kernel) ⟨Nat.le_trans (Nat.le_of_ble_eq_true rfl) hRf, Nat.le_trans (Nat.le_of_ble_eq_true rfl) hRl⟩) hK hP hD hS hA hN (ci := 5) rfl rfl rfl rfl hl.1 rfl (Nat.le_of_ble_eq_true rfl) dX5_run_150 (fun H locs hP hD hS => ?_)
          have b7 := z_c1 hf
          replace hf := z_c2 hf
          refine va_iald hx hb hK hP 18 0 rfl rfl b7 dX5_run_153 ?_
          refine lv_iadd hx hb dX5_run_154 ?_
          obtain ⟨n8, hn8, hf1⟩ := z_ib hf
          replace hf := hf1
          clear hf1
          refine lv_topi (fun y9 ey9 => ?_)
          obtain rfl : n8 = y9 := (Option.some.inj hn8).symm.trans ey9.symm
          refine lv_istore (lv' := [(4, .int n8), (0, .ref h0), (1, .int v1), (2, .int v2), (3, .int v3)]) hx hb dX5_run_155 hl (by decide) rfl (fun ls hl => ?_)
          refine lv_iload hx hb dX5_run_157 (lv_at hl 0 rfl) ?_
          refine lv_iconst (v := 0) hx hb dX5_run_159 (by decide) ?_
          refine lv_aload_n hx hb dX5_run_160 rfl (lv_at hl 1 rfl) ?_
          refine va_get (D := (dC, dI)) (ci := 5) (v := .int x19) (C := RX5) (T := TX5) (N := 44) hx hb hts (fun w hw => List.mem_cons_of_mem _ (List.mem_append_right _ hw)) hown hK hP 0 rfl rfl 19 (by decide) (hts (.fieldLink RX5 159 "OldStadiumModel" "lanes" "I") (List.mem_of_getElem? (i := 1) rfl)) (fun _ h9 => h9) rfl dX5_run_161 ?_
          refine lv_iconst (v := 1) hx hb dX5_run_164 (by decide) ?_
          refine lv_isub hx hb dX5_run_165 ?_
          obtain ⟨o9, ho9, hf1⟩ := z_ib hf
          replace hf := hf1
          clear hf1
          refine z_S0 (As := [.int n8, .int 0, .int (x19 - 1)]) (rest := []) ⟨hx, hb, hml, hown, hts⟩ (k_X5_in l dC dI cI cZ cJ cA H.size N n8 0 (x19 - 1) o9 ho9) (va_cwS 3 hts gX5_run_X5_in rfl rfl rfl (by decide +kernel) ⟨Nat.le_trans (Nat.le_of_ble_eq_true rfl) hRf, Nat.le_trans (Nat.le_of_ble_eq_true rfl) hRl⟩) hK hP hS hA hN rfl hl.1 rfl (Nat.le_of_ble_eq_true rfl) dX5_run_166 (fun H locs hP hS => ?_)
          refine lv_if_eq (tgt := 180) hx hb dX5_run_169 (by decide) (fun c10 => ?_) (fun c10 => ?_)
          · replace hf := z_ip hf c10
            refine lv_iinc (v := (v3 + 1)) (lv' := [(3, .int (v3 + 1)), (4, .int n8), (0, .ref h0), (1, .int v1), (2, .int v2)]) hx hb dX5_run_180 hl (k := 4) rfl rfl (by decide) rfl (fun ls hl => ?_)
            refine lv_goto (tgt := 108) hx hb dX5_run_183 (by decide) ?_
            exact ih hf hP hD hS (lv_sub hl [2, 3, 4, 0] rfl) hexit
          · replace hf := z_im hf c10
            refine lv_aload_n hx hb dX5_run_172 rfl (lv_at hl 1 rfl) ?_
            refine va_get (D := (dC, dI)) (ci := 5) (v := .ref (a 26)) (C := RX5) (T := TX5) (N := 44) hx hb hts (fun w hw => List.mem_cons_of_mem _ (List.mem_append_right _ hw)) hown hK hP 0 rfl rfl 26 (by decide) (hts (.fieldLink RX5 45 "OldStadiumModel" "lane" "[I") (List.mem_of_getElem? (i := 6) rfl)) (fun _ h9 => h9) rfl dX5_run_173 ?_
            refine lv_iload_n hx hb dX5_run_176 rfl (lv_at hl 4 rfl) ?_
            refine lv_iload hx hb dX5_run_177 (lv_at hl 0 rfl) ?_
            refine va_iast hx hb hK hP hD hS 10 0 rfl rfl b2 dX5_run_179 (fun H locs hP hD hS => ?_)
            replace hP : va_P (dC, dI) vwCl (wX5 cI cZ cJ cA h0 a x1 x3 x4 x5 x6 x7 x9 x10 x14 x15 x16 x19 x20 x21 x22 x23 x24 x41 x42 f0 f2 f8 f11 f12 f13 f17 f18 f25 (upd f26 (Int32.toNatClampNeg v3) n8) f27 f28 f29 f30 f31 f32 f33 f34 f35 f36 f37 f38 f39 f40 f43) H := hP
            replace hD : va_D A (wX5 cI cZ cJ cA h0 a x1 x3 x4 x5 x6 x7 x9 x10 x14 x15 x16 x19 x20 x21 x22 x23 x24 x41 x42 f0 f2 f8 f11 f12 f13 f17 f18 f25 (upd f26 (Int32.toNatClampNeg v3) n8) f27 f28 f29 f30 f31 f32 f33 f34 f35 f36 f37 f38 f39 f40 f43) := hD
            refine lv_iinc (v := (v3 + 1)) (lv' := [(3, .int (v3 + 1)), (4, .int n8), (0, .ref h0), (1, .int v1), (2, .int v2)]) hx hb dX5_run_180 hl (k := 4) rfl rfl (by decide) rfl (fun ls hl => ?_)
            refine lv_goto (tgt := 108) hx hb dX5_run_183 (by decide) ?_
            exact ih hf hP hD hS (lv_sub hl [2, 3, 4, 0] rfl) hexit
        · replace hf := z_ip hf c5
          refine lv_goto (tgt := 180) hx hb dX5_run_135 (by decide) ?_
          refine lv_iinc (v := (v3 + 1)) (lv' := [(3, .int (v3 + 1)), (0, .ref h0), (1, .int v1), (2, .int v2)]) hx hb dX5_run_180 hl (k := 3) rfl rfl (by decide) rfl (fun ls hl => ?_)
          refine lv_goto (tgt := 108) hx hb dX5_run_183 (by decide) ?_
          exact ih hf hP hD hS (lv_sub hl [1, 2, 3, 0] rfl) hexit
def q_X5_run_L22 (N : Nat) (v1 : Int32) (x19 : Int32) (x20 : Int32) (x21 : Int32) (x23 : Int32) (f31 : (Nat → Int32)) (f32 : (Nat → Int32)) (f33 : (Nat → Int32)) (f34 : (Nat → Int32)) : Nat → Int32 → Int32 → Int32 → (Nat → Int32) → (Nat → Int32) → (Nat → Int32) → (Nat → Int32) → (Nat → Int32) → (Nat → Int32) → Option (Int32 × Int32 × (Nat → Int32) × (Nat → Int32) × (Nat → Int32) × (Nat → Int32) × (Nat → Int32) × (Nat → Int32))
  | 0, _, _, _, _, _, _, _, _, _ => none
  | n + 1, v2, x22, x24, f25, f26, f27, f28, f29, f30 =>
    (if v1 ≤ v2 then
     (some (x22, x24, f25, f26, f27, f28, f29, f30))
    else
     (Option.bind (q_X5_run_L39 N (x22 + 1) x23 f31 N 0 f25) (fun t2 =>
     (Option.bind (q_X5_crash N (x22 + 1) x23 t2 f26 f27 f29) (fun o3 =>
     (Option.bind (q_X5_run_L90 N x19 x20 x21 (x22 + 1) x23 f26 f31 f32 f33 N 1 x24 o3.1 f27 f28 o3.2 f30) (fun t4 =>
     (Option.bind (q_X5_run_L108 N x19 (x22 + 1) x23 t4.2.1 f31 f32 f34 N 0 f26) (fun t5 =>
     (Option.bind (q_X5_crash N (x22 + 1) x23 t4.2.1 t5 t4.2.2.1 t4.2.2.2.2.1) (fun o6 =>
     (q_X5_run_L22 N v1 x19 x20 x21 x23 f31 f32 f33 f34 n (v2 + 1) (x22 + 1) t4.1 o6.1 t5 t4.2.2.1 t4.2.2.2.1 o6.2 t4.2.2.2.2.2))))))))))))
set_option maxHeartbeats 4000000 in
set_option maxRecDepth 100000 in
theorem b_X5_run_L22 {p : Program} {l : Launch} {e : Env} {R : Room} {s : State} {m : MethodId} {args : Array Value} {below : List Frame} {meth : Method} {c : Code} {Q : State → Prop} {A : Nat → Prop} {dC : Nat → ClassId} {dI : Nat → Nat → Nat} {cI cZ cJ cA : ClassId} {h0 : Nat} {a : Nat → Nat} (N : Nat) (C0 : z_Cx p s m args c cX5_run 5 wsX5_run RX5 R 2 46 A dC dI (z_ty cI cZ cJ cA)) : ∀ (n : Nat) {v1 : Int32} {v2 : Int32} {x1 : Int32} {x3 : Int32} {x4 : Int32} {x5 : Int32} {x6 : Int32} {x7 : Int32} {x9 : Int32} {x10 : Int32} {x14 : Int32} {x15 : Int32} {x16 : Int32} {x19 : Int32} {x20 : Int32} {x21 : Int32} {x22 : Int32} {x23 : Int32} {x24 : Int32} {x41 : Int32} {x42 : Int32} {f0 : (Nat → Int32)} {f2 : (Nat → Int32)} {f8 : (Nat → Int32)} {f11 : (Nat → Int32)} {f12 : (Nat → Int32)} {f13 : (Nat → Int32)} {f17 : (Nat → Int32)} {f18 : (Nat → Int32)} {f25 : (Nat → Int32)} {f26 : (Nat → Int32)} {f27 : (Nat → Int32)} {f28 : (Nat → Int32)} {f29 : (Nat → Int32)} {f30 : (Nat → Int32)} {f31 : (Nat → Int32)} {f32 : (Nat → Int32)} {f33 : (Nat → Int32)} {f34 : (Nat → Int32)} {f35 : (Nat → Int32)} {f36 : (Nat → Int32)} {f37 : (Nat → Int32)} {f38 : (Nat → Int32)} {f39 : (Nat → Int32)} {f40 : (Nat → Int32)} {f43 : (Nat → Int32)} {o : (Int32 × Int32 × (Nat → Int32) × (Nat → Int32) × (Nat → Int32) × (Nat → Int32) × (Nat → Int32) × (Nat → Int32))} {H : Heap} {locs : List Loc} {ls : Array Slot}, q_X5_run_L22 N v1 x19 x20 x21 x23 f31 f32 f33 f34 n v2 x22 x24 f25 f26 f27 f28 f29 f30 = some o → va_P (dC, dI) vwCl (wX5 cI cZ cJ cA h0 a x1 x3 x4 x5 x6 x7 x9 x10 x14 x15 x16 x19 x20 x21 x22 x23 x24 x41 x42 f0 f2 f8 f11 f12 f13 f17 f18 f25 f26 f27 f28 f29 f30 f31 f32 f33 f34 f35 f36 f37 f38 f39 f40 f43) H → va_D A (wX5 cI cZ cJ cA h0 a x1 x3 x4 x5 x6 x7 x9 x10 x14 x15 x16 x19 x20 x21 x22 x23 x24 x41 x42 f0 f2 f8 f11 f12 f13 f17 f18 f25 f26 f27 f28 f29 f30 f31 f32 f33 f34 f35 f36 f37 f38 f39 f40 f43) → va_S A s.heap H locs → lv_has ls 5 [(0, .ref h0), (1, .int v1), (2, .int v2)] →
    (∀ (H : Heap) (locs : List Loc) (ls : Array Slot), va_P (dC, dI) vwCl (wX5 cI cZ cJ cA h0 a x1 x3 x4 x5 x6 x7 x9 x10 x14 x15 x16 x19 x20 x21 o.1 x23 o.2.1 x41 x42 f0 f2 f8 f11 f12 f13 f17 f18 o.2.2.1 o.2.2.2.1 o.2.2.2.2.1 o.2.2.2.2.2.1 o.2.2.2.2.2.2.1 o.2.2.2.2.2.2.2 f31 f32 f33 f34 f35 f36 f37 f38 f39 f40 f43) H → va_D A (wX5 cI cZ cJ cA h0 a x1 x3 x4 x5 x6 x7 x9 x10 x14 x15 x16 x19 x20 x21 o.1 x23 o.2.1 x41 x42 f0 f2 f8 f11 f12 f13 f17 f18 o.2.2.1 o.2.2.2.1 o.2.2.2.2.1 o.2.2.2.2.2.1 o.2.2.2.2.2.2.1 o.2.2.2.2.2.2.2 f31 f32 f33 f34 f35 f36 f37 f38 f39 f40 f43) → va_S A s.heap H locs → lv_has ls 5 [(0, .ref h0)] → W p l e R s m args below meth c H locs 0 0 Q (F0 m 196 ls [])) →
    W p l e R s m args below meth c H locs 0 0 Q (F0 m 22 ls []) := by
  obtain ⟨⟨hx, hb, hml, hown, hts⟩, hRf, hRl, hA, hN, hK⟩ := C0
  intro n
  induction n with
  | zero =>
    intro v1 v2 x1 x3 x4 x5 x6 x7 x9 x10 x14 x15 x16 x19 x20 x21 x22 x23 x24 x41 x42 f0 f2 f8 f11 f12 f13 f17 f18 f25 f26 f27 f28 f29 f30 f31 f32 f33 f34 f35 f36 f37 f38 f39 f40 f43 o H locs ls hf
    cases hf
  | succ n ih =>
    intro v1 v2 x1 x3 x4 x5 x6 x7 x9 x10 x14 x15 x16 x19 x20 x21 x22 x23 x24 x41 x42 f0 f2 f8 f11 f12 f13 f17 f18 f25 f26 f27 f28 f29 f30 f31 f32 f33 f34 f35 f36 f37 f38 f39 f40 f43 o H locs ls hf hP hD hS hl hexit
    rw [q_X5_run_L22] at hf
    refine lv_iload_n hx hb dX5_run_22 rfl (lv_at hl 2 rfl) ?_
    refine lv_iload_n hx hb dX5_run_23 rfl (lv_at hl 1 rfl) ?_
    refine lv_icmp_ge (tgt := 196) hx hb dX5_run_24 (by decide) (fun c1 => ?_) (fun c1 => ?_)
    · replace hf := z_ip hf c1
      obtain rfl := Option.some.inj hf
      exact hexit _ _ _ hP hD hS (lv_sub hl [0] rfl)
    · replace hf := z_im hf c1
      refine lv_aload_n hx hb dX5_run_27 rfl (lv_at hl 0 rfl) ?_
      refine lv_dup hx hb dX5_run_28 rfl ?_
      refine va_get (D := (dC, dI)) (ci := 5) (v := .int x22) (C := RX5) (T := TX5) (N := 44) hx hb hts (fun w hw => List.mem_cons_of_mem _ (List.mem_append_right _ hw)) hown hK hP 0 rfl rfl 22 (by decide) (hts (.fieldLink RX5 168 "OldStadiumModel" "tick" "I") (List.mem_of_getElem? (i := 2) rfl)) (fun _ h9 => h9) rfl dX5_run_29 ?_
      refine lv_iconst (v := 1) hx hb dX5_run_32 (by decide) ?_
      refine lv_iadd hx hb dX5_run_33 ?_
      refine va_put (D := (dC, dI)) (ci := 5) (v := .int (x22 + 1)) (ty := .int) (C := RX5) (T := TX5) (N := 44) hx hb hts (fun w hw => List.mem_cons_of_mem _ (List.mem_append_right _ hw)) tyX5 tyX5_ok nmX5 hown hK hP hD hS 0 rfl rfl 22 (by decide) (hts (.fieldLink RX5 168 "OldStadiumModel" "tick" "I") (List.mem_of_getElem? (i := 2) rfl)) (fun _ h9 => h9) rfl (by decide +kernel) rfl rfl (Nat.le_of_ble_eq_true rfl) dX5_run_34 (fun H locs hP hD hS => ?_)
      replace hP : va_P (dC, dI) vwCl (wX5 cI cZ cJ cA h0 a x1 x3 x4 x5 x6 x7 x9 x10 x14 x15 x16 x19 x20 x21 (x22 + 1) x23 x24 x41 x42 f0 f2 f8 f11 f12 f13 f17 f18 f25 f26 f27 f28 f29 f30 f31 f32 f33 f34 f35 f36 f37 f38 f39 f40 f43) H := hP
      replace hD : va_D A (wX5 cI cZ cJ cA h0 a x1 x3 x4 x5 x6 x7 x9 x10 x14 x15 x16 x19 x20 x21 (x22 + 1) x23 x24 x41 x42 f0 f2 f8 f11 f12 f13 f17 f18 f25 f26 f27 f28 f29 f30 f31 f32 f33 f34 f35 f36 f37 f38 f39 f40 f43) := hD
      refine lv_iconst (v := 0) hx hb dX5_run_37 (by decide) ?_
      refine lv_istore_n (lv' := [(3, .int 0), (0, .ref h0), (1, .int v1), (2, .int v2)]) hx hb dX5_run_38 rfl hl (by decide) rfl (fun ls hl => ?_)
      obtain ⟨t2, ht2, hf1⟩ := z_ib hf
      replace hf := hf1
      clear hf1
      refine b_X5_run_L39 N ⟨⟨hx, hb, hml, hown, hts⟩, hRf, hRl, hA, hN, hK⟩ N ht2 hP hD hS (lv_sub hl [1, 2, 3, 0] rfl) (fun H locs ls hP hD hS hl => ?_)
      refine lv_aload_n hx hb dX5_run_84 rfl (lv_at hl 0 rfl) ?_
      obtain ⟨o3, ho3, hf1⟩ := z_ib hf
      replace hf := hf1
      clear hf1
      refine z_Vv (As := []) (rest := []) (w := (wX5 cI cZ cJ cA h0 a x1 x3 x4 x5 x6 x7 x9 x10 x14 x15 x16 x19 x20 x21 (x22 + 1) x23 x24 x41 x42 f0 f2 f8 f11 f12 f13 f17 f18 t2 f26 f27 f28 f29 f30 f31 f32 f33 f34 f35 f36 f37 f38 f39 f40 f43)) (w1 := (wX5 cI cZ cJ cA h0 a x1 x3 x4 x5 x6 x7 x9 x10 x14 x15 x16 x19 x20 x21 (x22 + 1) x23 x24 x41 x42 f0 f2 f8 f11 f12 f13 f17 f18 o3.1 f26 f27 f28 o3.2 f30 f31 f32 f33 f34 f35 f36 f37 f38 f39 f40 f43)) ⟨hx, hb, hml, hown, hts⟩ (k_X5_crash l dC dI cI cZ cJ cA h0 a H.size N x1 x3 x4 x5 x6 x7 x9 x10 x14 x15 x16 x19 x20 x21 (x22 + 1) x23 x24 x41 x42 f0 f2 f8 f11 f12 f13 f17 f18 t2 f26 f27 f28 f29 f30 f31 f32 f33 f34 f35 f36 f37 f38 f39 f40 f43 o3 ho3) (cwV 0 hts gX5_run_X5_crash rfl rfl rfl (by decide +kernel) ⟨Nat.le_trans (Nat.le_of_ble_eq_true rfl) hRf, Nat.le_trans (Nat.le_of_ble_eq_true rfl) hRl⟩) hK hP hD hS hA hN (ci := 5) rfl rfl rfl rfl hl.1 rfl (Nat.le_of_ble_eq_true rfl) dX5_run_85 (fun H locs hP hD hS => ?_)
      refine lv_iconst (v := 1) hx hb dX5_run_88 (by decide) ?_
      refine lv_istore_n (lv' := [(3, .int 1), (0, .ref h0), (1, .int v1), (2, .int v2)]) hx hb dX5_run_89 rfl hl (by decide) rfl (fun ls hl => ?_)
      obtain ⟨t4, ht4, hf1⟩ := z_ib hf
      replace hf := hf1
      clear hf1
      refine b_X5_run_L90 N ⟨⟨hx, hb, hml, hown, hts⟩, hRf, hRl, hA, hN, hK⟩ N ht4 hP hD hS (lv_sub hl [1, 2, 3, 0] rfl) (fun H locs ls hP hD hS hl => ?_)
      refine lv_iconst (v := 0) hx hb dX5_run_106 (by decide) ?_
      refine lv_istore_n (lv' := [(3, .int 0), (0, .ref h0), (1, .int v1), (2, .int v2)]) hx hb dX5_run_107 rfl hl (by decide) rfl (fun ls hl => ?_)
      obtain ⟨t5, ht5, hf1⟩ := z_ib hf
      replace hf := hf1
      clear hf1
      refine b_X5_run_L108 N ⟨⟨hx, hb, hml, hown, hts⟩, hRf, hRl, hA, hN, hK⟩ N ht5 hP hD hS (lv_sub hl [1, 2, 3, 0] rfl) (fun H locs ls hP hD hS hl => ?_)
      refine lv_aload_n hx hb dX5_run_186 rfl (lv_at hl 0 rfl) ?_
      obtain ⟨o6, ho6, hf1⟩ := z_ib hf
      replace hf := hf1
      clear hf1
      refine z_Vv (As := []) (rest := []) (w := (wX5 cI cZ cJ cA h0 a x1 x3 x4 x5 x6 x7 x9 x10 x14 x15 x16 x19 x20 x21 (x22 + 1) x23 t4.1 x41 x42 f0 f2 f8 f11 f12 f13 f17 f18 t4.2.1 t5 t4.2.2.1 t4.2.2.2.1 t4.2.2.2.2.1 t4.2.2.2.2.2 f31 f32 f33 f34 f35 f36 f37 f38 f39 f40 f43)) (w1 := (wX5 cI cZ cJ cA h0 a x1 x3 x4 x5 x6 x7 x9 x10 x14 x15 x16 x19 x20 x21 (x22 + 1) x23 t4.1 x41 x42 f0 f2 f8 f11 f12 f13 f17 f18 o6.1 t5 t4.2.2.1 t4.2.2.2.1 o6.2 t4.2.2.2.2.2 f31 f32 f33 f34 f35 f36 f37 f38 f39 f40 f43)) ⟨hx, hb, hml, hown, hts⟩ (k_X5_crash l dC dI cI cZ cJ cA h0 a H.size N x1 x3 x4 x5 x6 x7 x9 x10 x14 x15 x16 x19 x20 x21 (x22 + 1) x23 t4.1 x41 x42 f0 f2 f8 f11 f12 f13 f17 f18 t4.2.1 t5 t4.2.2.1 t4.2.2.2.1 t4.2.2.2.2.1 t4.2.2.2.2.2 f31 f32 f33 f34 f35 f36 f37 f38 f39 f40 f43 o6 ho6) (cwV 0 hts gX5_run_X5_crash rfl rfl rfl (by decide +kernel) ⟨Nat.le_trans (Nat.le_of_ble_eq_true rfl) hRf, Nat.le_trans (Nat.le_of_ble_eq_true rfl) hRl⟩) hK hP hD hS hA hN (ci := 5) rfl rfl rfl rfl hl.1 rfl (Nat.le_of_ble_eq_true rfl) dX5_run_187 (fun H locs hP hD hS => ?_)
      refine lv_iinc (v := (v2 + 1)) (lv' := [(2, .int (v2 + 1)), (0, .ref h0), (1, .int v1)]) hx hb dX5_run_190 hl (k := 2) rfl rfl (by decide) rfl (fun ls hl => ?_)
      refine lv_goto (tgt := 22) hx hb dX5_run_193 (by decide) ?_
      exact ih hf hP hD hS (lv_sub hl [1, 2, 0] rfl) hexit
def q_X5_run_L200 (N : Nat) (x23 : Int32) (f25 : (Nat → Int32)) : Nat → Int32 → Int32 → Option Int32
  | 0, _, _ => none
  | n + 1, v2, v3 =>
    (if x23 ≤ v3 then
     (some v2)
    else
     (if z_in v3 8 then
     (if (f25 (Int32.toNatClampNeg v3)) = 1 then
      (q_X5_run_L200 N x23 f25 n (v2 + 1) (v3 + 1))
     else
      (q_X5_run_L200 N x23 f25 n v2 (v3 + 1)))
     else none))
set_option maxHeartbeats 4000000 in
set_option maxRecDepth 100000 in
theorem b_X5_run_L200 {p : Program} {l : Launch} {e : Env} {R : Room} {s : State} {m : MethodId} {args : Array Value} {below : List Frame} {meth : Method} {c : Code} {Q : State → Prop} {A : Nat → Prop} {dC : Nat → ClassId} {dI : Nat → Nat → Nat} {cI cZ cJ cA : ClassId} {h0 : Nat} {a : Nat → Nat} (N : Nat) (C0 : z_Cx p s m args c cX5_run 5 wsX5_run RX5 R 2 46 A dC dI (z_ty cI cZ cJ cA)) : ∀ (n : Nat) {v2 : Int32} {v3 : Int32} {x1 : Int32} {x3 : Int32} {x4 : Int32} {x5 : Int32} {x6 : Int32} {x7 : Int32} {x9 : Int32} {x10 : Int32} {x14 : Int32} {x15 : Int32} {x16 : Int32} {x19 : Int32} {x20 : Int32} {x21 : Int32} {x22 : Int32} {x23 : Int32} {x24 : Int32} {x41 : Int32} {x42 : Int32} {f0 : (Nat → Int32)} {f2 : (Nat → Int32)} {f8 : (Nat → Int32)} {f11 : (Nat → Int32)} {f12 : (Nat → Int32)} {f13 : (Nat → Int32)} {f17 : (Nat → Int32)} {f18 : (Nat → Int32)} {f25 : (Nat → Int32)} {f26 : (Nat → Int32)} {f27 : (Nat → Int32)} {f28 : (Nat → Int32)} {f29 : (Nat → Int32)} {f30 : (Nat → Int32)} {f31 : (Nat → Int32)} {f32 : (Nat → Int32)} {f33 : (Nat → Int32)} {f34 : (Nat → Int32)} {f35 : (Nat → Int32)} {f36 : (Nat → Int32)} {f37 : (Nat → Int32)} {f38 : (Nat → Int32)} {f39 : (Nat → Int32)} {f40 : (Nat → Int32)} {f43 : (Nat → Int32)} {o : Int32} {H : Heap} {locs : List Loc} {ls : Array Slot}, q_X5_run_L200 N x23 f25 n v2 v3 = some o → va_P (dC, dI) vwCl (wX5 cI cZ cJ cA h0 a x1 x3 x4 x5 x6 x7 x9 x10 x14 x15 x16 x19 x20 x21 x22 x23 x24 x41 x42 f0 f2 f8 f11 f12 f13 f17 f18 f25 f26 f27 f28 f29 f30 f31 f32 f33 f34 f35 f36 f37 f38 f39 f40 f43) H → va_D A (wX5 cI cZ cJ cA h0 a x1 x3 x4 x5 x6 x7 x9 x10 x14 x15 x16 x19 x20 x21 x22 x23 x24 x41 x42 f0 f2 f8 f11 f12 f13 f17 f18 f25 f26 f27 f28 f29 f30 f31 f32 f33 f34 f35 f36 f37 f38 f39 f40 f43) → va_S A s.heap H locs → lv_has ls 5 [(0, .ref h0), (2, .int v2), (3, .int v3)] →
    (∀ (H : Heap) (locs : List Loc) (ls : Array Slot), va_P (dC, dI) vwCl (wX5 cI cZ cJ cA h0 a x1 x3 x4 x5 x6 x7 x9 x10 x14 x15 x16 x19 x20 x21 x22 x23 x24 x41 x42 f0 f2 f8 f11 f12 f13 f17 f18 f25 f26 f27 f28 f29 f30 f31 f32 f33 f34 f35 f36 f37 f38 f39 f40 f43) H → va_D A (wX5 cI cZ cJ cA h0 a x1 x3 x4 x5 x6 x7 x9 x10 x14 x15 x16 x19 x20 x21 x22 x23 x24 x41 x42 f0 f2 f8 f11 f12 f13 f17 f18 f25 f26 f27 f28 f29 f30 f31 f32 f33 f34 f35 f36 f37 f38 f39 f40 f43) → va_S A s.heap H locs → lv_has ls 5 [(2, .int o)] → W p l e R s m args below meth c H locs 0 0 Q (F0 m 227 ls [])) →
    W p l e R s m args below meth c H locs 0 0 Q (F0 m 200 ls []) := by
  obtain ⟨⟨hx, hb, hml, hown, hts⟩, hRf, hRl, hA, hN, hK⟩ := C0
  intro n
  induction n with
  | zero =>
    intro v2 v3 x1 x3 x4 x5 x6 x7 x9 x10 x14 x15 x16 x19 x20 x21 x22 x23 x24 x41 x42 f0 f2 f8 f11 f12 f13 f17 f18 f25 f26 f27 f28 f29 f30 f31 f32 f33 f34 f35 f36 f37 f38 f39 f40 f43 o H locs ls hf
    cases hf
  | succ n ih =>
    intro v2 v3 x1 x3 x4 x5 x6 x7 x9 x10 x14 x15 x16 x19 x20 x21 x22 x23 x24 x41 x42 f0 f2 f8 f11 f12 f13 f17 f18 f25 f26 f27 f28 f29 f30 f31 f32 f33 f34 f35 f36 f37 f38 f39 f40 f43 o H locs ls hf hP hD hS hl hexit
    rw [q_X5_run_L200] at hf
    refine lv_iload_n hx hb dX5_run_200 rfl (lv_at hl 2 rfl) ?_
    refine lv_aload_n hx hb dX5_run_201 rfl (lv_at hl 0 rfl) ?_
    refine va_get (D := (dC, dI)) (ci := 5) (v := .int x23) (C := RX5) (T := TX5) (N := 44) hx hb hts (fun w hw => List.mem_cons_of_mem _ (List.mem_append_right _ hw)) hown hK hP 0 rfl rfl 23 (by decide) (hts (.fieldLink RX5 171 "OldStadiumModel" "chariots" "I") (List.mem_of_getElem? (i := 3) rfl)) (fun _ h9 => h9) rfl dX5_run_202 ?_
    refine lv_icmp_ge (tgt := 227) hx hb dX5_run_205 (by decide) (fun c1 => ?_) (fun c1 => ?_)
    · replace hf := z_ip hf c1
      obtain rfl := Option.some.inj hf
      exact hexit _ _ _ hP hD hS (lv_sub hl [1] rfl)
    · replace hf := z_im hf c1
      refine lv_aload_n hx hb dX5_run_208 rfl (lv_at hl 0 rfl) ?_
      refine va_get (D := (dC, dI)) (ci := 5) (v := .ref (a 25)) (C := RX5) (T := TX5) (N := 44) hx hb hts (fun w hw => List.mem_cons_of_mem _ (List.mem_append_right _ hw)) hown hK hP 0 rfl rfl 25 (by decide) (hts (.fieldLink RX5 42 "OldStadiumModel" "state" "[I") (List.mem_of_getElem? (i := 4) rfl)) (fun _ h9 => h9) rfl dX5_run_209 ?_
      refine lv_iload_n hx hb dX5_run_212 rfl (lv_at hl 2 rfl) ?_
      have b2 := z_c1 hf
      replace hf := z_c2 hf
      refine va_iald hx hb hK hP 9 0 rfl rfl b2 dX5_run_213 ?_
      refine lv_iconst (v := 1) hx hb dX5_run_214 (by decide) ?_
      refine lv_icmp_ne (tgt := 221) hx hb dX5_run_215 (by decide) (fun c3 => ?_) (fun c3 => ?_)
      · replace hf := z_im hf c3
        refine lv_iinc (v := (v3 + 1)) (lv' := [(3, .int (v3 + 1)), (0, .ref h0), (2, .int v2)]) hx hb dX5_run_221 hl (k := 2) rfl rfl (by decide) rfl (fun ls hl => ?_)
        refine lv_goto (tgt := 200) hx hb dX5_run_224 (by decide) ?_
        exact ih hf hP hD hS (lv_sub hl [1, 2, 0] rfl) hexit
      · replace hf := z_ip hf c3
        refine lv_iinc (v := (v2 + 1)) (lv' := [(2, .int (v2 + 1)), (0, .ref h0), (3, .int v3)]) hx hb dX5_run_218 hl (k := 1) rfl rfl (by decide) rfl (fun ls hl => ?_)
        refine lv_iinc (v := (v3 + 1)) (lv' := [(3, .int (v3 + 1)), (2, .int (v2 + 1)), (0, .ref h0)]) hx hb dX5_run_221 hl (k := 2) rfl rfl (by decide) rfl (fun ls hl => ?_)
        refine lv_goto (tgt := 200) hx hb dX5_run_224 (by decide) ?_
        exact ih hf hP hD hS (lv_sub hl [2, 1, 0] rfl) hexit
def q_X5_run (N : Nat) (v1 : Int32) (x19 : Int32) (x20 : Int32) (x21 : Int32) (x22 : Int32) (x23 : Int32) (x24 : Int32) (f25 : (Nat → Int32)) (f26 : (Nat → Int32)) (f27 : (Nat → Int32)) (f28 : (Nat → Int32)) (f29 : (Nat → Int32)) (f30 : (Nat → Int32)) (f31 : (Nat → Int32)) (f32 : (Nat → Int32)) (f33 : (Nat → Int32)) (f34 : (Nat → Int32)) : Option (Int32 × Int32 × Int32 × (Nat → Int32) × (Nat → Int32) × (Nat → Int32) × (Nat → Int32) × (Nat → Int32) × (Nat → Int32)) :=
  (if x19 = 0 then
   (some ((-1), x22, x24, f25, f26, f27, f28, f29, f30))
  else
   (Option.bind (q_X5_in N v1 0 200) (fun o2 =>
   (if o2 = 0 then
    (some ((-1), x22, x24, f25, f26, f27, f28, f29, f30))
   else
    (Option.bind (q_X5_run_L22 N v1 x19 x20 x21 x23 f31 f32 f33 f34 N 0 x22 x24 f25 f26 f27 f28 f29 f30) (fun t4 =>
    (Option.bind (q_X5_run_L200 N x23 t4.2.2.1 N 0 0) (fun t5 =>
    (some (t5, t4.1, t4.2.1, t4.2.2.1, t4.2.2.2.1, t4.2.2.2.2.1, t4.2.2.2.2.2.1, t4.2.2.2.2.2.2.1, t4.2.2.2.2.2.2.2))))))))))
set_option maxHeartbeats 4000000 in
set_option maxRecDepth 100000 in
theorem b_X5_run {p : Program} {l : Launch} {e : Env} {R : Room} {s : State} {m : MethodId} {args : Array Value} {below : List Frame} {meth : Method} {c : Code} {Q : State → Prop} {A : Nat → Prop} {dC : Nat → ClassId} {dI : Nat → Nat → Nat} {cI cZ cJ cA : ClassId} {h0 : Nat} {a : Nat → Nat} (N : Nat) (C0 : z_Cx p s m args c cX5_run 5 wsX5_run RX5 R 2 46 A dC dI (z_ty cI cZ cJ cA)) {v1 : Int32} {x1 : Int32} {x3 : Int32} {x4 : Int32} {x5 : Int32} {x6 : Int32} {x7 : Int32} {x9 : Int32} {x10 : Int32} {x14 : Int32} {x15 : Int32} {x16 : Int32} {x19 : Int32} {x20 : Int32} {x21 : Int32} {x22 : Int32} {x23 : Int32} {x24 : Int32} {x41 : Int32} {x42 : Int32} {f0 : (Nat → Int32)} {f2 : (Nat → Int32)} {f8 : (Nat → Int32)} {f11 : (Nat → Int32)} {f12 : (Nat → Int32)} {f13 : (Nat → Int32)} {f17 : (Nat → Int32)} {f18 : (Nat → Int32)} {f25 : (Nat → Int32)} {f26 : (Nat → Int32)} {f27 : (Nat → Int32)} {f28 : (Nat → Int32)} {f29 : (Nat → Int32)} {f30 : (Nat → Int32)} {f31 : (Nat → Int32)} {f32 : (Nat → Int32)} {f33 : (Nat → Int32)} {f34 : (Nat → Int32)} {f35 : (Nat → Int32)} {f36 : (Nat → Int32)} {f37 : (Nat → Int32)} {f38 : (Nat → Int32)} {f39 : (Nat → Int32)} {f40 : (Nat → Int32)} {f43 : (Nat → Int32)} {o : (Int32 × Int32 × Int32 × (Nat → Int32) × (Nat → Int32) × (Nat → Int32) × (Nat → Int32) × (Nat → Int32) × (Nat → Int32))} {H : Heap} {locs : List Loc} {ls : Array Slot} (hf : q_X5_run N v1 x19 x20 x21 x22 x23 x24 f25 f26 f27 f28 f29 f30 f31 f32 f33 f34 = some o) (hP : va_P (dC, dI) vwCl (wX5 cI cZ cJ cA h0 a x1 x3 x4 x5 x6 x7 x9 x10 x14 x15 x16 x19 x20 x21 x22 x23 x24 x41 x42 f0 f2 f8 f11 f12 f13 f17 f18 f25 f26 f27 f28 f29 f30 f31 f32 f33 f34 f35 f36 f37 f38 f39 f40 f43) H) (hD : va_D A (wX5 cI cZ cJ cA h0 a x1 x3 x4 x5 x6 x7 x9 x10 x14 x15 x16 x19 x20 x21 x22 x23 x24 x41 x42 f0 f2 f8 f11 f12 f13 f17 f18 f25 f26 f27 f28 f29 f30 f31 f32 f33 f34 f35 f36 f37 f38 f39 f40 f43)) (hS : va_S A s.heap H locs) (hl : lv_has ls 5 [(0, .ref h0), (1, .int v1)])
    (hret : ∀ (pc : Nat) (H : Heap) (locs : List Loc) (ls : Array Slot) (r : Int32), decode cX5_run pc = .ok (.ireturn, 1) → r = o.1 → va_P (dC, dI) vwCl (wX5 cI cZ cJ cA h0 a x1 x3 x4 x5 x6 x7 x9 x10 x14 x15 x16 x19 x20 x21 o.2.1 x23 o.2.2.1 x41 x42 f0 f2 f8 f11 f12 f13 f17 f18 o.2.2.2.1 o.2.2.2.2.1 o.2.2.2.2.2.1 o.2.2.2.2.2.2.1 o.2.2.2.2.2.2.2.1 o.2.2.2.2.2.2.2.2 f31 f32 f33 f34 f35 f36 f37 f38 f39 f40 f43) H → va_D A (wX5 cI cZ cJ cA h0 a x1 x3 x4 x5 x6 x7 x9 x10 x14 x15 x16 x19 x20 x21 o.2.1 x23 o.2.2.1 x41 x42 f0 f2 f8 f11 f12 f13 f17 f18 o.2.2.2.1 o.2.2.2.2.1 o.2.2.2.2.2.1 o.2.2.2.2.2.2.1 o.2.2.2.2.2.2.2.1 o.2.2.2.2.2.2.2.2 f31 f32 f33 f34 f35 f36 f37 f38 f39 f40 f43) → va_S A s.heap H locs → W p l e R s m args below meth c H locs 0 0 Q (F0 m pc ls [.int r])) :
    W p l e R s m args below meth c H locs 0 0 Q (F0 m 0 ls []) := by
  obtain ⟨⟨hx, hb, hml, hown, hts⟩, hRf, hRl, hA, hN, hK⟩ := C0
  unfold q_X5_run at hf
  refine lv_aload_n hx hb dX5_run_0 rfl (lv_at hl 0 rfl) ?_
  refine va_get (D := (dC, dI)) (ci := 5) (v := .int x19) (C := RX5) (T := TX5) (N := 44) hx hb hts (fun w hw => List.mem_cons_of_mem _ (List.mem_append_right _ hw)) hown hK hP 0 rfl rfl 19 (by decide) (hts (.fieldLink RX5 159 "OldStadiumModel" "lanes" "I") (List.mem_of_getElem? (i := 1) rfl)) (fun _ h9 => h9) rfl dX5_run_1 ?_
  refine lv_if_eq (tgt := 18) hx hb dX5_run_4 (by decide) (fun c1 => ?_) (fun c1 => ?_)
  · replace hf := z_ip hf c1
    refine lv_iconst (v := (-1)) hx hb dX5_run_18 (by decide) ?_
    obtain rfl := Option.some.inj hf
    exact hret _ _ _ _ _ dX5_run_19 rfl hP hD hS
  · replace hf := z_im hf c1
    refine lv_iload_n hx hb dX5_run_7 rfl (lv_at hl 1 rfl) ?_
    refine lv_iconst (v := 0) hx hb dX5_run_8 (by decide) ?_
    refine lv_sipush (v := 200) hx hb dX5_run_9 (by decide) ?_
    obtain ⟨o2, ho2, hf1⟩ := z_ib hf
    replace hf := hf1
    clear hf1
    refine z_S0 (As := [.int v1, .int 0, .int 200]) (rest := []) ⟨hx, hb, hml, hown, hts⟩ (k_X5_in l dC dI cI cZ cJ cA H.size N v1 0 200 o2 ho2) (va_cwS 3 hts gX5_run_X5_in rfl rfl rfl (by decide +kernel) ⟨Nat.le_trans (Nat.le_of_ble_eq_true rfl) hRf, Nat.le_trans (Nat.le_of_ble_eq_true rfl) hRl⟩) hK hP hS hA hN rfl hl.1 rfl (Nat.le_of_ble_eq_true rfl) dX5_run_12 (fun H locs hP hS => ?_)
    refine lv_if_ne (tgt := 20) hx hb dX5_run_15 (by decide) (fun c3 => ?_) (fun c3 => ?_)
    · replace hf := z_im hf c3
      refine lv_iconst (v := 0) hx hb dX5_run_20 (by decide) ?_
      refine lv_istore_n (lv' := [(2, .int 0), (0, .ref h0), (1, .int v1)]) hx hb dX5_run_21 rfl hl (by decide) rfl (fun ls hl => ?_)
      obtain ⟨t4, ht4, hf1⟩ := z_ib hf
      replace hf := hf1
      clear hf1
      refine b_X5_run_L22 N ⟨⟨hx, hb, hml, hown, hts⟩, hRf, hRl, hA, hN, hK⟩ N ht4 hP hD hS (lv_sub hl [1, 2, 0] rfl) (fun H locs ls hP hD hS hl => ?_)
      refine lv_iconst (v := 0) hx hb dX5_run_196 (by decide) ?_
      refine lv_istore_n (lv' := [(2, .int 0), (0, .ref h0)]) hx hb dX5_run_197 rfl hl (by decide) rfl (fun ls hl => ?_)
      refine lv_iconst (v := 0) hx hb dX5_run_198 (by decide) ?_
      refine lv_istore_n (lv' := [(3, .int 0), (2, .int 0), (0, .ref h0)]) hx hb dX5_run_199 rfl hl (by decide) rfl (fun ls hl => ?_)
      obtain ⟨t5, ht5, hf1⟩ := z_ib hf
      replace hf := hf1
      clear hf1
      refine b_X5_run_L200 N ⟨⟨hx, hb, hml, hown, hts⟩, hRf, hRl, hA, hN, hK⟩ N ht5 hP hD hS (lv_sub hl [2, 1, 0] rfl) (fun H locs ls hP hD hS hl => ?_)
      refine lv_iload_n hx hb dX5_run_227 rfl (lv_at hl 0 rfl) ?_
      obtain rfl := Option.some.inj hf
      exact hret _ _ _ _ _ dX5_run_228 rfl hP hD hS
    · replace hf := z_ip hf c3
      refine lv_iconst (v := (-1)) hx hb dX5_run_18 (by decide) ?_
      obtain rfl := Option.some.inj hf
      exact hret _ _ _ _ _ dX5_run_19 rfl hP hD hS
set_option maxHeartbeats 4000000 in
set_option maxRecDepth 100000 in
theorem k_X5_run (l : Launch) (dC : Nat → ClassId) (dI : Nat → Nat → Nat) (cI cZ cJ cA : ClassId) (h0 : Nat) (a : Nat → Nat) (sz : Nat) (N : Nat) (v1 : Int32) (x1 : Int32) (x3 : Int32) (x4 : Int32) (x5 : Int32) (x6 : Int32) (x7 : Int32) (x9 : Int32) (x10 : Int32) (x14 : Int32) (x15 : Int32) (x16 : Int32) (x19 : Int32) (x20 : Int32) (x21 : Int32) (x22 : Int32) (x23 : Int32) (x24 : Int32) (x41 : Int32) (x42 : Int32) (f0 : (Nat → Int32)) (f2 : (Nat → Int32)) (f8 : (Nat → Int32)) (f11 : (Nat → Int32)) (f12 : (Nat → Int32)) (f13 : (Nat → Int32)) (f17 : (Nat → Int32)) (f18 : (Nat → Int32)) (f25 : (Nat → Int32)) (f26 : (Nat → Int32)) (f27 : (Nat → Int32)) (f28 : (Nat → Int32)) (f29 : (Nat → Int32)) (f30 : (Nat → Int32)) (f31 : (Nat → Int32)) (f32 : (Nat → Int32)) (f33 : (Nat → Int32)) (f34 : (Nat → Int32)) (f35 : (Nat → Int32)) (f36 : (Nat → Int32)) (f37 : (Nat → Int32)) (f38 : (Nat → Int32)) (f39 : (Nat → Int32)) (f40 : (Nat → Int32)) (f43 : (Nat → Int32)) (o : (Int32 × Int32 × Int32 × (Nat → Int32) × (Nat → Int32) × (Nat → Int32) × (Nat → Int32) × (Nat → Int32) × (Nat → Int32))) (hf : q_X5_run N v1 x19 x20 x21 x22 x23 x24 f25 f26 f27 f28 f29 f30 f31 f32 f33 f34 = some o) : Met l yX5_run wsX5_run ({ frames := 2, cells := 0, slots := 0, locals := 46 } : Room) (z_Pre dC dI (z_ty cI cZ cJ cA) [.ref h0, .int v1] sz (wX5 cI cZ cJ cA h0 a x1 x3 x4 x5 x6 x7 x9 x10 x14 x15 x16 x19 x20 x21 x22 x23 x24 x41 x42 f0 f2 f8 f11 f12 f13 f17 f18 f25 f26 f27 f28 f29 f30 f31 f32 f33 f34 f35 f36 f37 f38 f39 f40 f43)) (z_Pi dC dI o.1 (wX5 cI cZ cJ cA h0 a x1 x3 x4 x5 x6 x7 x9 x10 x14 x15 x16 x19 x20 x21 o.2.1 x23 o.2.2.1 x41 x42 f0 f2 f8 f11 f12 f13 f17 f18 o.2.2.2.1 o.2.2.2.2.1 o.2.2.2.2.2.1 o.2.2.2.2.2.2.1 o.2.2.2.2.2.2.2.1 o.2.2.2.2.2.2.2.2 f31 f32 f33 f34 f35 f36 f37 f38 f39 f40 f43) sz (wX5 cI cZ cJ cA h0 a x1 x3 x4 x5 x6 x7 x9 x10 x14 x15 x16 x19 x20 x21 x22 x23 x24 x41 x42 f0 f2 f8 f11 f12 f13 f17 f18 f25 f26 f27 f28 f29 f30 f31 f32 f33 f34 f35 f36 f37 f38 f39 f40 f43)) 0 0 (va_A (wX5 cI cZ cJ cA h0 a x1 x3 x4 x5 x6 x7 x9 x10 x14 x15 x16 x19 x20 x21 x22 x23 x24 x41 x42 f0 f2 f8 f11 f12 f13 f17 f18 f25 f26 f27 f28 f29 f30 f31 f32 f33 f34 f35 f36 f37 f38 f39 f40 f43) sz) := by
  refine Met.ofW (cc := cX5_run) (maxL := 5) (ret := (some .int)) (by decide) rfl ?_
  intro p e s m args below meth c s₁ B hml hv
  obtain ⟨rfl, hsz, hP, hK, hD0, hN⟩ := hv
  subst hsz
  have hl := lv_entry ([.ref h0, .int v1]) (n := 5) (Nat.le_of_ble_eq_true rfl)
  rw [lg_entry_eq]
  refine b_X5_run N ⟨⟨B.exec, B.bytes, hml, findClass_of_methodNamed B.named, atoms_spec (ws := wsX5_run) B.pre⟩, Nat.le_refl _, Nat.le_refl _, fun q h => Or.inr h, hN, hK⟩ hf hP hD0.self va_S.rf hl (fun pc H locs ls r hd hr hP hD hS => ?_)
  subst hr
  exact W.iret B.exec B.bytes B.returns (fun t ht hW => ⟨⟨_, (), rfl, rfl, by rw [ht]; exact hP, hD⟩, hS.F ht⟩) hS.2.2 hd
def q_X5_at (N : Nat) (v1 : Int32) (v2 : Int32) (x23 : Int32) (f25 : (Nat → Int32)) (f26 : (Nat → Int32)) (f27 : (Nat → Int32)) (f28 : (Nat → Int32)) (f29 : (Nat → Int32)) (f30 : (Nat → Int32)) : Option Int32 :=
  (Option.bind (q_X5_in N v1 0 (x23 - 1)) (fun o1 =>
  (if o1 = 0 then
   (some (-1))
  else
   (if v2 = 0 then
    (if z_in v1 8 then
    (some (f25 (Int32.toNatClampNeg v1)))
    else none)
   else
   (if v2 = 1 then
    (if z_in v1 8 then
    (some (f26 (Int32.toNatClampNeg v1)))
    else none)
   else
   (if v2 = 2 then
    (if z_in v1 8 then
    (some (f27 (Int32.toNatClampNeg v1)))
    else none)
   else
   (if v2 = 3 then
    (if z_in v1 8 then
    (some (f28 (Int32.toNatClampNeg v1)))
    else none)
   else
   (if v2 = 4 then
    (if z_in v1 8 then
    (some (f29 (Int32.toNatClampNeg v1)))
    else none)
   else
   (if v2 = 5 then
    (if z_in v1 8 then
    (some (f30 (Int32.toNatClampNeg v1)))
    else none)
   else
   (some (-1)))))))))))
set_option maxHeartbeats 4000000 in
set_option maxRecDepth 100000 in
theorem b_X5_at {p : Program} {l : Launch} {e : Env} {R : Room} {s : State} {m : MethodId} {args : Array Value} {below : List Frame} {meth : Method} {c : Code} {Q : State → Prop} {A : Nat → Prop} {dC : Nat → ClassId} {dI : Nat → Nat → Nat} {cI cZ cJ cA : ClassId} {h0 : Nat} {a : Nat → Nat} (N : Nat) (C0 : z_Cx p s m args c cX5_at 3 wsX5_at RX5 R 1 22 A dC dI (z_ty cI cZ cJ cA)) {v1 : Int32} {v2 : Int32} {x1 : Int32} {x3 : Int32} {x4 : Int32} {x5 : Int32} {x6 : Int32} {x7 : Int32} {x9 : Int32} {x10 : Int32} {x14 : Int32} {x15 : Int32} {x16 : Int32} {x19 : Int32} {x20 : Int32} {x21 : Int32} {x22 : Int32} {x23 : Int32} {x24 : Int32} {x41 : Int32} {x42 : Int32} {f0 : (Nat → Int32)} {f2 : (Nat → Int32)} {f8 : (Nat → Int32)} {f11 : (Nat → Int32)} {f12 : (Nat → Int32)} {f13 : (Nat → Int32)} {f17 : (Nat → Int32)} {f18 : (Nat → Int32)} {f25 : (Nat → Int32)} {f26 : (Nat → Int32)} {f27 : (Nat → Int32)} {f28 : (Nat → Int32)} {f29 : (Nat → Int32)} {f30 : (Nat → Int32)} {f31 : (Nat → Int32)} {f32 : (Nat → Int32)} {f33 : (Nat → Int32)} {f34 : (Nat → Int32)} {f35 : (Nat → Int32)} {f36 : (Nat → Int32)} {f37 : (Nat → Int32)} {f38 : (Nat → Int32)} {f39 : (Nat → Int32)} {f40 : (Nat → Int32)} {f43 : (Nat → Int32)} {o : Int32} {H : Heap} {locs : List Loc} {ls : Array Slot} (hf : q_X5_at N v1 v2 x23 f25 f26 f27 f28 f29 f30 = some o) (hP : va_P (dC, dI) vwCl (wX5 cI cZ cJ cA h0 a x1 x3 x4 x5 x6 x7 x9 x10 x14 x15 x16 x19 x20 x21 x22 x23 x24 x41 x42 f0 f2 f8 f11 f12 f13 f17 f18 f25 f26 f27 f28 f29 f30 f31 f32 f33 f34 f35 f36 f37 f38 f39 f40 f43) H) (hD : va_D A (wX5 cI cZ cJ cA h0 a x1 x3 x4 x5 x6 x7 x9 x10 x14 x15 x16 x19 x20 x21 x22 x23 x24 x41 x42 f0 f2 f8 f11 f12 f13 f17 f18 f25 f26 f27 f28 f29 f30 f31 f32 f33 f34 f35 f36 f37 f38 f39 f40 f43)) (hS : va_S A s.heap H locs) (hl : lv_has ls 3 [(0, .ref h0), (1, .int v1), (2, .int v2)])
    (hret : ∀ (pc : Nat) (H : Heap) (locs : List Loc) (ls : Array Slot) (r : Int32), decode cX5_at pc = .ok (.ireturn, 1) → r = o → va_P (dC, dI) vwCl (wX5 cI cZ cJ cA h0 a x1 x3 x4 x5 x6 x7 x9 x10 x14 x15 x16 x19 x20 x21 x22 x23 x24 x41 x42 f0 f2 f8 f11 f12 f13 f17 f18 f25 f26 f27 f28 f29 f30 f31 f32 f33 f34 f35 f36 f37 f38 f39 f40 f43) H → va_D A (wX5 cI cZ cJ cA h0 a x1 x3 x4 x5 x6 x7 x9 x10 x14 x15 x16 x19 x20 x21 x22 x23 x24 x41 x42 f0 f2 f8 f11 f12 f13 f17 f18 f25 f26 f27 f28 f29 f30 f31 f32 f33 f34 f35 f36 f37 f38 f39 f40 f43) → va_S A s.heap H locs → W p l e R s m args below meth c H locs 0 0 Q (F0 m pc ls [.int r])) :
    W p l e R s m args below meth c H locs 0 0 Q (F0 m 0 ls []) := by
  obtain ⟨⟨hx, hb, hml, hown, hts⟩, hRf, hRl, hA, hN, hK⟩ := C0
  unfold q_X5_at at hf
  refine lv_iload_n hx hb dX5_at_0 rfl (lv_at hl 1 rfl) ?_
  refine lv_iconst (v := 0) hx hb dX5_at_1 (by decide) ?_
  refine lv_aload_n hx hb dX5_at_2 rfl (lv_at hl 0 rfl) ?_
  refine va_get (D := (dC, dI)) (ci := 5) (v := .int x23) (C := RX5) (T := TX5) (N := 44) hx hb hts (fun w hw => List.mem_cons_of_mem _ (List.mem_append_right _ hw)) hown hK hP 0 rfl rfl 23 (by decide) (hts (.fieldLink RX5 171 "OldStadiumModel" "chariots" "I") (List.mem_of_getElem? (i := 1) rfl)) (fun _ h9 => h9) rfl dX5_at_3 ?_
  refine lv_iconst (v := 1) hx hb dX5_at_6 (by decide) ?_
  refine lv_isub hx hb dX5_at_7 ?_
  obtain ⟨o1, ho1, hf1⟩ := z_ib hf
  replace hf := hf1
  clear hf1
  refine z_S0 (As := [.int v1, .int 0, .int (x23 - 1)]) (rest := []) ⟨hx, hb, hml, hown, hts⟩ (k_X5_in l dC dI cI cZ cJ cA H.size N v1 0 (x23 - 1) o1 ho1) (va_cwS 3 hts gX5_at_X5_in rfl rfl rfl (by decide +kernel) ⟨Nat.le_trans (Nat.le_of_ble_eq_true rfl) hRf, Nat.le_trans (Nat.le_of_ble_eq_true rfl) hRl⟩) hK hP hS hA hN rfl hl.1 rfl (Nat.le_of_ble_eq_true rfl) dX5_at_8 (fun H locs hP hS => ?_)
  refine lv_if_ne (tgt := 16) hx hb dX5_at_11 (by decide) (fun c2 => ?_) (fun c2 => ?_)
  · replace hf := z_im hf c2
    refine lv_iload_n hx hb dX5_at_16 rfl (lv_at hl 2 rfl) ?_
    by_cases c3 : v2 = 0
    · replace hf := z_ip hf c3
      refine lv_tableIn (tgt := 56) hx hb dX5_at_17 (by rw [z_tin (k := 0) c3 (by omega)]; decide) (by rw [z_tin (k := 0) c3 (by omega)]; decide) (by rw [z_tin (k := 0) c3 (by omega)]; rfl) (by decide) ?_
      refine lv_aload_n hx hb dX5_at_56 rfl (lv_at hl 0 rfl) ?_
      refine va_get (D := (dC, dI)) (ci := 5) (v := .ref (a 25)) (C := RX5) (T := TX5) (N := 44) hx hb hts (fun w hw => List.mem_cons_of_mem _ (List.mem_append_right _ hw)) hown hK hP 0 rfl rfl 25 (by decide) (hts (.fieldLink RX5 42 "OldStadiumModel" "state" "[I") (List.mem_of_getElem? (i := 2) rfl)) (fun _ h9 => h9) rfl dX5_at_57 ?_
      refine lv_iload_n hx hb dX5_at_60 rfl (lv_at hl 1 rfl) ?_
      have b9 := z_c1 hf
      replace hf := z_c2 hf
      refine va_iald hx hb hK hP 9 0 rfl rfl b9 dX5_at_61 ?_
      obtain rfl := Option.some.inj hf
      exact hret _ _ _ _ _ dX5_at_62 rfl hP hD hS
    replace hf := z_im hf c3
    by_cases c4 : v2 = 1
    · replace hf := z_ip hf c4
      refine lv_tableIn (tgt := 63) hx hb dX5_at_17 (by rw [z_tin (k := 1) c4 (by omega)]; decide) (by rw [z_tin (k := 1) c4 (by omega)]; decide) (by rw [z_tin (k := 1) c4 (by omega)]; rfl) (by decide) ?_
      refine lv_aload_n hx hb dX5_at_63 rfl (lv_at hl 0 rfl) ?_
      refine va_get (D := (dC, dI)) (ci := 5) (v := .ref (a 26)) (C := RX5) (T := TX5) (N := 44) hx hb hts (fun w hw => List.mem_cons_of_mem _ (List.mem_append_right _ hw)) hown hK hP 0 rfl rfl 26 (by decide) (hts (.fieldLink RX5 45 "OldStadiumModel" "lane" "[I") (List.mem_of_getElem? (i := 3) rfl)) (fun _ h9 => h9) rfl dX5_at_64 ?_
      refine lv_iload_n hx hb dX5_at_67 rfl (lv_at hl 1 rfl) ?_
      have b10 := z_c1 hf
      replace hf := z_c2 hf
      refine va_iald hx hb hK hP 10 0 rfl rfl b10 dX5_at_68 ?_
      obtain rfl := Option.some.inj hf
      exact hret _ _ _ _ _ dX5_at_69 rfl hP hD hS
    replace hf := z_im hf c4
    by_cases c5 : v2 = 2
    · replace hf := z_ip hf c5
      refine lv_tableIn (tgt := 70) hx hb dX5_at_17 (by rw [z_tin (k := 2) c5 (by omega)]; decide) (by rw [z_tin (k := 2) c5 (by omega)]; decide) (by rw [z_tin (k := 2) c5 (by omega)]; rfl) (by decide) ?_
      refine lv_aload_n hx hb dX5_at_70 rfl (lv_at hl 0 rfl) ?_
      refine va_get (D := (dC, dI)) (ci := 5) (v := .ref (a 27)) (C := RX5) (T := TX5) (N := 44) hx hb hts (fun w hw => List.mem_cons_of_mem _ (List.mem_append_right _ hw)) hown hK hP 0 rfl rfl 27 (by decide) (hts (.fieldLink RX5 48 "OldStadiumModel" "cell" "[I") (List.mem_of_getElem? (i := 4) rfl)) (fun _ h9 => h9) rfl dX5_at_71 ?_
      refine lv_iload_n hx hb dX5_at_74 rfl (lv_at hl 1 rfl) ?_
      have b11 := z_c1 hf
      replace hf := z_c2 hf
      refine va_iald hx hb hK hP 11 0 rfl rfl b11 dX5_at_75 ?_
      obtain rfl := Option.some.inj hf
      exact hret _ _ _ _ _ dX5_at_76 rfl hP hD hS
    replace hf := z_im hf c5
    by_cases c6 : v2 = 3
    · replace hf := z_ip hf c6
      refine lv_tableIn (tgt := 77) hx hb dX5_at_17 (by rw [z_tin (k := 3) c6 (by omega)]; decide) (by rw [z_tin (k := 3) c6 (by omega)]; decide) (by rw [z_tin (k := 3) c6 (by omega)]; rfl) (by decide) ?_
      refine lv_aload_n hx hb dX5_at_77 rfl (lv_at hl 0 rfl) ?_
      refine va_get (D := (dC, dI)) (ci := 5) (v := .ref (a 28)) (C := RX5) (T := TX5) (N := 44) hx hb hts (fun w hw => List.mem_cons_of_mem _ (List.mem_append_right _ hw)) hown hK hP 0 rfl rfl 28 (by decide) (hts (.fieldLink RX5 51 "OldStadiumModel" "done" "[I") (List.mem_of_getElem? (i := 5) rfl)) (fun _ h9 => h9) rfl dX5_at_78 ?_
      refine lv_iload_n hx hb dX5_at_81 rfl (lv_at hl 1 rfl) ?_
      have b12 := z_c1 hf
      replace hf := z_c2 hf
      refine va_iald hx hb hK hP 12 0 rfl rfl b12 dX5_at_82 ?_
      obtain rfl := Option.some.inj hf
      exact hret _ _ _ _ _ dX5_at_83 rfl hP hD hS
    replace hf := z_im hf c6
    by_cases c7 : v2 = 4
    · replace hf := z_ip hf c7
      refine lv_tableIn (tgt := 84) hx hb dX5_at_17 (by rw [z_tin (k := 4) c7 (by omega)]; decide) (by rw [z_tin (k := 4) c7 (by omega)]; decide) (by rw [z_tin (k := 4) c7 (by omega)]; rfl) (by decide) ?_
      refine lv_aload_n hx hb dX5_at_84 rfl (lv_at hl 0 rfl) ?_
      refine va_get (D := (dC, dI)) (ci := 5) (v := .ref (a 29)) (C := RX5) (T := TX5) (N := 44) hx hb hts (fun w hw => List.mem_cons_of_mem _ (List.mem_append_right _ hw)) hown hK hP 0 rfl rfl 29 (by decide) (hts (.fieldLink RX5 54 "OldStadiumModel" "when" "[I") (List.mem_of_getElem? (i := 6) rfl)) (fun _ h9 => h9) rfl dX5_at_85 ?_
      refine lv_iload_n hx hb dX5_at_88 rfl (lv_at hl 1 rfl) ?_
      have b13 := z_c1 hf
      replace hf := z_c2 hf
      refine va_iald hx hb hK hP 13 0 rfl rfl b13 dX5_at_89 ?_
      obtain rfl := Option.some.inj hf
      exact hret _ _ _ _ _ dX5_at_90 rfl hP hD hS
    replace hf := z_im hf c7
    by_cases c8 : v2 = 5
    · replace hf := z_ip hf c8
      refine lv_tableIn (tgt := 91) hx hb dX5_at_17 (by rw [z_tin (k := 5) c8 (by omega)]; decide) (by rw [z_tin (k := 5) c8 (by omega)]; decide) (by rw [z_tin (k := 5) c8 (by omega)]; rfl) (by decide) ?_
      refine lv_aload_n hx hb dX5_at_91 rfl (lv_at hl 0 rfl) ?_
      refine va_get (D := (dC, dI)) (ci := 5) (v := .ref (a 30)) (C := RX5) (T := TX5) (N := 44) hx hb hts (fun w hw => List.mem_cons_of_mem _ (List.mem_append_right _ hw)) hown hK hP 0 rfl rfl 30 (by decide) (hts (.fieldLink RX5 57 "OldStadiumModel" "place" "[I") (List.mem_of_getElem? (i := 7) rfl)) (fun _ h9 => h9) rfl dX5_at_92 ?_
      refine lv_iload_n hx hb dX5_at_95 rfl (lv_at hl 1 rfl) ?_
      have b14 := z_c1 hf
      replace hf := z_c2 hf
      refine va_iald hx hb hK hP 14 0 rfl rfl b14 dX5_at_96 ?_
      obtain rfl := Option.some.inj hf
      exact hret _ _ _ _ _ dX5_at_97 rfl hP hD hS
    replace hf := z_im hf c8
    refine lv_tableOut (tgt := 98) hx hb dX5_at_17 (z_tout (n := 5) ⟨⟨⟨⟨⟨⟨trivial, c3⟩, c4⟩, c5⟩, c6⟩, c7⟩, c8⟩ (by omega)) (by decide) ?_
    refine lv_iconst (v := (-1)) hx hb dX5_at_98 (by decide) ?_
    obtain rfl := Option.some.inj hf
    exact hret _ _ _ _ _ dX5_at_99 rfl hP hD hS
  · replace hf := z_ip hf c2
    refine lv_iconst (v := (-1)) hx hb dX5_at_14 (by decide) ?_
    obtain rfl := Option.some.inj hf
    exact hret _ _ _ _ _ dX5_at_15 rfl hP hD hS
set_option maxHeartbeats 4000000 in
set_option maxRecDepth 100000 in
theorem k_X5_at (l : Launch) (dC : Nat → ClassId) (dI : Nat → Nat → Nat) (cI cZ cJ cA : ClassId) (h0 : Nat) (a : Nat → Nat) (sz : Nat) (N : Nat) (v1 : Int32) (v2 : Int32) (x1 : Int32) (x3 : Int32) (x4 : Int32) (x5 : Int32) (x6 : Int32) (x7 : Int32) (x9 : Int32) (x10 : Int32) (x14 : Int32) (x15 : Int32) (x16 : Int32) (x19 : Int32) (x20 : Int32) (x21 : Int32) (x22 : Int32) (x23 : Int32) (x24 : Int32) (x41 : Int32) (x42 : Int32) (f0 : (Nat → Int32)) (f2 : (Nat → Int32)) (f8 : (Nat → Int32)) (f11 : (Nat → Int32)) (f12 : (Nat → Int32)) (f13 : (Nat → Int32)) (f17 : (Nat → Int32)) (f18 : (Nat → Int32)) (f25 : (Nat → Int32)) (f26 : (Nat → Int32)) (f27 : (Nat → Int32)) (f28 : (Nat → Int32)) (f29 : (Nat → Int32)) (f30 : (Nat → Int32)) (f31 : (Nat → Int32)) (f32 : (Nat → Int32)) (f33 : (Nat → Int32)) (f34 : (Nat → Int32)) (f35 : (Nat → Int32)) (f36 : (Nat → Int32)) (f37 : (Nat → Int32)) (f38 : (Nat → Int32)) (f39 : (Nat → Int32)) (f40 : (Nat → Int32)) (f43 : (Nat → Int32)) (o : Int32) (hf : q_X5_at N v1 v2 x23 f25 f26 f27 f28 f29 f30 = some o) : Met l yX5_at wsX5_at ({ frames := 1, cells := 0, slots := 0, locals := 22 } : Room) (z_Pre dC dI (z_ty cI cZ cJ cA) [.ref h0, .int v1, .int v2] sz (wX5 cI cZ cJ cA h0 a x1 x3 x4 x5 x6 x7 x9 x10 x14 x15 x16 x19 x20 x21 x22 x23 x24 x41 x42 f0 f2 f8 f11 f12 f13 f17 f18 f25 f26 f27 f28 f29 f30 f31 f32 f33 f34 f35 f36 f37 f38 f39 f40 f43)) (z_Pi dC dI o (wX5 cI cZ cJ cA h0 a x1 x3 x4 x5 x6 x7 x9 x10 x14 x15 x16 x19 x20 x21 x22 x23 x24 x41 x42 f0 f2 f8 f11 f12 f13 f17 f18 f25 f26 f27 f28 f29 f30 f31 f32 f33 f34 f35 f36 f37 f38 f39 f40 f43) sz (wX5 cI cZ cJ cA h0 a x1 x3 x4 x5 x6 x7 x9 x10 x14 x15 x16 x19 x20 x21 x22 x23 x24 x41 x42 f0 f2 f8 f11 f12 f13 f17 f18 f25 f26 f27 f28 f29 f30 f31 f32 f33 f34 f35 f36 f37 f38 f39 f40 f43)) 0 0 (va_A (wX5 cI cZ cJ cA h0 a x1 x3 x4 x5 x6 x7 x9 x10 x14 x15 x16 x19 x20 x21 x22 x23 x24 x41 x42 f0 f2 f8 f11 f12 f13 f17 f18 f25 f26 f27 f28 f29 f30 f31 f32 f33 f34 f35 f36 f37 f38 f39 f40 f43) sz) := by
  refine Met.ofW (cc := cX5_at) (maxL := 3) (ret := (some .int)) (by decide) rfl ?_
  intro p e s m args below meth c s₁ B hml hv
  obtain ⟨rfl, hsz, hP, hK, hD0, hN⟩ := hv
  subst hsz
  have hl := lv_entry ([.ref h0, .int v1, .int v2]) (n := 3) (Nat.le_of_ble_eq_true rfl)
  rw [lg_entry_eq]
  refine b_X5_at N ⟨⟨B.exec, B.bytes, hml, findClass_of_methodNamed B.named, atoms_spec (ws := wsX5_at) B.pre⟩, Nat.le_refl _, Nat.le_refl _, fun q h => Or.inr h, hN, hK⟩ hf hP hD0.self va_S.rf hl (fun pc H locs ls r hd hr hP hD hS => ?_)
  subst hr
  exact W.iret B.exec B.bytes B.returns (fun t ht hW => ⟨⟨_, (), rfl, rfl, by rw [ht]; exact hP, hD⟩, hS.F ht⟩) hS.2.2 hd

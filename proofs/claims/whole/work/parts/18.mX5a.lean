def q_X5_runner (N : Nat) (v1 : Int32) (x1 : Int32) (f0 : (Nat → Int32)) : Option (Int32 × Int32 × (Nat → Int32)) :=
  (Option.bind (q_X5_in N v1 0 9) (fun o1 =>
  (if o1 = 0 then
   (some ((-1), x1, f0))
  else
   (if x1 = 24 then
    (some ((-1), x1, f0))
   else
    (if z_in x1 24 then
    (some (((x1 + 1) - 1), (x1 + 1), (upd f0 (Int32.toNatClampNeg x1) v1)))
    else none)))))
set_option maxHeartbeats 4000000 in
set_option maxRecDepth 100000 in
theorem b_X5_runner {p : Program} {l : Launch} {e : Env} {R : Room} {s : State} {m : MethodId} {args : Array Value} {below : List Frame} {meth : Method} {c : Code} {Q : State → Prop} {A : Nat → Prop} {dC : Nat → ClassId} {dI : Nat → Nat → Nat} {cI cZ cJ cA : ClassId} {h0 : Nat} {a : Nat → Nat} (N : Nat) (C0 : z_Cx p s m args c cX5_runner 2 wsX5_runner RX5 R 1 22 A dC dI (z_ty cI cZ cJ cA)) {v1 : Int32} {x1 : Int32} {x3 : Int32} {x4 : Int32} {x5 : Int32} {x6 : Int32} {x7 : Int32} {x9 : Int32} {x10 : Int32} {x14 : Int32} {x15 : Int32} {x16 : Int32} {x19 : Int32} {x20 : Int32} {x21 : Int32} {x22 : Int32} {x23 : Int32} {x24 : Int32} {x41 : Int32} {x42 : Int32} {f0 : (Nat → Int32)} {f2 : (Nat → Int32)} {f8 : (Nat → Int32)} {f11 : (Nat → Int32)} {f12 : (Nat → Int32)} {f13 : (Nat → Int32)} {f17 : (Nat → Int32)} {f18 : (Nat → Int32)} {f25 : (Nat → Int32)} {f26 : (Nat → Int32)} {f27 : (Nat → Int32)} {f28 : (Nat → Int32)} {f29 : (Nat → Int32)} {f30 : (Nat → Int32)} {f31 : (Nat → Int32)} {f32 : (Nat → Int32)} {f33 : (Nat → Int32)} {f34 : (Nat → Int32)} {f35 : (Nat → Int32)} {f36 : (Nat → Int32)} {f37 : (Nat → Int32)} {f38 : (Nat → Int32)} {f39 : (Nat → Int32)} {f40 : (Nat → Int32)} {f43 : (Nat → Int32)} {o : (Int32 × Int32 × (Nat → Int32))} {H : Heap} {locs : List Loc} {ls : Array Slot} (hf : q_X5_runner N v1 x1 f0 = some o) (hP : va_P (dC, dI) vwCl (wX5 cI cZ cJ cA h0 a x1 x3 x4 x5 x6 x7 x9 x10 x14 x15 x16 x19 x20 x21 x22 x23 x24 x41 x42 f0 f2 f8 f11 f12 f13 f17 f18 f25 f26 f27 f28 f29 f30 f31 f32 f33 f34 f35 f36 f37 f38 f39 f40 f43) H) (hD : va_D A (wX5 cI cZ cJ cA h0 a x1 x3 x4 x5 x6 x7 x9 x10 x14 x15 x16 x19 x20 x21 x22 x23 x24 x41 x42 f0 f2 f8 f11 f12 f13 f17 f18 f25 f26 f27 f28 f29 f30 f31 f32 f33 f34 f35 f36 f37 f38 f39 f40 f43)) (hS : va_S A s.heap H locs) (hl : lv_has ls 2 [(0, .ref h0), (1, .int v1)])
    (hret : ∀ (pc : Nat) (H : Heap) (locs : List Loc) (ls : Array Slot) (r : Int32), decode cX5_runner pc = .ok (.ireturn, 1) → r = o.1 → va_P (dC, dI) vwCl (wX5 cI cZ cJ cA h0 a o.2.1 x3 x4 x5 x6 x7 x9 x10 x14 x15 x16 x19 x20 x21 x22 x23 x24 x41 x42 o.2.2 f2 f8 f11 f12 f13 f17 f18 f25 f26 f27 f28 f29 f30 f31 f32 f33 f34 f35 f36 f37 f38 f39 f40 f43) H → va_D A (wX5 cI cZ cJ cA h0 a o.2.1 x3 x4 x5 x6 x7 x9 x10 x14 x15 x16 x19 x20 x21 x22 x23 x24 x41 x42 o.2.2 f2 f8 f11 f12 f13 f17 f18 f25 f26 f27 f28 f29 f30 f31 f32 f33 f34 f35 f36 f37 f38 f39 f40 f43) → va_S A s.heap H locs → W p l e R s m args below meth c H locs 0 0 Q (F0 m pc ls [.int r])) :
    W p l e R s m args below meth c H locs 0 0 Q (F0 m 0 ls []) := by
  obtain ⟨⟨hx, hb, hml, hown, hts⟩, hRf, hRl, hA, hN, hK⟩ := C0
  unfold q_X5_runner at hf
  refine lv_iload_n hx hb dX5_runner_0 rfl (lv_at hl 1 rfl) ?_
  refine lv_iconst (v := 0) hx hb dX5_runner_1 (by decide) ?_
  refine lv_bipush (v := 9) hx hb dX5_runner_2 (by decide) ?_
  obtain ⟨o1, ho1, hf1⟩ := z_ib hf
  replace hf := hf1
  clear hf1
  refine z_S0 (As := [.int v1, .int 0, .int 9]) (rest := []) ⟨hx, hb, hml, hown, hts⟩ (k_X5_in l dC dI cI cZ cJ cA H.size N v1 0 9 o1 ho1) (va_cwS 3 hts gX5_runner_X5_in rfl rfl rfl (by decide +kernel) ⟨Nat.le_trans (Nat.le_of_ble_eq_true rfl) hRf, Nat.le_trans (Nat.le_of_ble_eq_true rfl) hRl⟩) hK hP hS hA hN rfl hl.1 rfl (Nat.le_of_ble_eq_true rfl) dX5_runner_4 (fun H locs hP hS => ?_)
  refine lv_if_eq (tgt := 19) hx hb dX5_runner_7 (by decide) (fun c2 => ?_) (fun c2 => ?_)
  · replace hf := z_ip hf c2
    refine lv_iconst (v := (-1)) hx hb dX5_runner_19 (by decide) ?_
    obtain rfl := Option.some.inj hf
    exact hret _ _ _ _ _ dX5_runner_20 rfl hP hD hS
  · replace hf := z_im hf c2
    refine lv_aload_n hx hb dX5_runner_10 rfl (lv_at hl 0 rfl) ?_
    refine va_get (D := (dC, dI)) (ci := 5) (v := .int x1) (C := RX5) (T := TX5) (N := 44) hx hb hts (fun w hw => List.mem_cons_of_mem _ (List.mem_append_right _ hw)) hown hK hP 0 rfl rfl 1 (by decide) (hts (.fieldLink RX5 100 "OldStadiumModel" "runners" "I") (List.mem_of_getElem? (i := 1) rfl)) (fun _ h9 => h9) rfl dX5_runner_11 ?_
    refine lv_bipush (v := 24) hx hb dX5_runner_14 (by decide) ?_
    refine lv_icmp_ne (tgt := 21) hx hb dX5_runner_16 (by decide) (fun c3 => ?_) (fun c3 => ?_)
    · replace hf := z_im hf c3
      refine lv_aload_n hx hb dX5_runner_21 rfl (lv_at hl 0 rfl) ?_
      refine va_get (D := (dC, dI)) (ci := 5) (v := .ref (a 0)) (C := RX5) (T := TX5) (N := 44) hx hb hts (fun w hw => List.mem_cons_of_mem _ (List.mem_append_right _ hw)) hown hK hP 0 rfl rfl 0 (by decide) (hts (.fieldLink RX5 9 "OldStadiumModel" "town" "[I") (List.mem_of_getElem? (i := 2) rfl)) (fun _ h9 => h9) rfl dX5_runner_22 ?_
      refine lv_aload_n hx hb dX5_runner_25 rfl (lv_at hl 0 rfl) ?_
      refine va_get (D := (dC, dI)) (ci := 5) (v := .int x1) (C := RX5) (T := TX5) (N := 44) hx hb hts (fun w hw => List.mem_cons_of_mem _ (List.mem_append_right _ hw)) hown hK hP 0 rfl rfl 1 (by decide) (hts (.fieldLink RX5 100 "OldStadiumModel" "runners" "I") (List.mem_of_getElem? (i := 1) rfl)) (fun _ h9 => h9) rfl dX5_runner_26 ?_
      refine lv_iload_n hx hb dX5_runner_29 rfl (lv_at hl 1 rfl) ?_
      have b4 := z_c1 hf
      replace hf := z_c2 hf
      refine va_iast hx hb hK hP hD hS 1 0 rfl rfl b4 dX5_runner_30 (fun H locs hP hD hS => ?_)
      replace hP : va_P (dC, dI) vwCl (wX5 cI cZ cJ cA h0 a x1 x3 x4 x5 x6 x7 x9 x10 x14 x15 x16 x19 x20 x21 x22 x23 x24 x41 x42 (upd f0 (Int32.toNatClampNeg x1) v1) f2 f8 f11 f12 f13 f17 f18 f25 f26 f27 f28 f29 f30 f31 f32 f33 f34 f35 f36 f37 f38 f39 f40 f43) H := hP
      replace hD : va_D A (wX5 cI cZ cJ cA h0 a x1 x3 x4 x5 x6 x7 x9 x10 x14 x15 x16 x19 x20 x21 x22 x23 x24 x41 x42 (upd f0 (Int32.toNatClampNeg x1) v1) f2 f8 f11 f12 f13 f17 f18 f25 f26 f27 f28 f29 f30 f31 f32 f33 f34 f35 f36 f37 f38 f39 f40 f43) := hD
      refine lv_aload_n hx hb dX5_runner_31 rfl (lv_at hl 0 rfl) ?_
      refine lv_dup hx hb dX5_runner_32 rfl ?_
      refine va_get (D := (dC, dI)) (ci := 5) (v := .int x1) (C := RX5) (T := TX5) (N := 44) hx hb hts (fun w hw => List.mem_cons_of_mem _ (List.mem_append_right _ hw)) hown hK hP 0 rfl rfl 1 (by decide) (hts (.fieldLink RX5 100 "OldStadiumModel" "runners" "I") (List.mem_of_getElem? (i := 1) rfl)) (fun _ h9 => h9) rfl dX5_runner_33 ?_
      refine lv_iconst (v := 1) hx hb dX5_runner_36 (by decide) ?_
      refine lv_iadd hx hb dX5_runner_37 ?_
      refine va_put (D := (dC, dI)) (ci := 5) (v := .int (x1 + 1)) (ty := .int) (C := RX5) (T := TX5) (N := 44) hx hb hts (fun w hw => List.mem_cons_of_mem _ (List.mem_append_right _ hw)) tyX5 tyX5_ok nmX5 hown hK hP hD hS 0 rfl rfl 1 (by decide) (hts (.fieldLink RX5 100 "OldStadiumModel" "runners" "I") (List.mem_of_getElem? (i := 1) rfl)) (fun _ h9 => h9) rfl (by decide +kernel) rfl rfl (Nat.le_of_ble_eq_true rfl) dX5_runner_38 (fun H locs hP hD hS => ?_)
      replace hP : va_P (dC, dI) vwCl (wX5 cI cZ cJ cA h0 a (x1 + 1) x3 x4 x5 x6 x7 x9 x10 x14 x15 x16 x19 x20 x21 x22 x23 x24 x41 x42 (upd f0 (Int32.toNatClampNeg x1) v1) f2 f8 f11 f12 f13 f17 f18 f25 f26 f27 f28 f29 f30 f31 f32 f33 f34 f35 f36 f37 f38 f39 f40 f43) H := hP
      replace hD : va_D A (wX5 cI cZ cJ cA h0 a (x1 + 1) x3 x4 x5 x6 x7 x9 x10 x14 x15 x16 x19 x20 x21 x22 x23 x24 x41 x42 (upd f0 (Int32.toNatClampNeg x1) v1) f2 f8 f11 f12 f13 f17 f18 f25 f26 f27 f28 f29 f30 f31 f32 f33 f34 f35 f36 f37 f38 f39 f40 f43) := hD
      refine lv_aload_n hx hb dX5_runner_41 rfl (lv_at hl 0 rfl) ?_
      refine va_get (D := (dC, dI)) (ci := 5) (v := .int (x1 + 1)) (C := RX5) (T := TX5) (N := 44) hx hb hts (fun w hw => List.mem_cons_of_mem _ (List.mem_append_right _ hw)) hown hK hP 0 rfl rfl 1 (by decide) (hts (.fieldLink RX5 100 "OldStadiumModel" "runners" "I") (List.mem_of_getElem? (i := 1) rfl)) (fun _ h9 => h9) rfl dX5_runner_42 ?_
      refine lv_iconst (v := 1) hx hb dX5_runner_45 (by decide) ?_
      refine lv_isub hx hb dX5_runner_46 ?_
      obtain rfl := Option.some.inj hf
      exact hret _ _ _ _ _ dX5_runner_47 rfl hP hD hS
    · replace hf := z_ip hf c3
      refine lv_iconst (v := (-1)) hx hb dX5_runner_19 (by decide) ?_
      obtain rfl := Option.some.inj hf
      exact hret _ _ _ _ _ dX5_runner_20 rfl hP hD hS
set_option maxHeartbeats 4000000 in
set_option maxRecDepth 100000 in
theorem k_X5_runner (l : Launch) (dC : Nat → ClassId) (dI : Nat → Nat → Nat) (cI cZ cJ cA : ClassId) (h0 : Nat) (a : Nat → Nat) (sz : Nat) (N : Nat) (v1 : Int32) (x1 : Int32) (x3 : Int32) (x4 : Int32) (x5 : Int32) (x6 : Int32) (x7 : Int32) (x9 : Int32) (x10 : Int32) (x14 : Int32) (x15 : Int32) (x16 : Int32) (x19 : Int32) (x20 : Int32) (x21 : Int32) (x22 : Int32) (x23 : Int32) (x24 : Int32) (x41 : Int32) (x42 : Int32) (f0 : (Nat → Int32)) (f2 : (Nat → Int32)) (f8 : (Nat → Int32)) (f11 : (Nat → Int32)) (f12 : (Nat → Int32)) (f13 : (Nat → Int32)) (f17 : (Nat → Int32)) (f18 : (Nat → Int32)) (f25 : (Nat → Int32)) (f26 : (Nat → Int32)) (f27 : (Nat → Int32)) (f28 : (Nat → Int32)) (f29 : (Nat → Int32)) (f30 : (Nat → Int32)) (f31 : (Nat → Int32)) (f32 : (Nat → Int32)) (f33 : (Nat → Int32)) (f34 : (Nat → Int32)) (f35 : (Nat → Int32)) (f36 : (Nat → Int32)) (f37 : (Nat → Int32)) (f38 : (Nat → Int32)) (f39 : (Nat → Int32)) (f40 : (Nat → Int32)) (f43 : (Nat → Int32)) (o : (Int32 × Int32 × (Nat → Int32))) (hf : q_X5_runner N v1 x1 f0 = some o) : Met l yX5_runner wsX5_runner ({ frames := 1, cells := 0, slots := 0, locals := 22 } : Room) (z_Pre dC dI (z_ty cI cZ cJ cA) [.ref h0, .int v1] sz (wX5 cI cZ cJ cA h0 a x1 x3 x4 x5 x6 x7 x9 x10 x14 x15 x16 x19 x20 x21 x22 x23 x24 x41 x42 f0 f2 f8 f11 f12 f13 f17 f18 f25 f26 f27 f28 f29 f30 f31 f32 f33 f34 f35 f36 f37 f38 f39 f40 f43)) (z_Pi dC dI o.1 (wX5 cI cZ cJ cA h0 a o.2.1 x3 x4 x5 x6 x7 x9 x10 x14 x15 x16 x19 x20 x21 x22 x23 x24 x41 x42 o.2.2 f2 f8 f11 f12 f13 f17 f18 f25 f26 f27 f28 f29 f30 f31 f32 f33 f34 f35 f36 f37 f38 f39 f40 f43) sz (wX5 cI cZ cJ cA h0 a x1 x3 x4 x5 x6 x7 x9 x10 x14 x15 x16 x19 x20 x21 x22 x23 x24 x41 x42 f0 f2 f8 f11 f12 f13 f17 f18 f25 f26 f27 f28 f29 f30 f31 f32 f33 f34 f35 f36 f37 f38 f39 f40 f43)) 0 0 (va_A (wX5 cI cZ cJ cA h0 a x1 x3 x4 x5 x6 x7 x9 x10 x14 x15 x16 x19 x20 x21 x22 x23 x24 x41 x42 f0 f2 f8 f11 f12 f13 f17 f18 f25 f26 f27 f28 f29 f30 f31 f32 f33 f34 f35 f36 f37 f38 f39 f40 f43) sz) := by
  refine Met.ofW (cc := cX5_runner) (maxL := 2) (ret := (some .int)) (by decide) rfl ?_
  intro p e s m args below meth c s₁ B hml hv
  obtain ⟨rfl, hsz, hP, hK, hD0, hN⟩ := hv
  subst hsz
  have hl := lv_entry ([.ref h0, .int v1]) (n := 2) (Nat.le_of_ble_eq_true rfl)
  rw [lg_entry_eq]
  refine b_X5_runner N ⟨⟨B.exec, B.bytes, hml, findClass_of_methodNamed B.named, atoms_spec (ws := wsX5_runner) B.pre⟩, Nat.le_refl _, Nat.le_refl _, fun q h => Or.inr h, hN, hK⟩ hf hP hD0.self va_S.rf hl (fun pc H locs ls r hd hr hP hD hS => ?_)
  subst hr
  exact W.iret B.exec B.bytes B.returns (fun t ht hW => ⟨⟨_, (), rfl, rfl, by rw [ht]; exact hP, hD⟩, hS.F ht⟩) hS.2.2 hd
def q_X5_judge (N : Nat) (v1 : Int32) (x3 : Int32) (f2 : (Nat → Int32)) : Option (Int32 × Int32 × (Nat → Int32)) :=
  (Option.bind (q_X5_in N v1 0 9) (fun o1 =>
  (if o1 = 0 then
   (some ((-1), x3, f2))
  else
   (if x3 = 9 then
    (some ((-1), x3, f2))
   else
    (if z_in x3 9 then
    (some (((x3 + 1) - 1), (x3 + 1), (upd f2 (Int32.toNatClampNeg x3) v1)))
    else none)))))
set_option maxHeartbeats 4000000 in
set_option maxRecDepth 100000 in
theorem b_X5_judge {p : Program} {l : Launch} {e : Env} {R : Room} {s : State} {m : MethodId} {args : Array Value} {below : List Frame} {meth : Method} {c : Code} {Q : State → Prop} {A : Nat → Prop} {dC : Nat → ClassId} {dI : Nat → Nat → Nat} {cI cZ cJ cA : ClassId} {h0 : Nat} {a : Nat → Nat} (N : Nat) (C0 : z_Cx p s m args c cX5_judge 2 wsX5_judge RX5 R 1 22 A dC dI (z_ty cI cZ cJ cA)) {v1 : Int32} {x1 : Int32} {x3 : Int32} {x4 : Int32} {x5 : Int32} {x6 : Int32} {x7 : Int32} {x9 : Int32} {x10 : Int32} {x14 : Int32} {x15 : Int32} {x16 : Int32} {x19 : Int32} {x20 : Int32} {x21 : Int32} {x22 : Int32} {x23 : Int32} {x24 : Int32} {x41 : Int32} {x42 : Int32} {f0 : (Nat → Int32)} {f2 : (Nat → Int32)} {f8 : (Nat → Int32)} {f11 : (Nat → Int32)} {f12 : (Nat → Int32)} {f13 : (Nat → Int32)} {f17 : (Nat → Int32)} {f18 : (Nat → Int32)} {f25 : (Nat → Int32)} {f26 : (Nat → Int32)} {f27 : (Nat → Int32)} {f28 : (Nat → Int32)} {f29 : (Nat → Int32)} {f30 : (Nat → Int32)} {f31 : (Nat → Int32)} {f32 : (Nat → Int32)} {f33 : (Nat → Int32)} {f34 : (Nat → Int32)} {f35 : (Nat → Int32)} {f36 : (Nat → Int32)} {f37 : (Nat → Int32)} {f38 : (Nat → Int32)} {f39 : (Nat → Int32)} {f40 : (Nat → Int32)} {f43 : (Nat → Int32)} {o : (Int32 × Int32 × (Nat → Int32))} {H : Heap} {locs : List Loc} {ls : Array Slot} (hf : q_X5_judge N v1 x3 f2 = some o) (hP : va_P (dC, dI) vwCl (wX5 cI cZ cJ cA h0 a x1 x3 x4 x5 x6 x7 x9 x10 x14 x15 x16 x19 x20 x21 x22 x23 x24 x41 x42 f0 f2 f8 f11 f12 f13 f17 f18 f25 f26 f27 f28 f29 f30 f31 f32 f33 f34 f35 f36 f37 f38 f39 f40 f43) H) (hD : va_D A (wX5 cI cZ cJ cA h0 a x1 x3 x4 x5 x6 x7 x9 x10 x14 x15 x16 x19 x20 x21 x22 x23 x24 x41 x42 f0 f2 f8 f11 f12 f13 f17 f18 f25 f26 f27 f28 f29 f30 f31 f32 f33 f34 f35 f36 f37 f38 f39 f40 f43)) (hS : va_S A s.heap H locs) (hl : lv_has ls 2 [(0, .ref h0), (1, .int v1)])
    (hret : ∀ (pc : Nat) (H : Heap) (locs : List Loc) (ls : Array Slot) (r : Int32), decode cX5_judge pc = .ok (.ireturn, 1) → r = o.1 → va_P (dC, dI) vwCl (wX5 cI cZ cJ cA h0 a x1 o.2.1 x4 x5 x6 x7 x9 x10 x14 x15 x16 x19 x20 x21 x22 x23 x24 x41 x42 f0 o.2.2 f8 f11 f12 f13 f17 f18 f25 f26 f27 f28 f29 f30 f31 f32 f33 f34 f35 f36 f37 f38 f39 f40 f43) H → va_D A (wX5 cI cZ cJ cA h0 a x1 o.2.1 x4 x5 x6 x7 x9 x10 x14 x15 x16 x19 x20 x21 x22 x23 x24 x41 x42 f0 o.2.2 f8 f11 f12 f13 f17 f18 f25 f26 f27 f28 f29 f30 f31 f32 f33 f34 f35 f36 f37 f38 f39 f40 f43) → va_S A s.heap H locs → W p l e R s m args below meth c H locs 0 0 Q (F0 m pc ls [.int r])) :
    W p l e R s m args below meth c H locs 0 0 Q (F0 m 0 ls []) := by
  obtain ⟨⟨hx, hb, hml, hown, hts⟩, hRf, hRl, hA, hN, hK⟩ := C0
  unfold q_X5_judge at hf
  refine lv_iload_n hx hb dX5_judge_0 rfl (lv_at hl 1 rfl) ?_
  refine lv_iconst (v := 0) hx hb dX5_judge_1 (by decide) ?_
  refine lv_bipush (v := 9) hx hb dX5_judge_2 (by decide) ?_
  obtain ⟨o1, ho1, hf1⟩ := z_ib hf
  replace hf := hf1
  clear hf1
  refine z_S0 (As := [.int v1, .int 0, .int 9]) (rest := []) ⟨hx, hb, hml, hown, hts⟩ (k_X5_in l dC dI cI cZ cJ cA H.size N v1 0 9 o1 ho1) (va_cwS 3 hts gX5_judge_X5_in rfl rfl rfl (by decide +kernel) ⟨Nat.le_trans (Nat.le_of_ble_eq_true rfl) hRf, Nat.le_trans (Nat.le_of_ble_eq_true rfl) hRl⟩) hK hP hS hA hN rfl hl.1 rfl (Nat.le_of_ble_eq_true rfl) dX5_judge_4 (fun H locs hP hS => ?_)
  refine lv_if_eq (tgt := 19) hx hb dX5_judge_7 (by decide) (fun c2 => ?_) (fun c2 => ?_)
  · replace hf := z_ip hf c2
    refine lv_iconst (v := (-1)) hx hb dX5_judge_19 (by decide) ?_
    obtain rfl := Option.some.inj hf
    exact hret _ _ _ _ _ dX5_judge_20 rfl hP hD hS
  · replace hf := z_im hf c2
    refine lv_aload_n hx hb dX5_judge_10 rfl (lv_at hl 0 rfl) ?_
    refine va_get (D := (dC, dI)) (ci := 5) (v := .int x3) (C := RX5) (T := TX5) (N := 44) hx hb hts (fun w hw => List.mem_cons_of_mem _ (List.mem_append_right _ hw)) hown hK hP 0 rfl rfl 3 (by decide) (hts (.fieldLink RX5 103 "OldStadiumModel" "judges" "I") (List.mem_of_getElem? (i := 1) rfl)) (fun _ h9 => h9) rfl dX5_judge_11 ?_
    refine lv_bipush (v := 9) hx hb dX5_judge_14 (by decide) ?_
    refine lv_icmp_ne (tgt := 21) hx hb dX5_judge_16 (by decide) (fun c3 => ?_) (fun c3 => ?_)
    · replace hf := z_im hf c3
      refine lv_aload_n hx hb dX5_judge_21 rfl (lv_at hl 0 rfl) ?_
      refine va_get (D := (dC, dI)) (ci := 5) (v := .ref (a 2)) (C := RX5) (T := TX5) (N := 44) hx hb hts (fun w hw => List.mem_cons_of_mem _ (List.mem_append_right _ hw)) hown hK hP 0 rfl rfl 2 (by decide) (hts (.fieldLink RX5 13 "OldStadiumModel" "judgeTown" "[I") (List.mem_of_getElem? (i := 2) rfl)) (fun _ h9 => h9) rfl dX5_judge_22 ?_
      refine lv_aload_n hx hb dX5_judge_25 rfl (lv_at hl 0 rfl) ?_
      refine va_get (D := (dC, dI)) (ci := 5) (v := .int x3) (C := RX5) (T := TX5) (N := 44) hx hb hts (fun w hw => List.mem_cons_of_mem _ (List.mem_append_right _ hw)) hown hK hP 0 rfl rfl 3 (by decide) (hts (.fieldLink RX5 103 "OldStadiumModel" "judges" "I") (List.mem_of_getElem? (i := 1) rfl)) (fun _ h9 => h9) rfl dX5_judge_26 ?_
      refine lv_iload_n hx hb dX5_judge_29 rfl (lv_at hl 1 rfl) ?_
      have b4 := z_c1 hf
      replace hf := z_c2 hf
      refine va_iast hx hb hK hP hD hS 2 0 rfl rfl b4 dX5_judge_30 (fun H locs hP hD hS => ?_)
      replace hP : va_P (dC, dI) vwCl (wX5 cI cZ cJ cA h0 a x1 x3 x4 x5 x6 x7 x9 x10 x14 x15 x16 x19 x20 x21 x22 x23 x24 x41 x42 f0 (upd f2 (Int32.toNatClampNeg x3) v1) f8 f11 f12 f13 f17 f18 f25 f26 f27 f28 f29 f30 f31 f32 f33 f34 f35 f36 f37 f38 f39 f40 f43) H := hP
      replace hD : va_D A (wX5 cI cZ cJ cA h0 a x1 x3 x4 x5 x6 x7 x9 x10 x14 x15 x16 x19 x20 x21 x22 x23 x24 x41 x42 f0 (upd f2 (Int32.toNatClampNeg x3) v1) f8 f11 f12 f13 f17 f18 f25 f26 f27 f28 f29 f30 f31 f32 f33 f34 f35 f36 f37 f38 f39 f40 f43) := hD
      refine lv_aload_n hx hb dX5_judge_31 rfl (lv_at hl 0 rfl) ?_
      refine lv_dup hx hb dX5_judge_32 rfl ?_
      refine va_get (D := (dC, dI)) (ci := 5) (v := .int x3) (C := RX5) (T := TX5) (N := 44) hx hb hts (fun w hw => List.mem_cons_of_mem _ (List.mem_append_right _ hw)) hown hK hP 0 rfl rfl 3 (by decide) (hts (.fieldLink RX5 103 "OldStadiumModel" "judges" "I") (List.mem_of_getElem? (i := 1) rfl)) (fun _ h9 => h9) rfl dX5_judge_33 ?_
      refine lv_iconst (v := 1) hx hb dX5_judge_36 (by decide) ?_
      refine lv_iadd hx hb dX5_judge_37 ?_
      refine va_put (D := (dC, dI)) (ci := 5) (v := .int (x3 + 1)) (ty := .int) (C := RX5) (T := TX5) (N := 44) hx hb hts (fun w hw => List.mem_cons_of_mem _ (List.mem_append_right _ hw)) tyX5 tyX5_ok nmX5 hown hK hP hD hS 0 rfl rfl 3 (by decide) (hts (.fieldLink RX5 103 "OldStadiumModel" "judges" "I") (List.mem_of_getElem? (i := 1) rfl)) (fun _ h9 => h9) rfl (by decide +kernel) rfl rfl (Nat.le_of_ble_eq_true rfl) dX5_judge_38 (fun H locs hP hD hS => ?_)
      replace hP : va_P (dC, dI) vwCl (wX5 cI cZ cJ cA h0 a x1 (x3 + 1) x4 x5 x6 x7 x9 x10 x14 x15 x16 x19 x20 x21 x22 x23 x24 x41 x42 f0 (upd f2 (Int32.toNatClampNeg x3) v1) f8 f11 f12 f13 f17 f18 f25 f26 f27 f28 f29 f30 f31 f32 f33 f34 f35 f36 f37 f38 f39 f40 f43) H := hP
      replace hD : va_D A (wX5 cI cZ cJ cA h0 a x1 (x3 + 1) x4 x5 x6 x7 x9 x10 x14 x15 x16 x19 x20 x21 x22 x23 x24 x41 x42 f0 (upd f2 (Int32.toNatClampNeg x3) v1) f8 f11 f12 f13 f17 f18 f25 f26 f27 f28 f29 f30 f31 f32 f33 f34 f35 f36 f37 f38 f39 f40 f43) := hD
      refine lv_aload_n hx hb dX5_judge_41 rfl (lv_at hl 0 rfl) ?_
      refine va_get (D := (dC, dI)) (ci := 5) (v := .int (x3 + 1)) (C := RX5) (T := TX5) (N := 44) hx hb hts (fun w hw => List.mem_cons_of_mem _ (List.mem_append_right _ hw)) hown hK hP 0 rfl rfl 3 (by decide) (hts (.fieldLink RX5 103 "OldStadiumModel" "judges" "I") (List.mem_of_getElem? (i := 1) rfl)) (fun _ h9 => h9) rfl dX5_judge_42 ?_
      refine lv_iconst (v := 1) hx hb dX5_judge_45 (by decide) ?_
      refine lv_isub hx hb dX5_judge_46 ?_
      obtain rfl := Option.some.inj hf
      exact hret _ _ _ _ _ dX5_judge_47 rfl hP hD hS
    · replace hf := z_ip hf c3
      refine lv_iconst (v := (-1)) hx hb dX5_judge_19 (by decide) ?_
      obtain rfl := Option.some.inj hf
      exact hret _ _ _ _ _ dX5_judge_20 rfl hP hD hS
set_option maxHeartbeats 4000000 in
set_option maxRecDepth 100000 in
theorem k_X5_judge (l : Launch) (dC : Nat → ClassId) (dI : Nat → Nat → Nat) (cI cZ cJ cA : ClassId) (h0 : Nat) (a : Nat → Nat) (sz : Nat) (N : Nat) (v1 : Int32) (x1 : Int32) (x3 : Int32) (x4 : Int32) (x5 : Int32) (x6 : Int32) (x7 : Int32) (x9 : Int32) (x10 : Int32) (x14 : Int32) (x15 : Int32) (x16 : Int32) (x19 : Int32) (x20 : Int32) (x21 : Int32) (x22 : Int32) (x23 : Int32) (x24 : Int32) (x41 : Int32) (x42 : Int32) (f0 : (Nat → Int32)) (f2 : (Nat → Int32)) (f8 : (Nat → Int32)) (f11 : (Nat → Int32)) (f12 : (Nat → Int32)) (f13 : (Nat → Int32)) (f17 : (Nat → Int32)) (f18 : (Nat → Int32)) (f25 : (Nat → Int32)) (f26 : (Nat → Int32)) (f27 : (Nat → Int32)) (f28 : (Nat → Int32)) (f29 : (Nat → Int32)) (f30 : (Nat → Int32)) (f31 : (Nat → Int32)) (f32 : (Nat → Int32)) (f33 : (Nat → Int32)) (f34 : (Nat → Int32)) (f35 : (Nat → Int32)) (f36 : (Nat → Int32)) (f37 : (Nat → Int32)) (f38 : (Nat → Int32)) (f39 : (Nat → Int32)) (f40 : (Nat → Int32)) (f43 : (Nat → Int32)) (o : (Int32 × Int32 × (Nat → Int32))) (hf : q_X5_judge N v1 x3 f2 = some o) : Met l yX5_judge wsX5_judge ({ frames := 1, cells := 0, slots := 0, locals := 22 } : Room) (z_Pre dC dI (z_ty cI cZ cJ cA) [.ref h0, .int v1] sz (wX5 cI cZ cJ cA h0 a x1 x3 x4 x5 x6 x7 x9 x10 x14 x15 x16 x19 x20 x21 x22 x23 x24 x41 x42 f0 f2 f8 f11 f12 f13 f17 f18 f25 f26 f27 f28 f29 f30 f31 f32 f33 f34 f35 f36 f37 f38 f39 f40 f43)) (z_Pi dC dI o.1 (wX5 cI cZ cJ cA h0 a x1 o.2.1 x4 x5 x6 x7 x9 x10 x14 x15 x16 x19 x20 x21 x22 x23 x24 x41 x42 f0 o.2.2 f8 f11 f12 f13 f17 f18 f25 f26 f27 f28 f29 f30 f31 f32 f33 f34 f35 f36 f37 f38 f39 f40 f43) sz (wX5 cI cZ cJ cA h0 a x1 x3 x4 x5 x6 x7 x9 x10 x14 x15 x16 x19 x20 x21 x22 x23 x24 x41 x42 f0 f2 f8 f11 f12 f13 f17 f18 f25 f26 f27 f28 f29 f30 f31 f32 f33 f34 f35 f36 f37 f38 f39 f40 f43)) 0 0 (va_A (wX5 cI cZ cJ cA h0 a x1 x3 x4 x5 x6 x7 x9 x10 x14 x15 x16 x19 x20 x21 x22 x23 x24 x41 x42 f0 f2 f8 f11 f12 f13 f17 f18 f25 f26 f27 f28 f29 f30 f31 f32 f33 f34 f35 f36 f37 f38 f39 f40 f43) sz) := by
  refine Met.ofW (cc := cX5_judge) (maxL := 2) (ret := (some .int)) (by decide) rfl ?_
  intro p e s m args below meth c s₁ B hml hv
  obtain ⟨rfl, hsz, hP, hK, hD0, hN⟩ := hv
  subst hsz
  have hl := lv_entry ([.ref h0, .int v1]) (n := 2) (Nat.le_of_ble_eq_true rfl)
  rw [lg_entry_eq]
  refine b_X5_judge N ⟨⟨B.exec, B.bytes, hml, findClass_of_methodNamed B.named, atoms_spec (ws := wsX5_judge) B.pre⟩, Nat.le_refl _, Nat.le_refl _, fun q h => Or.inr h, hN, hK⟩ hf hP hD0.self va_S.rf hl (fun pc H locs ls r hd hr hP hD hS => ?_)
  subst hr
  exact W.iret B.exec B.bytes B.returns (fun t ht hW => ⟨⟨_, (), rfl, rfl, by rw [ht]; exact hP, hD⟩, hS.F ht⟩) hS.2.2 hd
def q_X5_heats (N : Nat) (x5 : Int32) (x9 : Int32) (x10 : Int32) : Option Int32 :=
  (if x10 = (-1) then
   (if x5 = 0 then none else
   (some ((((x9 - 0) + x5) - 1) / x5)))
  else
   (if x5 = 0 then none else
   (some ((((x9 - 1) + x5) - 1) / x5))))
set_option maxHeartbeats 4000000 in
set_option maxRecDepth 100000 in
theorem b_X5_heats {p : Program} {l : Launch} {e : Env} {R : Room} {s : State} {m : MethodId} {args : Array Value} {below : List Frame} {meth : Method} {c : Code} {Q : State → Prop} {A : Nat → Prop} {dC : Nat → ClassId} {dI : Nat → Nat → Nat} {cI cZ cJ cA : ClassId} {h0 : Nat} {a : Nat → Nat} (N : Nat) (C0 : z_Cx p s m args c cX5_heats 2 wsX5_heats RX5 R 0 0 A dC dI (z_ty cI cZ cJ cA)) {x1 : Int32} {x3 : Int32} {x4 : Int32} {x5 : Int32} {x6 : Int32} {x7 : Int32} {x9 : Int32} {x10 : Int32} {x14 : Int32} {x15 : Int32} {x16 : Int32} {x19 : Int32} {x20 : Int32} {x21 : Int32} {x22 : Int32} {x23 : Int32} {x24 : Int32} {x41 : Int32} {x42 : Int32} {f0 : (Nat → Int32)} {f2 : (Nat → Int32)} {f8 : (Nat → Int32)} {f11 : (Nat → Int32)} {f12 : (Nat → Int32)} {f13 : (Nat → Int32)} {f17 : (Nat → Int32)} {f18 : (Nat → Int32)} {f25 : (Nat → Int32)} {f26 : (Nat → Int32)} {f27 : (Nat → Int32)} {f28 : (Nat → Int32)} {f29 : (Nat → Int32)} {f30 : (Nat → Int32)} {f31 : (Nat → Int32)} {f32 : (Nat → Int32)} {f33 : (Nat → Int32)} {f34 : (Nat → Int32)} {f35 : (Nat → Int32)} {f36 : (Nat → Int32)} {f37 : (Nat → Int32)} {f38 : (Nat → Int32)} {f39 : (Nat → Int32)} {f40 : (Nat → Int32)} {f43 : (Nat → Int32)} {o : Int32} {H : Heap} {locs : List Loc} {ls : Array Slot} (hf : q_X5_heats N x5 x9 x10 = some o) (hP : va_P (dC, dI) vwCl (wX5 cI cZ cJ cA h0 a x1 x3 x4 x5 x6 x7 x9 x10 x14 x15 x16 x19 x20 x21 x22 x23 x24 x41 x42 f0 f2 f8 f11 f12 f13 f17 f18 f25 f26 f27 f28 f29 f30 f31 f32 f33 f34 f35 f36 f37 f38 f39 f40 f43) H) (hD : va_D A (wX5 cI cZ cJ cA h0 a x1 x3 x4 x5 x6 x7 x9 x10 x14 x15 x16 x19 x20 x21 x22 x23 x24 x41 x42 f0 f2 f8 f11 f12 f13 f17 f18 f25 f26 f27 f28 f29 f30 f31 f32 f33 f34 f35 f36 f37 f38 f39 f40 f43)) (hS : va_S A s.heap H locs) (hl : lv_has ls 2 [(0, .ref h0)])
    (hret : ∀ (pc : Nat) (H : Heap) (locs : List Loc) (ls : Array Slot) (r : Int32), decode cX5_heats pc = .ok (.ireturn, 1) → r = o → va_P (dC, dI) vwCl (wX5 cI cZ cJ cA h0 a x1 x3 x4 x5 x6 x7 x9 x10 x14 x15 x16 x19 x20 x21 x22 x23 x24 x41 x42 f0 f2 f8 f11 f12 f13 f17 f18 f25 f26 f27 f28 f29 f30 f31 f32 f33 f34 f35 f36 f37 f38 f39 f40 f43) H → va_D A (wX5 cI cZ cJ cA h0 a x1 x3 x4 x5 x6 x7 x9 x10 x14 x15 x16 x19 x20 x21 x22 x23 x24 x41 x42 f0 f2 f8 f11 f12 f13 f17 f18 f25 f26 f27 f28 f29 f30 f31 f32 f33 f34 f35 f36 f37 f38 f39 f40 f43) → va_S A s.heap H locs → W p l e R s m args below meth c H locs 0 0 Q (F0 m pc ls [.int r])) :
    W p l e R s m args below meth c H locs 0 0 Q (F0 m 0 ls []) := by
  obtain ⟨⟨hx, hb, hml, hown, hts⟩, hRf, hRl, hA, hN, hK⟩ := C0
  unfold q_X5_heats at hf
  refine lv_aload_n hx hb dX5_heats_0 rfl (lv_at hl 0 rfl) ?_
  refine va_get (D := (dC, dI)) (ci := 5) (v := .int x9) (C := RX5) (T := TX5) (N := 44) hx hb hts (fun w hw => List.mem_cons_of_mem _ (List.mem_append_right _ hw)) hown hK hP 0 rfl rfl 9 (by decide) (hts (.fieldLink RX5 106 "OldStadiumModel" "many" "I") (List.mem_of_getElem? (i := 1) rfl)) (fun _ h9 => h9) rfl dX5_heats_1 ?_
  refine lv_aload_n hx hb dX5_heats_4 rfl (lv_at hl 0 rfl) ?_
  refine va_get (D := (dC, dI)) (ci := 5) (v := .int x10) (C := RX5) (T := TX5) (N := 44) hx hb hts (fun w hw => List.mem_cons_of_mem _ (List.mem_append_right _ hw)) hown hK hP 0 rfl rfl 10 (by decide) (hts (.fieldLink RX5 19 "OldStadiumModel" "bye" "I") (List.mem_of_getElem? (i := 2) rfl)) (fun _ h9 => h9) rfl dX5_heats_5 ?_
  refine lv_iconst (v := (-1)) hx hb dX5_heats_8 (by decide) ?_
  refine lv_icmp_ne (tgt := 16) hx hb dX5_heats_9 (by decide) (fun c1 => ?_) (fun c1 => ?_)
  · replace hf := z_im hf c1
    refine lv_iconst (v := 1) hx hb dX5_heats_16 (by decide) ?_
    refine lv_isub hx hb dX5_heats_17 ?_
    refine lv_istore_n (lv' := [(1, .int (x9 - 1)), (0, .ref h0)]) hx hb dX5_heats_18 rfl hl (by decide) rfl (fun ls hl => ?_)
    refine lv_iload_n hx hb dX5_heats_19 rfl (lv_at hl 0 rfl) ?_
    refine lv_aload_n hx hb dX5_heats_20 rfl (lv_at hl 1 rfl) ?_
    refine va_get (D := (dC, dI)) (ci := 5) (v := .int x5) (C := RX5) (T := TX5) (N := 44) hx hb hts (fun w hw => List.mem_cons_of_mem _ (List.mem_append_right _ hw)) hown hK hP 0 rfl rfl 5 (by decide) (hts (.fieldLink RX5 109 "OldStadiumModel" "size" "I") (List.mem_of_getElem? (i := 3) rfl)) (fun _ h9 => h9) rfl dX5_heats_21 ?_
    refine lv_iadd hx hb dX5_heats_24 ?_
    refine lv_iconst (v := 1) hx hb dX5_heats_25 (by decide) ?_
    refine lv_isub hx hb dX5_heats_26 ?_
    refine lv_aload_n hx hb dX5_heats_27 rfl (lv_at hl 1 rfl) ?_
    refine va_get (D := (dC, dI)) (ci := 5) (v := .int x5) (C := RX5) (T := TX5) (N := 44) hx hb hts (fun w hw => List.mem_cons_of_mem _ (List.mem_append_right _ hw)) hown hK hP 0 rfl rfl 5 (by decide) (hts (.fieldLink RX5 109 "OldStadiumModel" "size" "I") (List.mem_of_getElem? (i := 3) rfl)) (fun _ h9 => h9) rfl dX5_heats_28 ?_
    have d2 := z_n1 hf
    replace hf := z_n2 hf
    refine lv_idiv hx hb dX5_heats_31 d2 ?_
    obtain rfl := Option.some.inj hf
    exact hret _ _ _ _ _ dX5_heats_32 rfl hP hD hS
  · replace hf := z_ip hf c1
    refine lv_iconst (v := 0) hx hb dX5_heats_12 (by decide) ?_
    refine lv_goto (tgt := 17) hx hb dX5_heats_13 (by decide) ?_
    refine lv_isub hx hb dX5_heats_17 ?_
    refine lv_istore_n (lv' := [(1, .int (x9 - 0)), (0, .ref h0)]) hx hb dX5_heats_18 rfl hl (by decide) rfl (fun ls hl => ?_)
    refine lv_iload_n hx hb dX5_heats_19 rfl (lv_at hl 0 rfl) ?_
    refine lv_aload_n hx hb dX5_heats_20 rfl (lv_at hl 1 rfl) ?_
    refine va_get (D := (dC, dI)) (ci := 5) (v := .int x5) (C := RX5) (T := TX5) (N := 44) hx hb hts (fun w hw => List.mem_cons_of_mem _ (List.mem_append_right _ hw)) hown hK hP 0 rfl rfl 5 (by decide) (hts (.fieldLink RX5 109 "OldStadiumModel" "size" "I") (List.mem_of_getElem? (i := 3) rfl)) (fun _ h9 => h9) rfl dX5_heats_21 ?_
    refine lv_iadd hx hb dX5_heats_24 ?_
    refine lv_iconst (v := 1) hx hb dX5_heats_25 (by decide) ?_
    refine lv_isub hx hb dX5_heats_26 ?_
    refine lv_aload_n hx hb dX5_heats_27 rfl (lv_at hl 1 rfl) ?_
    refine va_get (D := (dC, dI)) (ci := 5) (v := .int x5) (C := RX5) (T := TX5) (N := 44) hx hb hts (fun w hw => List.mem_cons_of_mem _ (List.mem_append_right _ hw)) hown hK hP 0 rfl rfl 5 (by decide) (hts (.fieldLink RX5 109 "OldStadiumModel" "size" "I") (List.mem_of_getElem? (i := 3) rfl)) (fun _ h9 => h9) rfl dX5_heats_28 ?_
    have d3 := z_n1 hf
    replace hf := z_n2 hf
    refine lv_idiv hx hb dX5_heats_31 d3 ?_
    obtain rfl := Option.some.inj hf
    exact hret _ _ _ _ _ dX5_heats_32 rfl hP hD hS
set_option maxHeartbeats 4000000 in
set_option maxRecDepth 100000 in
theorem k_X5_heats (l : Launch) (dC : Nat → ClassId) (dI : Nat → Nat → Nat) (cI cZ cJ cA : ClassId) (h0 : Nat) (a : Nat → Nat) (sz : Nat) (N : Nat) (x1 : Int32) (x3 : Int32) (x4 : Int32) (x5 : Int32) (x6 : Int32) (x7 : Int32) (x9 : Int32) (x10 : Int32) (x14 : Int32) (x15 : Int32) (x16 : Int32) (x19 : Int32) (x20 : Int32) (x21 : Int32) (x22 : Int32) (x23 : Int32) (x24 : Int32) (x41 : Int32) (x42 : Int32) (f0 : (Nat → Int32)) (f2 : (Nat → Int32)) (f8 : (Nat → Int32)) (f11 : (Nat → Int32)) (f12 : (Nat → Int32)) (f13 : (Nat → Int32)) (f17 : (Nat → Int32)) (f18 : (Nat → Int32)) (f25 : (Nat → Int32)) (f26 : (Nat → Int32)) (f27 : (Nat → Int32)) (f28 : (Nat → Int32)) (f29 : (Nat → Int32)) (f30 : (Nat → Int32)) (f31 : (Nat → Int32)) (f32 : (Nat → Int32)) (f33 : (Nat → Int32)) (f34 : (Nat → Int32)) (f35 : (Nat → Int32)) (f36 : (Nat → Int32)) (f37 : (Nat → Int32)) (f38 : (Nat → Int32)) (f39 : (Nat → Int32)) (f40 : (Nat → Int32)) (f43 : (Nat → Int32)) (o : Int32) (hf : q_X5_heats N x5 x9 x10 = some o) : Met l yX5_heats wsX5_heats ({ frames := 0, cells := 0, slots := 0, locals := 0 } : Room) (z_Pre dC dI (z_ty cI cZ cJ cA) [.ref h0] sz (wX5 cI cZ cJ cA h0 a x1 x3 x4 x5 x6 x7 x9 x10 x14 x15 x16 x19 x20 x21 x22 x23 x24 x41 x42 f0 f2 f8 f11 f12 f13 f17 f18 f25 f26 f27 f28 f29 f30 f31 f32 f33 f34 f35 f36 f37 f38 f39 f40 f43)) (z_Pi dC dI o (wX5 cI cZ cJ cA h0 a x1 x3 x4 x5 x6 x7 x9 x10 x14 x15 x16 x19 x20 x21 x22 x23 x24 x41 x42 f0 f2 f8 f11 f12 f13 f17 f18 f25 f26 f27 f28 f29 f30 f31 f32 f33 f34 f35 f36 f37 f38 f39 f40 f43) sz (wX5 cI cZ cJ cA h0 a x1 x3 x4 x5 x6 x7 x9 x10 x14 x15 x16 x19 x20 x21 x22 x23 x24 x41 x42 f0 f2 f8 f11 f12 f13 f17 f18 f25 f26 f27 f28 f29 f30 f31 f32 f33 f34 f35 f36 f37 f38 f39 f40 f43)) 0 0 (va_A (wX5 cI cZ cJ cA h0 a x1 x3 x4 x5 x6 x7 x9 x10 x14 x15 x16 x19 x20 x21 x22 x23 x24 x41 x42 f0 f2 f8 f11 f12 f13 f17 f18 f25 f26 f27 f28 f29 f30 f31 f32 f33 f34 f35 f36 f37 f38 f39 f40 f43) sz) := by
  refine Met.ofW (cc := cX5_heats) (maxL := 2) (ret := (some .int)) (by decide) rfl ?_
  intro p e s m args below meth c s₁ B hml hv
  obtain ⟨rfl, hsz, hP, hK, hD0, hN⟩ := hv
  subst hsz
  have hl := lv_entry ([.ref h0]) (n := 2) (Nat.le_of_ble_eq_true rfl)
  rw [lg_entry_eq]
  refine b_X5_heats N ⟨⟨B.exec, B.bytes, hml, findClass_of_methodNamed B.named, atoms_spec (ws := wsX5_heats) B.pre⟩, Nat.le_refl _, Nat.le_refl _, fun q h => Or.inr h, hN, hK⟩ hf hP hD0.self va_S.rf hl (fun pc H locs ls r hd hr hP hD hS => ?_)
  subst hr
  exact W.iret B.exec B.bytes B.returns (fun t ht hW => ⟨⟨_, (), rfl, rfl, by rw [ht]; exact hP, hD⟩, hS.F ht⟩) hS.2.2 hd
def q_X5_mix_L7 (N : Nat) : Nat → Int32 → Int32 → (Nat → Int32) → Option (Int32 × (Nat → Int32))
  | 0, _, _, _ => none
  | n + 1, v1, x6, f8 =>
    (if v1 ≤ 0 then
     (some (x6, f8))
    else
     (if (v1 + 1) = 0 then none else
     (Option.bind (some ((z_rem (z_ushr ((x6 * 1103515245) + 12345) 16) (v1 + 1)) : Int32)) (fun n3 =>
     (if z_in v1 24 then
     (if z_in n3 24 then
     (q_X5_mix_L7 N n (v1 + (-1)) ((x6 * 1103515245) + 12345) (upd (upd f8 (Int32.toNatClampNeg v1) (f8 (Int32.toNatClampNeg n3))) (Int32.toNatClampNeg n3) (f8 (Int32.toNatClampNeg v1))))
     else none)
     else none)))))
set_option maxHeartbeats 4000000 in
set_option maxRecDepth 100000 in
theorem b_X5_mix_L7 {p : Program} {l : Launch} {e : Env} {R : Room} {s : State} {m : MethodId} {args : Array Value} {below : List Frame} {meth : Method} {c : Code} {Q : State → Prop} {A : Nat → Prop} {dC : Nat → ClassId} {dI : Nat → Nat → Nat} {cI cZ cJ cA : ClassId} {h0 : Nat} {a : Nat → Nat} (N : Nat) (C0 : z_Cx p s m args c cX5_mix 4 wsX5_mix RX5 R 0 0 A dC dI (z_ty cI cZ cJ cA)) : ∀ (n : Nat) {v1 : Int32} {x1 : Int32} {x3 : Int32} {x4 : Int32} {x5 : Int32} {x6 : Int32} {x7 : Int32} {x9 : Int32} {x10 : Int32} {x14 : Int32} {x15 : Int32} {x16 : Int32} {x19 : Int32} {x20 : Int32} {x21 : Int32} {x22 : Int32} {x23 : Int32} {x24 : Int32} {x41 : Int32} {x42 : Int32} {f0 : (Nat → Int32)} {f2 : (Nat → Int32)} {f8 : (Nat → Int32)} {f11 : (Nat → Int32)} {f12 : (Nat → Int32)} {f13 : (Nat → Int32)} {f17 : (Nat → Int32)} {f18 : (Nat → Int32)} {f25 : (Nat → Int32)} {f26 : (Nat → Int32)} {f27 : (Nat → Int32)} {f28 : (Nat → Int32)} {f29 : (Nat → Int32)} {f30 : (Nat → Int32)} {f31 : (Nat → Int32)} {f32 : (Nat → Int32)} {f33 : (Nat → Int32)} {f34 : (Nat → Int32)} {f35 : (Nat → Int32)} {f36 : (Nat → Int32)} {f37 : (Nat → Int32)} {f38 : (Nat → Int32)} {f39 : (Nat → Int32)} {f40 : (Nat → Int32)} {f43 : (Nat → Int32)} {o : (Int32 × (Nat → Int32))} {H : Heap} {locs : List Loc} {ls : Array Slot}, q_X5_mix_L7 N n v1 x6 f8 = some o → va_P (dC, dI) vwCl (wX5 cI cZ cJ cA h0 a x1 x3 x4 x5 x6 x7 x9 x10 x14 x15 x16 x19 x20 x21 x22 x23 x24 x41 x42 f0 f2 f8 f11 f12 f13 f17 f18 f25 f26 f27 f28 f29 f30 f31 f32 f33 f34 f35 f36 f37 f38 f39 f40 f43) H → va_D A (wX5 cI cZ cJ cA h0 a x1 x3 x4 x5 x6 x7 x9 x10 x14 x15 x16 x19 x20 x21 x22 x23 x24 x41 x42 f0 f2 f8 f11 f12 f13 f17 f18 f25 f26 f27 f28 f29 f30 f31 f32 f33 f34 f35 f36 f37 f38 f39 f40 f43) → va_S A s.heap H locs → lv_has ls 4 [(0, .ref h0), (1, .int v1)] →
    (∀ (H : Heap) (locs : List Loc) (ls : Array Slot), va_P (dC, dI) vwCl (wX5 cI cZ cJ cA h0 a x1 x3 x4 x5 o.1 x7 x9 x10 x14 x15 x16 x19 x20 x21 x22 x23 x24 x41 x42 f0 f2 o.2 f11 f12 f13 f17 f18 f25 f26 f27 f28 f29 f30 f31 f32 f33 f34 f35 f36 f37 f38 f39 f40 f43) H → va_D A (wX5 cI cZ cJ cA h0 a x1 x3 x4 x5 o.1 x7 x9 x10 x14 x15 x16 x19 x20 x21 x22 x23 x24 x41 x42 f0 f2 o.2 f11 f12 f13 f17 f18 f25 f26 f27 f28 f29 f30 f31 f32 f33 f34 f35 f36 f37 f38 f39 f40 f43) → va_S A s.heap H locs → lv_has ls 4 [(0, .ref h0)] → W p l e R s m args below meth c H locs 0 0 Q (F0 m 70 ls [])) →
    W p l e R s m args below meth c H locs 0 0 Q (F0 m 7 ls []) := by
  obtain ⟨⟨hx, hb, hml, hown, hts⟩, hRf, hRl, hA, hN, hK⟩ := C0
  intro n
  induction n with
  | zero =>
    intro v1 x1 x3 x4 x5 x6 x7 x9 x10 x14 x15 x16 x19 x20 x21 x22 x23 x24 x41 x42 f0 f2 f8 f11 f12 f13 f17 f18 f25 f26 f27 f28 f29 f30 f31 f32 f33 f34 f35 f36 f37 f38 f39 f40 f43 o H locs ls hf
    cases hf
  | succ n ih =>
    intro v1 x1 x3 x4 x5 x6 x7 x9 x10 x14 x15 x16 x19 x20 x21 x22 x23 x24 x41 x42 f0 f2 f8 f11 f12 f13 f17 f18 f25 f26 f27 f28 f29 f30 f31 f32 f33 f34 f35 f36 f37 f38 f39 f40 f43 o H locs ls hf hP hD hS hl hexit
    rw [q_X5_mix_L7] at hf
    refine lv_iload_n hx hb dX5_mix_7 rfl (lv_at hl 1 rfl) ?_
    refine lv_if_le (tgt := 70) hx hb dX5_mix_8 (by decide) (fun c1 => ?_) (fun c1 => ?_)
    · replace hf := z_ip hf c1
      obtain rfl := Option.some.inj hf
      exact hexit _ _ _ hP hD hS (lv_sub hl [0] rfl)
    · replace hf := z_im hf c1
      refine lv_aload_n hx hb dX5_mix_11 rfl (lv_at hl 0 rfl) ?_
      refine lv_aload_n hx hb dX5_mix_12 rfl (lv_at hl 0 rfl) ?_
      refine va_get (D := (dC, dI)) (ci := 5) (v := .int x6) (C := RX5) (T := TX5) (N := 44) hx hb hts (fun w hw => List.mem_cons_of_mem _ (List.mem_append_right _ hw)) hown hK hP 0 rfl rfl 6 (by decide) (hts (.fieldLink RX5 112 "OldStadiumModel" "\x72" "I") (List.mem_of_getElem? (i := 2) rfl)) (fun _ h9 => h9) rfl dX5_mix_13 ?_
      refine lv_ldc (v := 1103515245) hx hb hown (hts (.constant RX5 115 (1103515245)) (List.mem_of_getElem? (i := 3) rfl)) dX5_mix_16 ?_
      refine lv_imul hx hb dX5_mix_18 ?_
      refine lv_sipush (v := 12345) hx hb dX5_mix_19 (by decide) ?_
      refine lv_iadd hx hb dX5_mix_22 ?_
      refine va_put (D := (dC, dI)) (ci := 5) (v := .int ((x6 * 1103515245) + 12345)) (ty := .int) (C := RX5) (T := TX5) (N := 44) hx hb hts (fun w hw => List.mem_cons_of_mem _ (List.mem_append_right _ hw)) tyX5 tyX5_ok nmX5 hown hK hP hD hS 0 rfl rfl 6 (by decide) (hts (.fieldLink RX5 112 "OldStadiumModel" "\x72" "I") (List.mem_of_getElem? (i := 2) rfl)) (fun _ h9 => h9) rfl (by decide +kernel) rfl rfl (Nat.le_of_ble_eq_true rfl) dX5_mix_23 (fun H locs hP hD hS => ?_)
      replace hP : va_P (dC, dI) vwCl (wX5 cI cZ cJ cA h0 a x1 x3 x4 x5 ((x6 * 1103515245) + 12345) x7 x9 x10 x14 x15 x16 x19 x20 x21 x22 x23 x24 x41 x42 f0 f2 f8 f11 f12 f13 f17 f18 f25 f26 f27 f28 f29 f30 f31 f32 f33 f34 f35 f36 f37 f38 f39 f40 f43) H := hP
      replace hD : va_D A (wX5 cI cZ cJ cA h0 a x1 x3 x4 x5 ((x6 * 1103515245) + 12345) x7 x9 x10 x14 x15 x16 x19 x20 x21 x22 x23 x24 x41 x42 f0 f2 f8 f11 f12 f13 f17 f18 f25 f26 f27 f28 f29 f30 f31 f32 f33 f34 f35 f36 f37 f38 f39 f40 f43) := hD
      refine lv_aload_n hx hb dX5_mix_26 rfl (lv_at hl 0 rfl) ?_
      refine va_get (D := (dC, dI)) (ci := 5) (v := .int ((x6 * 1103515245) + 12345)) (C := RX5) (T := TX5) (N := 44) hx hb hts (fun w hw => List.mem_cons_of_mem _ (List.mem_append_right _ hw)) hown hK hP 0 rfl rfl 6 (by decide) (hts (.fieldLink RX5 112 "OldStadiumModel" "\x72" "I") (List.mem_of_getElem? (i := 2) rfl)) (fun _ h9 => h9) rfl dX5_mix_27 ?_
      refine lv_bipush (v := 16) hx hb dX5_mix_30 (by decide) ?_
      refine z_iushr hx hb dX5_mix_32 ?_
      refine lv_iload_n hx hb dX5_mix_33 rfl (lv_at hl 1 rfl) ?_
      refine lv_iconst (v := 1) hx hb dX5_mix_34 (by decide) ?_
      refine lv_iadd hx hb dX5_mix_35 ?_
      have d2 := z_n1 hf
      replace hf := z_n2 hf
      refine z_irem hx hb dX5_mix_36 d2 ?_
      obtain ⟨n3, hn3, hf1⟩ := z_ib hf
      replace hf := hf1
      clear hf1
      refine lv_topi (fun y9 ey9 => ?_)
      obtain rfl : n3 = y9 := (Option.some.inj hn3).symm.trans ey9.symm
      refine lv_istore_n (lv' := [(2, .int n3), (0, .ref h0), (1, .int v1)]) hx hb dX5_mix_37 rfl hl (by decide) rfl (fun ls hl => ?_)
      refine lv_aload_n hx hb dX5_mix_38 rfl (lv_at hl 1 rfl) ?_
      refine va_get (D := (dC, dI)) (ci := 5) (v := .ref (a 8)) (C := RX5) (T := TX5) (N := 44) hx hb hts (fun w hw => List.mem_cons_of_mem _ (List.mem_append_right _ hw)) hown hK hP 0 rfl rfl 8 (by decide) (hts (.fieldLink RX5 16 "OldStadiumModel" "row" "[I") (List.mem_of_getElem? (i := 4) rfl)) (fun _ h9 => h9) rfl dX5_mix_39 ?_
      refine lv_iload_n hx hb dX5_mix_42 rfl (lv_at hl 2 rfl) ?_
      have b4 := z_c1 hf
      replace hf := z_c2 hf
      refine va_iald hx hb hK hP 3 0 rfl rfl b4 dX5_mix_43 ?_
      refine lv_istore_n (lv' := [(3, .int (f8 (Int32.toNatClampNeg v1))), (2, .int n3), (0, .ref h0), (1, .int v1)]) hx hb dX5_mix_44 rfl hl (by decide) rfl (fun ls hl => ?_)
      refine lv_aload_n hx hb dX5_mix_45 rfl (lv_at hl 2 rfl) ?_
      refine va_get (D := (dC, dI)) (ci := 5) (v := .ref (a 8)) (C := RX5) (T := TX5) (N := 44) hx hb hts (fun w hw => List.mem_cons_of_mem _ (List.mem_append_right _ hw)) hown hK hP 0 rfl rfl 8 (by decide) (hts (.fieldLink RX5 16 "OldStadiumModel" "row" "[I") (List.mem_of_getElem? (i := 4) rfl)) (fun _ h9 => h9) rfl dX5_mix_46 ?_
      refine lv_iload_n hx hb dX5_mix_49 rfl (lv_at hl 3 rfl) ?_
      refine lv_aload_n hx hb dX5_mix_50 rfl (lv_at hl 2 rfl) ?_
      refine va_get (D := (dC, dI)) (ci := 5) (v := .ref (a 8)) (C := RX5) (T := TX5) (N := 44) hx hb hts (fun w hw => List.mem_cons_of_mem _ (List.mem_append_right _ hw)) hown hK hP 0 rfl rfl 8 (by decide) (hts (.fieldLink RX5 16 "OldStadiumModel" "row" "[I") (List.mem_of_getElem? (i := 4) rfl)) (fun _ h9 => h9) rfl dX5_mix_51 ?_
      refine lv_iload_n hx hb dX5_mix_54 rfl (lv_at hl 1 rfl) ?_
      have b5 := z_c1 hf
      replace hf := z_c2 hf
      refine va_iald hx hb hK hP 3 0 rfl rfl b5 dX5_mix_55 ?_
      refine va_iast hx hb hK hP hD hS 3 0 rfl rfl b4 dX5_mix_56 (fun H locs hP hD hS => ?_)
      replace hP : va_P (dC, dI) vwCl (wX5 cI cZ cJ cA h0 a x1 x3 x4 x5 ((x6 * 1103515245) + 12345) x7 x9 x10 x14 x15 x16 x19 x20 x21 x22 x23 x24 x41 x42 f0 f2 (upd f8 (Int32.toNatClampNeg v1) (f8 (Int32.toNatClampNeg n3))) f11 f12 f13 f17 f18 f25 f26 f27 f28 f29 f30 f31 f32 f33 f34 f35 f36 f37 f38 f39 f40 f43) H := hP
      replace hD : va_D A (wX5 cI cZ cJ cA h0 a x1 x3 x4 x5 ((x6 * 1103515245) + 12345) x7 x9 x10 x14 x15 x16 x19 x20 x21 x22 x23 x24 x41 x42 f0 f2 (upd f8 (Int32.toNatClampNeg v1) (f8 (Int32.toNatClampNeg n3))) f11 f12 f13 f17 f18 f25 f26 f27 f28 f29 f30 f31 f32 f33 f34 f35 f36 f37 f38 f39 f40 f43) := hD
      refine lv_aload_n hx hb dX5_mix_57 rfl (lv_at hl 2 rfl) ?_
      refine va_get (D := (dC, dI)) (ci := 5) (v := .ref (a 8)) (C := RX5) (T := TX5) (N := 44) hx hb hts (fun w hw => List.mem_cons_of_mem _ (List.mem_append_right _ hw)) hown hK hP 0 rfl rfl 8 (by decide) (hts (.fieldLink RX5 16 "OldStadiumModel" "row" "[I") (List.mem_of_getElem? (i := 4) rfl)) (fun _ h9 => h9) rfl dX5_mix_58 ?_
      refine lv_iload_n hx hb dX5_mix_61 rfl (lv_at hl 1 rfl) ?_
      refine lv_iload_n hx hb dX5_mix_62 rfl (lv_at hl 0 rfl) ?_
      refine va_iast hx hb hK hP hD hS 3 0 rfl rfl b5 dX5_mix_63 (fun H locs hP hD hS => ?_)
      replace hP : va_P (dC, dI) vwCl (wX5 cI cZ cJ cA h0 a x1 x3 x4 x5 ((x6 * 1103515245) + 12345) x7 x9 x10 x14 x15 x16 x19 x20 x21 x22 x23 x24 x41 x42 f0 f2 (upd (upd f8 (Int32.toNatClampNeg v1) (f8 (Int32.toNatClampNeg n3))) (Int32.toNatClampNeg n3) (f8 (Int32.toNatClampNeg v1))) f11 f12 f13 f17 f18 f25 f26 f27 f28 f29 f30 f31 f32 f33 f34 f35 f36 f37 f38 f39 f40 f43) H := hP
      replace hD : va_D A (wX5 cI cZ cJ cA h0 a x1 x3 x4 x5 ((x6 * 1103515245) + 12345) x7 x9 x10 x14 x15 x16 x19 x20 x21 x22 x23 x24 x41 x42 f0 f2 (upd (upd f8 (Int32.toNatClampNeg v1) (f8 (Int32.toNatClampNeg n3))) (Int32.toNatClampNeg n3) (f8 (Int32.toNatClampNeg v1))) f11 f12 f13 f17 f18 f25 f26 f27 f28 f29 f30 f31 f32 f33 f34 f35 f36 f37 f38 f39 f40 f43) := hD
      refine lv_iinc (v := (v1 + (-1))) (lv' := [(1, .int (v1 + (-1))), (3, .int (f8 (Int32.toNatClampNeg v1))), (2, .int n3), (0, .ref h0)]) hx hb dX5_mix_64 hl (k := 3) rfl rfl (by decide) rfl (fun ls hl => ?_)
      refine lv_goto (tgt := 7) hx hb dX5_mix_67 (by decide) ?_
      exact ih hf hP hD hS (lv_sub hl [3, 0] rfl) hexit
def q_X5_mix_L189 (N : Nat) : Nat → Int32 → (Nat → Int32) → Option (Nat → Int32)
  | 0, _, _ => none
  | n + 1, v1, f12 =>
    (if 24 ≤ v1 then
     (some f12)
    else
     (if z_in v1 24 then
     (q_X5_mix_L189 N n (v1 + 1) (upd f12 (Int32.toNatClampNeg v1) (-1)))
     else none))
set_option maxHeartbeats 4000000 in
set_option maxRecDepth 100000 in
theorem b_X5_mix_L189 {p : Program} {l : Launch} {e : Env} {R : Room} {s : State} {m : MethodId} {args : Array Value} {below : List Frame} {meth : Method} {c : Code} {Q : State → Prop} {A : Nat → Prop} {dC : Nat → ClassId} {dI : Nat → Nat → Nat} {cI cZ cJ cA : ClassId} {h0 : Nat} {a : Nat → Nat} (N : Nat) (C0 : z_Cx p s m args c cX5_mix 4 wsX5_mix RX5 R 0 0 A dC dI (z_ty cI cZ cJ cA)) : ∀ (n : Nat) {v1 : Int32} {x1 : Int32} {x3 : Int32} {x4 : Int32} {x5 : Int32} {x6 : Int32} {x7 : Int32} {x9 : Int32} {x10 : Int32} {x14 : Int32} {x15 : Int32} {x16 : Int32} {x19 : Int32} {x20 : Int32} {x21 : Int32} {x22 : Int32} {x23 : Int32} {x24 : Int32} {x41 : Int32} {x42 : Int32} {f0 : (Nat → Int32)} {f2 : (Nat → Int32)} {f8 : (Nat → Int32)} {f11 : (Nat → Int32)} {f12 : (Nat → Int32)} {f13 : (Nat → Int32)} {f17 : (Nat → Int32)} {f18 : (Nat → Int32)} {f25 : (Nat → Int32)} {f26 : (Nat → Int32)} {f27 : (Nat → Int32)} {f28 : (Nat → Int32)} {f29 : (Nat → Int32)} {f30 : (Nat → Int32)} {f31 : (Nat → Int32)} {f32 : (Nat → Int32)} {f33 : (Nat → Int32)} {f34 : (Nat → Int32)} {f35 : (Nat → Int32)} {f36 : (Nat → Int32)} {f37 : (Nat → Int32)} {f38 : (Nat → Int32)} {f39 : (Nat → Int32)} {f40 : (Nat → Int32)} {f43 : (Nat → Int32)} {o : (Nat → Int32)} {H : Heap} {locs : List Loc} {ls : Array Slot}, q_X5_mix_L189 N n v1 f12 = some o → va_P (dC, dI) vwCl (wX5 cI cZ cJ cA h0 a x1 x3 x4 x5 x6 x7 x9 x10 x14 x15 x16 x19 x20 x21 x22 x23 x24 x41 x42 f0 f2 f8 f11 f12 f13 f17 f18 f25 f26 f27 f28 f29 f30 f31 f32 f33 f34 f35 f36 f37 f38 f39 f40 f43) H → va_D A (wX5 cI cZ cJ cA h0 a x1 x3 x4 x5 x6 x7 x9 x10 x14 x15 x16 x19 x20 x21 x22 x23 x24 x41 x42 f0 f2 f8 f11 f12 f13 f17 f18 f25 f26 f27 f28 f29 f30 f31 f32 f33 f34 f35 f36 f37 f38 f39 f40 f43) → va_S A s.heap H locs → lv_has ls 4 [(0, .ref h0), (1, .int v1)] →
    (∀ (H : Heap) (locs : List Loc) (ls : Array Slot), va_P (dC, dI) vwCl (wX5 cI cZ cJ cA h0 a x1 x3 x4 x5 x6 x7 x9 x10 x14 x15 x16 x19 x20 x21 x22 x23 x24 x41 x42 f0 f2 f8 f11 o f13 f17 f18 f25 f26 f27 f28 f29 f30 f31 f32 f33 f34 f35 f36 f37 f38 f39 f40 f43) H → va_D A (wX5 cI cZ cJ cA h0 a x1 x3 x4 x5 x6 x7 x9 x10 x14 x15 x16 x19 x20 x21 x22 x23 x24 x41 x42 f0 f2 f8 f11 o f13 f17 f18 f25 f26 f27 f28 f29 f30 f31 f32 f33 f34 f35 f36 f37 f38 f39 f40 f43) → va_S A s.heap H locs → lv_has ls 4 [(0, .ref h0)] → W p l e R s m args below meth c H locs 0 0 Q (F0 m 208 ls [])) →
    W p l e R s m args below meth c H locs 0 0 Q (F0 m 189 ls []) := by
  obtain ⟨⟨hx, hb, hml, hown, hts⟩, hRf, hRl, hA, hN, hK⟩ := C0
  intro n
  induction n with
  | zero =>
    intro v1 x1 x3 x4 x5 x6 x7 x9 x10 x14 x15 x16 x19 x20 x21 x22 x23 x24 x41 x42 f0 f2 f8 f11 f12 f13 f17 f18 f25 f26 f27 f28 f29 f30 f31 f32 f33 f34 f35 f36 f37 f38 f39 f40 f43 o H locs ls hf
    cases hf
  | succ n ih =>
    intro v1 x1 x3 x4 x5 x6 x7 x9 x10 x14 x15 x16 x19 x20 x21 x22 x23 x24 x41 x42 f0 f2 f8 f11 f12 f13 f17 f18 f25 f26 f27 f28 f29 f30 f31 f32 f33 f34 f35 f36 f37 f38 f39 f40 f43 o H locs ls hf hP hD hS hl hexit
    rw [q_X5_mix_L189] at hf
    refine lv_iload_n hx hb dX5_mix_189 rfl (lv_at hl 1 rfl) ?_
    refine lv_bipush (v := 24) hx hb dX5_mix_190 (by decide) ?_
    refine lv_icmp_ge (tgt := 208) hx hb dX5_mix_192 (by decide) (fun c1 => ?_) (fun c1 => ?_)
    · replace hf := z_ip hf c1
      obtain rfl := Option.some.inj hf
      exact hexit _ _ _ hP hD hS (lv_sub hl [0] rfl)
    · replace hf := z_im hf c1
      refine lv_aload_n hx hb dX5_mix_195 rfl (lv_at hl 0 rfl) ?_
      refine va_get (D := (dC, dI)) (ci := 5) (v := .ref (a 12)) (C := RX5) (T := TX5) (N := 44) hx hb hts (fun w hw => List.mem_cons_of_mem _ (List.mem_append_right _ hw)) hown hK hP 0 rfl rfl 12 (by decide) (hts (.fieldLink RX5 27 "OldStadiumModel" "won" "[I") (List.mem_of_getElem? (i := 8) rfl)) (fun _ h9 => h9) rfl dX5_mix_196 ?_
      refine lv_iload_n hx hb dX5_mix_199 rfl (lv_at hl 1 rfl) ?_
      refine lv_iconst (v := (-1)) hx hb dX5_mix_200 (by decide) ?_
      have b2 := z_c1 hf
      replace hf := z_c2 hf
      refine va_iast hx hb hK hP hD hS 5 0 rfl rfl b2 dX5_mix_201 (fun H locs hP hD hS => ?_)
      replace hP : va_P (dC, dI) vwCl (wX5 cI cZ cJ cA h0 a x1 x3 x4 x5 x6 x7 x9 x10 x14 x15 x16 x19 x20 x21 x22 x23 x24 x41 x42 f0 f2 f8 f11 (upd f12 (Int32.toNatClampNeg v1) (-1)) f13 f17 f18 f25 f26 f27 f28 f29 f30 f31 f32 f33 f34 f35 f36 f37 f38 f39 f40 f43) H := hP
      replace hD : va_D A (wX5 cI cZ cJ cA h0 a x1 x3 x4 x5 x6 x7 x9 x10 x14 x15 x16 x19 x20 x21 x22 x23 x24 x41 x42 f0 f2 f8 f11 (upd f12 (Int32.toNatClampNeg v1) (-1)) f13 f17 f18 f25 f26 f27 f28 f29 f30 f31 f32 f33 f34 f35 f36 f37 f38 f39 f40 f43) := hD
      refine lv_iinc (v := (v1 + 1)) (lv' := [(1, .int (v1 + 1)), (0, .ref h0)]) hx hb dX5_mix_202 hl (k := 1) rfl rfl (by decide) rfl (fun ls hl => ?_)
      refine lv_goto (tgt := 189) hx hb dX5_mix_205 (by decide) ?_
      exact ih hf hP hD hS (lv_sub hl [1, 0] rfl) hexit
def q_X5_mix_L210 (N : Nat) : Nat → Int32 → (Nat → Int32) → Option (Nat → Int32)
  | 0, _, _ => none
  | n + 1, v1, f13 =>
    (if 216 ≤ v1 then
     (some f13)
    else
     (if z_in v1 216 then
     (q_X5_mix_L210 N n (v1 + 1) (upd f13 (Int32.toNatClampNeg v1) (-1)))
     else none))
set_option maxHeartbeats 4000000 in
set_option maxRecDepth 100000 in
theorem b_X5_mix_L210 {p : Program} {l : Launch} {e : Env} {R : Room} {s : State} {m : MethodId} {args : Array Value} {below : List Frame} {meth : Method} {c : Code} {Q : State → Prop} {A : Nat → Prop} {dC : Nat → ClassId} {dI : Nat → Nat → Nat} {cI cZ cJ cA : ClassId} {h0 : Nat} {a : Nat → Nat} (N : Nat) (C0 : z_Cx p s m args c cX5_mix 4 wsX5_mix RX5 R 0 0 A dC dI (z_ty cI cZ cJ cA)) : ∀ (n : Nat) {v1 : Int32} {x1 : Int32} {x3 : Int32} {x4 : Int32} {x5 : Int32} {x6 : Int32} {x7 : Int32} {x9 : Int32} {x10 : Int32} {x14 : Int32} {x15 : Int32} {x16 : Int32} {x19 : Int32} {x20 : Int32} {x21 : Int32} {x22 : Int32} {x23 : Int32} {x24 : Int32} {x41 : Int32} {x42 : Int32} {f0 : (Nat → Int32)} {f2 : (Nat → Int32)} {f8 : (Nat → Int32)} {f11 : (Nat → Int32)} {f12 : (Nat → Int32)} {f13 : (Nat → Int32)} {f17 : (Nat → Int32)} {f18 : (Nat → Int32)} {f25 : (Nat → Int32)} {f26 : (Nat → Int32)} {f27 : (Nat → Int32)} {f28 : (Nat → Int32)} {f29 : (Nat → Int32)} {f30 : (Nat → Int32)} {f31 : (Nat → Int32)} {f32 : (Nat → Int32)} {f33 : (Nat → Int32)} {f34 : (Nat → Int32)} {f35 : (Nat → Int32)} {f36 : (Nat → Int32)} {f37 : (Nat → Int32)} {f38 : (Nat → Int32)} {f39 : (Nat → Int32)} {f40 : (Nat → Int32)} {f43 : (Nat → Int32)} {o : (Nat → Int32)} {H : Heap} {locs : List Loc} {ls : Array Slot}, q_X5_mix_L210 N n v1 f13 = some o → va_P (dC, dI) vwCl (wX5 cI cZ cJ cA h0 a x1 x3 x4 x5 x6 x7 x9 x10 x14 x15 x16 x19 x20 x21 x22 x23 x24 x41 x42 f0 f2 f8 f11 f12 f13 f17 f18 f25 f26 f27 f28 f29 f30 f31 f32 f33 f34 f35 f36 f37 f38 f39 f40 f43) H → va_D A (wX5 cI cZ cJ cA h0 a x1 x3 x4 x5 x6 x7 x9 x10 x14 x15 x16 x19 x20 x21 x22 x23 x24 x41 x42 f0 f2 f8 f11 f12 f13 f17 f18 f25 f26 f27 f28 f29 f30 f31 f32 f33 f34 f35 f36 f37 f38 f39 f40 f43) → va_S A s.heap H locs → lv_has ls 4 [(0, .ref h0), (1, .int v1)] →
    (∀ (H : Heap) (locs : List Loc) (ls : Array Slot), va_P (dC, dI) vwCl (wX5 cI cZ cJ cA h0 a x1 x3 x4 x5 x6 x7 x9 x10 x14 x15 x16 x19 x20 x21 x22 x23 x24 x41 x42 f0 f2 f8 f11 f12 o f17 f18 f25 f26 f27 f28 f29 f30 f31 f32 f33 f34 f35 f36 f37 f38 f39 f40 f43) H → va_D A (wX5 cI cZ cJ cA h0 a x1 x3 x4 x5 x6 x7 x9 x10 x14 x15 x16 x19 x20 x21 x22 x23 x24 x41 x42 f0 f2 f8 f11 f12 o f17 f18 f25 f26 f27 f28 f29 f30 f31 f32 f33 f34 f35 f36 f37 f38 f39 f40 f43) → va_S A s.heap H locs → lv_has ls 4 [] → W p l e R s m args below meth c H locs 0 0 Q (F0 m 230 ls [])) →
    W p l e R s m args below meth c H locs 0 0 Q (F0 m 210 ls []) := by
  obtain ⟨⟨hx, hb, hml, hown, hts⟩, hRf, hRl, hA, hN, hK⟩ := C0
  intro n
  induction n with
  | zero =>
    intro v1 x1 x3 x4 x5 x6 x7 x9 x10 x14 x15 x16 x19 x20 x21 x22 x23 x24 x41 x42 f0 f2 f8 f11 f12 f13 f17 f18 f25 f26 f27 f28 f29 f30 f31 f32 f33 f34 f35 f36 f37 f38 f39 f40 f43 o H locs ls hf
    cases hf
  | succ n ih =>
    intro v1 x1 x3 x4 x5 x6 x7 x9 x10 x14 x15 x16 x19 x20 x21 x22 x23 x24 x41 x42 f0 f2 f8 f11 f12 f13 f17 f18 f25 f26 f27 f28 f29 f30 f31 f32 f33 f34 f35 f36 f37 f38 f39 f40 f43 o H locs ls hf hP hD hS hl hexit
    rw [q_X5_mix_L210] at hf
    refine lv_iload_n hx hb dX5_mix_210 rfl (lv_at hl 1 rfl) ?_
    refine lv_sipush (v := 216) hx hb dX5_mix_211 (by decide) ?_
    refine lv_icmp_ge (tgt := 230) hx hb dX5_mix_214 (by decide) (fun c1 => ?_) (fun c1 => ?_)
    · replace hf := z_ip hf c1
      obtain rfl := Option.some.inj hf
      exact hexit _ _ _ hP hD hS (lv_sub hl [] rfl)
    · replace hf := z_im hf c1
      refine lv_aload_n hx hb dX5_mix_217 rfl (lv_at hl 0 rfl) ?_
      refine va_get (D := (dC, dI)) (ci := 5) (v := .ref (a 13)) (C := RX5) (T := TX5) (N := 44) hx hb hts (fun w hw => List.mem_cons_of_mem _ (List.mem_append_right _ hw)) hown hK hP 0 rfl rfl 13 (by decide) (hts (.fieldLink RX5 30 "OldStadiumModel" "votes" "[I") (List.mem_of_getElem? (i := 9) rfl)) (fun _ h9 => h9) rfl dX5_mix_218 ?_
      refine lv_iload_n hx hb dX5_mix_221 rfl (lv_at hl 1 rfl) ?_
      refine lv_iconst (v := (-1)) hx hb dX5_mix_222 (by decide) ?_
      have b2 := z_c1 hf
      replace hf := z_c2 hf
      refine va_iast hx hb hK hP hD hS 6 0 rfl rfl b2 dX5_mix_223 (fun H locs hP hD hS => ?_)
      replace hP : va_P (dC, dI) vwCl (wX5 cI cZ cJ cA h0 a x1 x3 x4 x5 x6 x7 x9 x10 x14 x15 x16 x19 x20 x21 x22 x23 x24 x41 x42 f0 f2 f8 f11 f12 (upd f13 (Int32.toNatClampNeg v1) (-1)) f17 f18 f25 f26 f27 f28 f29 f30 f31 f32 f33 f34 f35 f36 f37 f38 f39 f40 f43) H := hP
      replace hD : va_D A (wX5 cI cZ cJ cA h0 a x1 x3 x4 x5 x6 x7 x9 x10 x14 x15 x16 x19 x20 x21 x22 x23 x24 x41 x42 f0 f2 f8 f11 f12 (upd f13 (Int32.toNatClampNeg v1) (-1)) f17 f18 f25 f26 f27 f28 f29 f30 f31 f32 f33 f34 f35 f36 f37 f38 f39 f40 f43) := hD
      refine lv_iinc (v := (v1 + 1)) (lv' := [(1, .int (v1 + 1)), (0, .ref h0)]) hx hb dX5_mix_224 hl (k := 1) rfl rfl (by decide) rfl (fun ls hl => ?_)
      refine lv_goto (tgt := 210) hx hb dX5_mix_227 (by decide) ?_
      exact ih hf hP hD hS (lv_sub hl [1, 0] rfl) hexit
def q_X5_mix_L113 (N : Nat) (f8 : (Nat → Int32)) (f11 : (Nat → Int32)) : Nat → Int32 → Option Int32
  | 0, _ => none
  | n + 1, v2 =>
    (if v2 < 0 then
     (some v2)
    else
     (if z_in v2 24 then
     (if z_in (f8 (Int32.toNatClampNeg v2)) 24 then
     (if (f11 (Int32.toNatClampNeg (f8 (Int32.toNatClampNeg v2)))) = 0 then
      (some v2)
     else
      (q_X5_mix_L113 N f8 f11 n (v2 + (-1))))
     else none)
     else none))
set_option maxHeartbeats 4000000 in
set_option maxRecDepth 100000 in
theorem b_X5_mix_L113 {p : Program} {l : Launch} {e : Env} {R : Room} {s : State} {m : MethodId} {args : Array Value} {below : List Frame} {meth : Method} {c : Code} {Q : State → Prop} {A : Nat → Prop} {dC : Nat → ClassId} {dI : Nat → Nat → Nat} {cI cZ cJ cA : ClassId} {h0 : Nat} {a : Nat → Nat} (N : Nat) (C0 : z_Cx p s m args c cX5_mix 4 wsX5_mix RX5 R 0 0 A dC dI (z_ty cI cZ cJ cA)) : ∀ (n : Nat) {v1 : Int32} {v2 : Int32} {x1 : Int32} {x3 : Int32} {x4 : Int32} {x5 : Int32} {x6 : Int32} {x7 : Int32} {x9 : Int32} {x10 : Int32} {x14 : Int32} {x15 : Int32} {x16 : Int32} {x19 : Int32} {x20 : Int32} {x21 : Int32} {x22 : Int32} {x23 : Int32} {x24 : Int32} {x41 : Int32} {x42 : Int32} {f0 : (Nat → Int32)} {f2 : (Nat → Int32)} {f8 : (Nat → Int32)} {f11 : (Nat → Int32)} {f12 : (Nat → Int32)} {f13 : (Nat → Int32)} {f17 : (Nat → Int32)} {f18 : (Nat → Int32)} {f25 : (Nat → Int32)} {f26 : (Nat → Int32)} {f27 : (Nat → Int32)} {f28 : (Nat → Int32)} {f29 : (Nat → Int32)} {f30 : (Nat → Int32)} {f31 : (Nat → Int32)} {f32 : (Nat → Int32)} {f33 : (Nat → Int32)} {f34 : (Nat → Int32)} {f35 : (Nat → Int32)} {f36 : (Nat → Int32)} {f37 : (Nat → Int32)} {f38 : (Nat → Int32)} {f39 : (Nat → Int32)} {f40 : (Nat → Int32)} {f43 : (Nat → Int32)} {o : Int32} {H : Heap} {locs : List Loc} {ls : Array Slot}, q_X5_mix_L113 N f8 f11 n v2 = some o → va_P (dC, dI) vwCl (wX5 cI cZ cJ cA h0 a x1 x3 x4 x5 x6 x7 x9 x10 x14 x15 x16 x19 x20 x21 x22 x23 x24 x41 x42 f0 f2 f8 f11 f12 f13 f17 f18 f25 f26 f27 f28 f29 f30 f31 f32 f33 f34 f35 f36 f37 f38 f39 f40 f43) H → va_D A (wX5 cI cZ cJ cA h0 a x1 x3 x4 x5 x6 x7 x9 x10 x14 x15 x16 x19 x20 x21 x22 x23 x24 x41 x42 f0 f2 f8 f11 f12 f13 f17 f18 f25 f26 f27 f28 f29 f30 f31 f32 f33 f34 f35 f36 f37 f38 f39 f40 f43) → va_S A s.heap H locs → lv_has ls 4 [(0, .ref h0), (1, .int v1), (2, .int v2)] →
    (∀ (H : Heap) (locs : List Loc) (ls : Array Slot), va_P (dC, dI) vwCl (wX5 cI cZ cJ cA h0 a x1 x3 x4 x5 x6 x7 x9 x10 x14 x15 x16 x19 x20 x21 x22 x23 x24 x41 x42 f0 f2 f8 f11 f12 f13 f17 f18 f25 f26 f27 f28 f29 f30 f31 f32 f33 f34 f35 f36 f37 f38 f39 f40 f43) H → va_D A (wX5 cI cZ cJ cA h0 a x1 x3 x4 x5 x6 x7 x9 x10 x14 x15 x16 x19 x20 x21 x22 x23 x24 x41 x42 f0 f2 f8 f11 f12 f13 f17 f18 f25 f26 f27 f28 f29 f30 f31 f32 f33 f34 f35 f36 f37 f38 f39 f40 f43) → va_S A s.heap H locs → lv_has ls 4 [(0, .ref h0), (1, .int v1), (2, .int o)] → W p l e R s m args below meth c H locs 0 0 Q (F0 m 137 ls [])) →
    W p l e R s m args below meth c H locs 0 0 Q (F0 m 113 ls []) := by
  obtain ⟨⟨hx, hb, hml, hown, hts⟩, hRf, hRl, hA, hN, hK⟩ := C0
  intro n
  induction n with
  | zero =>
    intro v1 v2 x1 x3 x4 x5 x6 x7 x9 x10 x14 x15 x16 x19 x20 x21 x22 x23 x24 x41 x42 f0 f2 f8 f11 f12 f13 f17 f18 f25 f26 f27 f28 f29 f30 f31 f32 f33 f34 f35 f36 f37 f38 f39 f40 f43 o H locs ls hf
    cases hf
  | succ n ih =>
    intro v1 v2 x1 x3 x4 x5 x6 x7 x9 x10 x14 x15 x16 x19 x20 x21 x22 x23 x24 x41 x42 f0 f2 f8 f11 f12 f13 f17 f18 f25 f26 f27 f28 f29 f30 f31 f32 f33 f34 f35 f36 f37 f38 f39 f40 f43 o H locs ls hf hP hD hS hl hexit
    rw [q_X5_mix_L113] at hf
    refine lv_iload_n hx hb dX5_mix_113 rfl (lv_at hl 2 rfl) ?_
    refine lv_if_lt (tgt := 137) hx hb dX5_mix_114 (by decide) (fun c1 => ?_) (fun c1 => ?_)
    · replace hf := z_ip hf c1
      obtain rfl := Option.some.inj hf
      exact hexit _ _ _ hP hD hS (lv_sub hl [0, 1, 2] rfl)
    · replace hf := z_im hf c1
      refine lv_aload_n hx hb dX5_mix_117 rfl (lv_at hl 0 rfl) ?_
      refine va_get (D := (dC, dI)) (ci := 5) (v := .ref (a 11)) (C := RX5) (T := TX5) (N := 44) hx hb hts (fun w hw => List.mem_cons_of_mem _ (List.mem_append_right _ hw)) hown hK hP 0 rfl rfl 11 (by decide) (hts (.fieldLink RX5 23 "OldStadiumModel" "hadBye" "[Z") (List.mem_of_getElem? (i := 7) rfl)) (fun _ h9 => h9) rfl dX5_mix_118 ?_
      refine lv_aload_n hx hb dX5_mix_121 rfl (lv_at hl 0 rfl) ?_
      refine va_get (D := (dC, dI)) (ci := 5) (v := .ref (a 8)) (C := RX5) (T := TX5) (N := 44) hx hb hts (fun w hw => List.mem_cons_of_mem _ (List.mem_append_right _ hw)) hown hK hP 0 rfl rfl 8 (by decide) (hts (.fieldLink RX5 16 "OldStadiumModel" "row" "[I") (List.mem_of_getElem? (i := 4) rfl)) (fun _ h9 => h9) rfl dX5_mix_122 ?_
      refine lv_iload_n hx hb dX5_mix_125 rfl (lv_at hl 2 rfl) ?_
      have b2 := z_c1 hf
      replace hf := z_c2 hf
      refine va_iald hx hb hK hP 3 0 rfl rfl b2 dX5_mix_126 ?_
      have b3 := z_c1 hf
      replace hf := z_c2 hf
      refine va_zald hx hb hK hP 4 1 rfl rfl b3 dX5_mix_127 ?_
      refine lv_if_eq (tgt := 137) hx hb dX5_mix_128 (by decide) (fun c4 => ?_) (fun c4 => ?_)
      · replace hf := z_ip hf c4
        obtain rfl := Option.some.inj hf
        exact hexit _ _ _ hP hD hS (lv_sub hl [0, 1, 2] rfl)
      · replace hf := z_im hf c4
        refine lv_iinc (v := (v2 + (-1))) (lv' := [(2, .int (v2 + (-1))), (0, .ref h0), (1, .int v1)]) hx hb dX5_mix_131 hl (k := 2) rfl rfl (by decide) rfl (fun ls hl => ?_)
        refine lv_goto (tgt := 113) hx hb dX5_mix_134 (by decide) ?_
        exact ih hf hP hD hS (lv_sub hl [1, 2, 0] rfl) hexit
def q_X5_mix (N : Nat) (x5 : Int32) (x6 : Int32) (x9 : Int32) (x10 : Int32) (f8 : (Nat → Int32)) (f11 : (Nat → Int32)) (f12 : (Nat → Int32)) (f13 : (Nat → Int32)) : Option (Int32 × Int32 × (Nat → Int32) × (Nat → Int32) × (Nat → Int32) × (Nat → Int32)) :=
  (Option.bind (q_X5_mix_L7 N N (x9 - 1) x6 f8) (fun t1 =>
  (if x5 = 0 then none else
  (if (z_rem x9 x5) = 1 then
   (if z_in (x9 - 1) 24 then
   (if z_in (t1.2 (Int32.toNatClampNeg (x9 - 1))) 24 then
   (if (f11 (Int32.toNatClampNeg (t1.2 (Int32.toNatClampNeg (x9 - 1))))) = 0 then
    (Option.bind (q_X5_mix_L189 N N 0 f12) (fun t9 =>
    (Option.bind (q_X5_mix_L210 N N 0 f13) (fun t10 =>
    (some (t1.1, (t1.2 (Int32.toNatClampNeg (x9 - 1))), t1.2, (upd f11 (Int32.toNatClampNeg (t1.2 (Int32.toNatClampNeg (x9 - 1)))) (vp_nar .boolean 1)), t9, t10))))))
   else
    (Option.bind (q_X5_mix_L113 N t1.2 f11 N ((x9 - 1) - 1)) (fun t11 =>
    (if t11 < 0 then
     (Option.bind (q_X5_mix_L189 N N 0 f12) (fun t13 =>
     (Option.bind (q_X5_mix_L210 N N 0 f13) (fun t14 =>
     (some (t1.1, (t1.2 (Int32.toNatClampNeg (x9 - 1))), t1.2, (upd f11 (Int32.toNatClampNeg (t1.2 (Int32.toNatClampNeg (x9 - 1)))) (vp_nar .boolean 1)), t13, t14))))))
    else
     (if z_in t11 24 then
     (Option.bind (some (((upd (upd t1.2 (Int32.toNatClampNeg t11) (t1.2 (Int32.toNatClampNeg (x9 - 1)))) (Int32.toNatClampNeg (x9 - 1)) (t1.2 (Int32.toNatClampNeg t11))) (Int32.toNatClampNeg (x9 - 1))) : Int32)) (fun n16 =>
     (if z_in n16 24 then
     (Option.bind (q_X5_mix_L189 N N 0 f12) (fun t18 =>
     (Option.bind (q_X5_mix_L210 N N 0 f13) (fun t19 =>
     (some (t1.1, n16, (upd (upd t1.2 (Int32.toNatClampNeg t11) (t1.2 (Int32.toNatClampNeg (x9 - 1)))) (Int32.toNatClampNeg (x9 - 1)) (t1.2 (Int32.toNatClampNeg t11))), (upd f11 (Int32.toNatClampNeg n16) (vp_nar .boolean 1)), t18, t19))))))
     else none)))
     else none)))))
   else none)
   else none)
  else
   (Option.bind (q_X5_mix_L189 N N 0 f12) (fun t4 =>
   (Option.bind (q_X5_mix_L210 N N 0 f13) (fun t5 =>
   (some (t1.1, (-1), t1.2, f11, t4, t5))))))))))
set_option maxHeartbeats 4000000 in
set_option maxRecDepth 100000 in
theorem b_X5_mix {p : Program} {l : Launch} {e : Env} {R : Room} {s : State} {m : MethodId} {args : Array Value} {below : List Frame} {meth : Method} {c : Code} {Q : State → Prop} {A : Nat → Prop} {dC : Nat → ClassId} {dI : Nat → Nat → Nat} {cI cZ cJ cA : ClassId} {h0 : Nat} {a : Nat → Nat} (N : Nat) (C0 : z_Cx p s m args c cX5_mix 4 wsX5_mix RX5 R 0 0 A dC dI (z_ty cI cZ cJ cA)) {x1 : Int32} {x3 : Int32} {x4 : Int32} {x5 : Int32} {x6 : Int32} {x7 : Int32} {x9 : Int32} {x10 : Int32} {x14 : Int32} {x15 : Int32} {x16 : Int32} {x19 : Int32} {x20 : Int32} {x21 : Int32} {x22 : Int32} {x23 : Int32} {x24 : Int32} {x41 : Int32} {x42 : Int32} {f0 : (Nat → Int32)} {f2 : (Nat → Int32)} {f8 : (Nat → Int32)} {f11 : (Nat → Int32)} {f12 : (Nat → Int32)} {f13 : (Nat → Int32)} {f17 : (Nat → Int32)} {f18 : (Nat → Int32)} {f25 : (Nat → Int32)} {f26 : (Nat → Int32)} {f27 : (Nat → Int32)} {f28 : (Nat → Int32)} {f29 : (Nat → Int32)} {f30 : (Nat → Int32)} {f31 : (Nat → Int32)} {f32 : (Nat → Int32)} {f33 : (Nat → Int32)} {f34 : (Nat → Int32)} {f35 : (Nat → Int32)} {f36 : (Nat → Int32)} {f37 : (Nat → Int32)} {f38 : (Nat → Int32)} {f39 : (Nat → Int32)} {f40 : (Nat → Int32)} {f43 : (Nat → Int32)} {o : (Int32 × Int32 × (Nat → Int32) × (Nat → Int32) × (Nat → Int32) × (Nat → Int32))} {H : Heap} {locs : List Loc} {ls : Array Slot} (hf : q_X5_mix N x5 x6 x9 x10 f8 f11 f12 f13 = some o) (hP : va_P (dC, dI) vwCl (wX5 cI cZ cJ cA h0 a x1 x3 x4 x5 x6 x7 x9 x10 x14 x15 x16 x19 x20 x21 x22 x23 x24 x41 x42 f0 f2 f8 f11 f12 f13 f17 f18 f25 f26 f27 f28 f29 f30 f31 f32 f33 f34 f35 f36 f37 f38 f39 f40 f43) H) (hD : va_D A (wX5 cI cZ cJ cA h0 a x1 x3 x4 x5 x6 x7 x9 x10 x14 x15 x16 x19 x20 x21 x22 x23 x24 x41 x42 f0 f2 f8 f11 f12 f13 f17 f18 f25 f26 f27 f28 f29 f30 f31 f32 f33 f34 f35 f36 f37 f38 f39 f40 f43)) (hS : va_S A s.heap H locs) (hl : lv_has ls 4 [(0, .ref h0)])
    (hret : ∀ (pc : Nat) (H : Heap) (locs : List Loc) (ls : Array Slot), decode cX5_mix pc = .ok (.return_, 1) → va_P (dC, dI) vwCl (wX5 cI cZ cJ cA h0 a x1 x3 x4 x5 o.1 x7 x9 o.2.1 x14 x15 x16 x19 x20 x21 x22 x23 x24 x41 x42 f0 f2 o.2.2.1 o.2.2.2.1 o.2.2.2.2.1 o.2.2.2.2.2 f17 f18 f25 f26 f27 f28 f29 f30 f31 f32 f33 f34 f35 f36 f37 f38 f39 f40 f43) H → va_D A (wX5 cI cZ cJ cA h0 a x1 x3 x4 x5 o.1 x7 x9 o.2.1 x14 x15 x16 x19 x20 x21 x22 x23 x24 x41 x42 f0 f2 o.2.2.1 o.2.2.2.1 o.2.2.2.2.1 o.2.2.2.2.2 f17 f18 f25 f26 f27 f28 f29 f30 f31 f32 f33 f34 f35 f36 f37 f38 f39 f40 f43) → va_S A s.heap H locs → W p l e R s m args below meth c H locs 0 0 Q (F0 m pc ls [])) :
    W p l e R s m args below meth c H locs 0 0 Q (F0 m 0 ls []) := by
  obtain ⟨⟨hx, hb, hml, hown, hts⟩, hRf, hRl, hA, hN, hK⟩ := C0
  unfold q_X5_mix at hf
  refine lv_aload_n hx hb dX5_mix_0 rfl (lv_at hl 0 rfl) ?_
  refine va_get (D := (dC, dI)) (ci := 5) (v := .int x9) (C := RX5) (T := TX5) (N := 44) hx hb hts (fun w hw => List.mem_cons_of_mem _ (List.mem_append_right _ hw)) hown hK hP 0 rfl rfl 9 (by decide) (hts (.fieldLink RX5 106 "OldStadiumModel" "many" "I") (List.mem_of_getElem? (i := 1) rfl)) (fun _ h9 => h9) rfl dX5_mix_1 ?_
  refine lv_iconst (v := 1) hx hb dX5_mix_4 (by decide) ?_
  refine lv_isub hx hb dX5_mix_5 ?_
  refine lv_istore_n (lv' := [(1, .int (x9 - 1)), (0, .ref h0)]) hx hb dX5_mix_6 rfl hl (by decide) rfl (fun ls hl => ?_)
  obtain ⟨t1, ht1, hf1⟩ := z_ib hf
  replace hf := hf1
  clear hf1
  refine b_X5_mix_L7 N ⟨⟨hx, hb, hml, hown, hts⟩, hRf, hRl, hA, hN, hK⟩ N ht1 hP hD hS (lv_sub hl [1, 0] rfl) (fun H locs ls hP hD hS hl => ?_)
  refine lv_aload_n hx hb dX5_mix_70 rfl (lv_at hl 0 rfl) ?_
  refine lv_iconst (v := (-1)) hx hb dX5_mix_71 (by decide) ?_
  refine va_put (D := (dC, dI)) (ci := 5) (v := .int (-1)) (ty := .int) (C := RX5) (T := TX5) (N := 44) hx hb hts (fun w hw => List.mem_cons_of_mem _ (List.mem_append_right _ hw)) tyX5 tyX5_ok nmX5 hown hK hP hD hS 0 rfl rfl 10 (by decide) (hts (.fieldLink RX5 19 "OldStadiumModel" "bye" "I") (List.mem_of_getElem? (i := 5) rfl)) (fun _ h9 => h9) rfl (by decide +kernel) rfl rfl (Nat.le_of_ble_eq_true rfl) dX5_mix_72 (fun H locs hP hD hS => ?_)
  replace hP : va_P (dC, dI) vwCl (wX5 cI cZ cJ cA h0 a x1 x3 x4 x5 t1.1 x7 x9 (-1) x14 x15 x16 x19 x20 x21 x22 x23 x24 x41 x42 f0 f2 t1.2 f11 f12 f13 f17 f18 f25 f26 f27 f28 f29 f30 f31 f32 f33 f34 f35 f36 f37 f38 f39 f40 f43) H := hP
  replace hD : va_D A (wX5 cI cZ cJ cA h0 a x1 x3 x4 x5 t1.1 x7 x9 (-1) x14 x15 x16 x19 x20 x21 x22 x23 x24 x41 x42 f0 f2 t1.2 f11 f12 f13 f17 f18 f25 f26 f27 f28 f29 f30 f31 f32 f33 f34 f35 f36 f37 f38 f39 f40 f43) := hD
  refine lv_aload_n hx hb dX5_mix_75 rfl (lv_at hl 0 rfl) ?_
  refine va_get (D := (dC, dI)) (ci := 5) (v := .int x9) (C := RX5) (T := TX5) (N := 44) hx hb hts (fun w hw => List.mem_cons_of_mem _ (List.mem_append_right _ hw)) hown hK hP 0 rfl rfl 9 (by decide) (hts (.fieldLink RX5 106 "OldStadiumModel" "many" "I") (List.mem_of_getElem? (i := 1) rfl)) (fun _ h9 => h9) rfl dX5_mix_76 ?_
  refine lv_aload_n hx hb dX5_mix_79 rfl (lv_at hl 0 rfl) ?_
  refine va_get (D := (dC, dI)) (ci := 5) (v := .int x5) (C := RX5) (T := TX5) (N := 44) hx hb hts (fun w hw => List.mem_cons_of_mem _ (List.mem_append_right _ hw)) hown hK hP 0 rfl rfl 5 (by decide) (hts (.fieldLink RX5 109 "OldStadiumModel" "size" "I") (List.mem_of_getElem? (i := 6) rfl)) (fun _ h9 => h9) rfl dX5_mix_80 ?_
  have d2 := z_n1 hf
  replace hf := z_n2 hf
  refine z_irem hx hb dX5_mix_83 d2 ?_
  refine lv_iconst (v := 1) hx hb dX5_mix_84 (by decide) ?_
  refine lv_icmp_ne (tgt := 187) hx hb dX5_mix_85 (by decide) (fun c3 => ?_) (fun c3 => ?_)
  · replace hf := z_im hf c3
    refine lv_iconst (v := 0) hx hb dX5_mix_187 (by decide) ?_
    refine lv_istore_n (lv' := [(1, .int 0), (0, .ref h0)]) hx hb dX5_mix_188 rfl hl (by decide) rfl (fun ls hl => ?_)
    obtain ⟨t4, ht4, hf1⟩ := z_ib hf
    replace hf := hf1
    clear hf1
    refine b_X5_mix_L189 N ⟨⟨hx, hb, hml, hown, hts⟩, hRf, hRl, hA, hN, hK⟩ N ht4 hP hD hS (lv_sub hl [1, 0] rfl) (fun H locs ls hP hD hS hl => ?_)
    refine lv_iconst (v := 0) hx hb dX5_mix_208 (by decide) ?_
    refine lv_istore_n (lv' := [(1, .int 0), (0, .ref h0)]) hx hb dX5_mix_209 rfl hl (by decide) rfl (fun ls hl => ?_)
    obtain ⟨t5, ht5, hf1⟩ := z_ib hf
    replace hf := hf1
    clear hf1
    refine b_X5_mix_L210 N ⟨⟨hx, hb, hml, hown, hts⟩, hRf, hRl, hA, hN, hK⟩ N ht5 hP hD hS (lv_sub hl [1, 0] rfl) (fun H locs ls hP hD hS hl => ?_)
    obtain rfl := Option.some.inj hf
    exact hret _ _ _ _ dX5_mix_230 hP hD hS
  · replace hf := z_ip hf c3
    refine lv_aload_n hx hb dX5_mix_88 rfl (lv_at hl 0 rfl) ?_
    refine va_get (D := (dC, dI)) (ci := 5) (v := .int x9) (C := RX5) (T := TX5) (N := 44) hx hb hts (fun w hw => List.mem_cons_of_mem _ (List.mem_append_right _ hw)) hown hK hP 0 rfl rfl 9 (by decide) (hts (.fieldLink RX5 106 "OldStadiumModel" "many" "I") (List.mem_of_getElem? (i := 1) rfl)) (fun _ h9 => h9) rfl dX5_mix_89 ?_
    refine lv_iconst (v := 1) hx hb dX5_mix_92 (by decide) ?_
    refine lv_isub hx hb dX5_mix_93 ?_
    refine lv_istore_n (lv' := [(1, .int (x9 - 1)), (0, .ref h0)]) hx hb dX5_mix_94 rfl hl (by decide) rfl (fun ls hl => ?_)
    refine lv_aload_n hx hb dX5_mix_95 rfl (lv_at hl 1 rfl) ?_
    refine va_get (D := (dC, dI)) (ci := 5) (v := .ref (a 11)) (C := RX5) (T := TX5) (N := 44) hx hb hts (fun w hw => List.mem_cons_of_mem _ (List.mem_append_right _ hw)) hown hK hP 0 rfl rfl 11 (by decide) (hts (.fieldLink RX5 23 "OldStadiumModel" "hadBye" "[Z") (List.mem_of_getElem? (i := 7) rfl)) (fun _ h9 => h9) rfl dX5_mix_96 ?_
    refine lv_aload_n hx hb dX5_mix_99 rfl (lv_at hl 1 rfl) ?_
    refine va_get (D := (dC, dI)) (ci := 5) (v := .ref (a 8)) (C := RX5) (T := TX5) (N := 44) hx hb hts (fun w hw => List.mem_cons_of_mem _ (List.mem_append_right _ hw)) hown hK hP 0 rfl rfl 8 (by decide) (hts (.fieldLink RX5 16 "OldStadiumModel" "row" "[I") (List.mem_of_getElem? (i := 4) rfl)) (fun _ h9 => h9) rfl dX5_mix_100 ?_
    refine lv_iload_n hx hb dX5_mix_103 rfl (lv_at hl 0 rfl) ?_
    have b6 := z_c1 hf
    replace hf := z_c2 hf
    refine va_iald hx hb hK hP 3 0 rfl rfl b6 dX5_mix_104 ?_
    have b7 := z_c1 hf
    replace hf := z_c2 hf
    refine va_zald hx hb hK hP 4 1 rfl rfl b7 dX5_mix_105 ?_
    refine lv_if_eq (tgt := 167) hx hb dX5_mix_106 (by decide) (fun c8 => ?_) (fun c8 => ?_)
    · replace hf := z_ip hf c8
      refine lv_aload_n hx hb dX5_mix_167 rfl (lv_at hl 1 rfl) ?_
      refine lv_aload_n hx hb dX5_mix_168 rfl (lv_at hl 1 rfl) ?_
      refine va_get (D := (dC, dI)) (ci := 5) (v := .ref (a 8)) (C := RX5) (T := TX5) (N := 44) hx hb hts (fun w hw => List.mem_cons_of_mem _ (List.mem_append_right _ hw)) hown hK hP 0 rfl rfl 8 (by decide) (hts (.fieldLink RX5 16 "OldStadiumModel" "row" "[I") (List.mem_of_getElem? (i := 4) rfl)) (fun _ h9 => h9) rfl dX5_mix_169 ?_
      refine lv_iload_n hx hb dX5_mix_172 rfl (lv_at hl 0 rfl) ?_
      refine va_iald hx hb hK hP 3 0 rfl rfl b6 dX5_mix_173 ?_
      refine va_put (D := (dC, dI)) (ci := 5) (v := .int (t1.2 (Int32.toNatClampNeg (x9 - 1)))) (ty := .int) (C := RX5) (T := TX5) (N := 44) hx hb hts (fun w hw => List.mem_cons_of_mem _ (List.mem_append_right _ hw)) tyX5 tyX5_ok nmX5 hown hK hP hD hS 0 rfl rfl 10 (by decide) (hts (.fieldLink RX5 19 "OldStadiumModel" "bye" "I") (List.mem_of_getElem? (i := 5) rfl)) (fun _ h9 => h9) rfl (by decide +kernel) rfl rfl (Nat.le_of_ble_eq_true rfl) dX5_mix_174 (fun H locs hP hD hS => ?_)
      replace hP : va_P (dC, dI) vwCl (wX5 cI cZ cJ cA h0 a x1 x3 x4 x5 t1.1 x7 x9 (t1.2 (Int32.toNatClampNeg (x9 - 1))) x14 x15 x16 x19 x20 x21 x22 x23 x24 x41 x42 f0 f2 t1.2 f11 f12 f13 f17 f18 f25 f26 f27 f28 f29 f30 f31 f32 f33 f34 f35 f36 f37 f38 f39 f40 f43) H := hP
      replace hD : va_D A (wX5 cI cZ cJ cA h0 a x1 x3 x4 x5 t1.1 x7 x9 (t1.2 (Int32.toNatClampNeg (x9 - 1))) x14 x15 x16 x19 x20 x21 x22 x23 x24 x41 x42 f0 f2 t1.2 f11 f12 f13 f17 f18 f25 f26 f27 f28 f29 f30 f31 f32 f33 f34 f35 f36 f37 f38 f39 f40 f43) := hD
      refine lv_aload_n hx hb dX5_mix_177 rfl (lv_at hl 1 rfl) ?_
      refine va_get (D := (dC, dI)) (ci := 5) (v := .ref (a 11)) (C := RX5) (T := TX5) (N := 44) hx hb hts (fun w hw => List.mem_cons_of_mem _ (List.mem_append_right _ hw)) hown hK hP 0 rfl rfl 11 (by decide) (hts (.fieldLink RX5 23 "OldStadiumModel" "hadBye" "[Z") (List.mem_of_getElem? (i := 7) rfl)) (fun _ h9 => h9) rfl dX5_mix_178 ?_
      refine lv_aload_n hx hb dX5_mix_181 rfl (lv_at hl 1 rfl) ?_
      refine va_get (D := (dC, dI)) (ci := 5) (v := .int (t1.2 (Int32.toNatClampNeg (x9 - 1)))) (C := RX5) (T := TX5) (N := 44) hx hb hts (fun w hw => List.mem_cons_of_mem _ (List.mem_append_right _ hw)) hown hK hP 0 rfl rfl 10 (by decide) (hts (.fieldLink RX5 19 "OldStadiumModel" "bye" "I") (List.mem_of_getElem? (i := 5) rfl)) (fun _ h9 => h9) rfl dX5_mix_182 ?_
      refine lv_iconst (v := 1) hx hb dX5_mix_185 (by decide) ?_
      refine va_zast hx hb hK hP hD hS 4 1 rfl rfl b7 dX5_mix_186 (fun H locs hP hD hS => ?_)
      replace hP : va_P (dC, dI) vwCl (wX5 cI cZ cJ cA h0 a x1 x3 x4 x5 t1.1 x7 x9 (t1.2 (Int32.toNatClampNeg (x9 - 1))) x14 x15 x16 x19 x20 x21 x22 x23 x24 x41 x42 f0 f2 t1.2 (upd f11 (Int32.toNatClampNeg (t1.2 (Int32.toNatClampNeg (x9 - 1)))) (vp_nar .boolean 1)) f12 f13 f17 f18 f25 f26 f27 f28 f29 f30 f31 f32 f33 f34 f35 f36 f37 f38 f39 f40 f43) H := hP
      replace hD : va_D A (wX5 cI cZ cJ cA h0 a x1 x3 x4 x5 t1.1 x7 x9 (t1.2 (Int32.toNatClampNeg (x9 - 1))) x14 x15 x16 x19 x20 x21 x22 x23 x24 x41 x42 f0 f2 t1.2 (upd f11 (Int32.toNatClampNeg (t1.2 (Int32.toNatClampNeg (x9 - 1)))) (vp_nar .boolean 1)) f12 f13 f17 f18 f25 f26 f27 f28 f29 f30 f31 f32 f33 f34 f35 f36 f37 f38 f39 f40 f43) := hD
      refine lv_iconst (v := 0) hx hb dX5_mix_187 (by decide) ?_
      refine lv_istore_n (lv' := [(1, .int 0), (0, .ref h0)]) hx hb dX5_mix_188 rfl hl (by decide) rfl (fun ls hl => ?_)
      obtain ⟨t9, ht9, hf1⟩ := z_ib hf
      replace hf := hf1
      clear hf1
      refine b_X5_mix_L189 N ⟨⟨hx, hb, hml, hown, hts⟩, hRf, hRl, hA, hN, hK⟩ N ht9 hP hD hS (lv_sub hl [1, 0] rfl) (fun H locs ls hP hD hS hl => ?_)
      refine lv_iconst (v := 0) hx hb dX5_mix_208 (by decide) ?_
      refine lv_istore_n (lv' := [(1, .int 0), (0, .ref h0)]) hx hb dX5_mix_209 rfl hl (by decide) rfl (fun ls hl => ?_)
      obtain ⟨t10, ht10, hf1⟩ := z_ib hf
      replace hf := hf1
      clear hf1
      refine b_X5_mix_L210 N ⟨⟨hx, hb, hml, hown, hts⟩, hRf, hRl, hA, hN, hK⟩ N ht10 hP hD hS (lv_sub hl [1, 0] rfl) (fun H locs ls hP hD hS hl => ?_)
      obtain rfl := Option.some.inj hf
      exact hret _ _ _ _ dX5_mix_230 hP hD hS
    · replace hf := z_im hf c8
      refine lv_iload_n hx hb dX5_mix_109 rfl (lv_at hl 0 rfl) ?_
      refine lv_iconst (v := 1) hx hb dX5_mix_110 (by decide) ?_
      refine lv_isub hx hb dX5_mix_111 ?_
      refine lv_istore_n (lv' := [(2, .int ((x9 - 1) - 1)), (1, .int (x9 - 1)), (0, .ref h0)]) hx hb dX5_mix_112 rfl hl (by decide) rfl (fun ls hl => ?_)
      obtain ⟨t11, ht11, hf1⟩ := z_ib hf
      replace hf := hf1
      clear hf1
      refine b_X5_mix_L113 N ⟨⟨hx, hb, hml, hown, hts⟩, hRf, hRl, hA, hN, hK⟩ N ht11 hP hD hS (lv_sub hl [2, 1, 0] rfl) (fun H locs ls hP hD hS hl => ?_)
      refine lv_iload_n hx hb dX5_mix_137 rfl (lv_at hl 2 rfl) ?_
      refine lv_if_lt (tgt := 167) hx hb dX5_mix_138 (by decide) (fun c12 => ?_) (fun c12 => ?_)
      · replace hf := z_ip hf c12
        refine lv_aload_n hx hb dX5_mix_167 rfl (lv_at hl 0 rfl) ?_
        refine lv_aload_n hx hb dX5_mix_168 rfl (lv_at hl 0 rfl) ?_
        refine va_get (D := (dC, dI)) (ci := 5) (v := .ref (a 8)) (C := RX5) (T := TX5) (N := 44) hx hb hts (fun w hw => List.mem_cons_of_mem _ (List.mem_append_right _ hw)) hown hK hP 0 rfl rfl 8 (by decide) (hts (.fieldLink RX5 16 "OldStadiumModel" "row" "[I") (List.mem_of_getElem? (i := 4) rfl)) (fun _ h9 => h9) rfl dX5_mix_169 ?_
        refine lv_iload_n hx hb dX5_mix_172 rfl (lv_at hl 1 rfl) ?_
        refine va_iald hx hb hK hP 3 0 rfl rfl b6 dX5_mix_173 ?_
        refine va_put (D := (dC, dI)) (ci := 5) (v := .int (t1.2 (Int32.toNatClampNeg (x9 - 1)))) (ty := .int) (C := RX5) (T := TX5) (N := 44) hx hb hts (fun w hw => List.mem_cons_of_mem _ (List.mem_append_right _ hw)) tyX5 tyX5_ok nmX5 hown hK hP hD hS 0 rfl rfl 10 (by decide) (hts (.fieldLink RX5 19 "OldStadiumModel" "bye" "I") (List.mem_of_getElem? (i := 5) rfl)) (fun _ h9 => h9) rfl (by decide +kernel) rfl rfl (Nat.le_of_ble_eq_true rfl) dX5_mix_174 (fun H locs hP hD hS => ?_)
        replace hP : va_P (dC, dI) vwCl (wX5 cI cZ cJ cA h0 a x1 x3 x4 x5 t1.1 x7 x9 (t1.2 (Int32.toNatClampNeg (x9 - 1))) x14 x15 x16 x19 x20 x21 x22 x23 x24 x41 x42 f0 f2 t1.2 f11 f12 f13 f17 f18 f25 f26 f27 f28 f29 f30 f31 f32 f33 f34 f35 f36 f37 f38 f39 f40 f43) H := hP
        replace hD : va_D A (wX5 cI cZ cJ cA h0 a x1 x3 x4 x5 t1.1 x7 x9 (t1.2 (Int32.toNatClampNeg (x9 - 1))) x14 x15 x16 x19 x20 x21 x22 x23 x24 x41 x42 f0 f2 t1.2 f11 f12 f13 f17 f18 f25 f26 f27 f28 f29 f30 f31 f32 f33 f34 f35 f36 f37 f38 f39 f40 f43) := hD
        refine lv_aload_n hx hb dX5_mix_177 rfl (lv_at hl 0 rfl) ?_
        refine va_get (D := (dC, dI)) (ci := 5) (v := .ref (a 11)) (C := RX5) (T := TX5) (N := 44) hx hb hts (fun w hw => List.mem_cons_of_mem _ (List.mem_append_right _ hw)) hown hK hP 0 rfl rfl 11 (by decide) (hts (.fieldLink RX5 23 "OldStadiumModel" "hadBye" "[Z") (List.mem_of_getElem? (i := 7) rfl)) (fun _ h9 => h9) rfl dX5_mix_178 ?_
        refine lv_aload_n hx hb dX5_mix_181 rfl (lv_at hl 0 rfl) ?_
        refine va_get (D := (dC, dI)) (ci := 5) (v := .int (t1.2 (Int32.toNatClampNeg (x9 - 1)))) (C := RX5) (T := TX5) (N := 44) hx hb hts (fun w hw => List.mem_cons_of_mem _ (List.mem_append_right _ hw)) hown hK hP 0 rfl rfl 10 (by decide) (hts (.fieldLink RX5 19 "OldStadiumModel" "bye" "I") (List.mem_of_getElem? (i := 5) rfl)) (fun _ h9 => h9) rfl dX5_mix_182 ?_
        refine lv_iconst (v := 1) hx hb dX5_mix_185 (by decide) ?_
        refine va_zast hx hb hK hP hD hS 4 1 rfl rfl b7 dX5_mix_186 (fun H locs hP hD hS => ?_)
        replace hP : va_P (dC, dI) vwCl (wX5 cI cZ cJ cA h0 a x1 x3 x4 x5 t1.1 x7 x9 (t1.2 (Int32.toNatClampNeg (x9 - 1))) x14 x15 x16 x19 x20 x21 x22 x23 x24 x41 x42 f0 f2 t1.2 (upd f11 (Int32.toNatClampNeg (t1.2 (Int32.toNatClampNeg (x9 - 1)))) (vp_nar .boolean 1)) f12 f13 f17 f18 f25 f26 f27 f28 f29 f30 f31 f32 f33 f34 f35 f36 f37 f38 f39 f40 f43) H := hP
        replace hD : va_D A (wX5 cI cZ cJ cA h0 a x1 x3 x4 x5 t1.1 x7 x9 (t1.2 (Int32.toNatClampNeg (x9 - 1))) x14 x15 x16 x19 x20 x21 x22 x23 x24 x41 x42 f0 f2 t1.2 (upd f11 (Int32.toNatClampNeg (t1.2 (Int32.toNatClampNeg (x9 - 1)))) (vp_nar .boolean 1)) f12 f13 f17 f18 f25 f26 f27 f28 f29 f30 f31 f32 f33 f34 f35 f36 f37 f38 f39 f40 f43) := hD
        refine lv_iconst (v := 0) hx hb dX5_mix_187 (by decide) ?_
        refine lv_istore_n (lv' := [(1, .int 0), (0, .ref h0), (2, .int t11)]) hx hb dX5_mix_188 rfl hl (by decide) rfl (fun ls hl => ?_)
        obtain ⟨t13, ht13, hf1⟩ := z_ib hf
        replace hf := hf1
        clear hf1
        refine b_X5_mix_L189 N ⟨⟨hx, hb, hml, hown, hts⟩, hRf, hRl, hA, hN, hK⟩ N ht13 hP hD hS (lv_sub hl [1, 0] rfl) (fun H locs ls hP hD hS hl => ?_)
        refine lv_iconst (v := 0) hx hb dX5_mix_208 (by decide) ?_
        refine lv_istore_n (lv' := [(1, .int 0), (0, .ref h0)]) hx hb dX5_mix_209 rfl hl (by decide) rfl (fun ls hl => ?_)
        obtain ⟨t14, ht14, hf1⟩ := z_ib hf
        replace hf := hf1
        clear hf1
        refine b_X5_mix_L210 N ⟨⟨hx, hb, hml, hown, hts⟩, hRf, hRl, hA, hN, hK⟩ N ht14 hP hD hS (lv_sub hl [1, 0] rfl) (fun H locs ls hP hD hS hl => ?_)
        obtain rfl := Option.some.inj hf
        exact hret _ _ _ _ dX5_mix_230 hP hD hS
      · replace hf := z_im hf c12
        refine lv_aload_n hx hb dX5_mix_141 rfl (lv_at hl 0 rfl) ?_
        refine va_get (D := (dC, dI)) (ci := 5) (v := .ref (a 8)) (C := RX5) (T := TX5) (N := 44) hx hb hts (fun w hw => List.mem_cons_of_mem _ (List.mem_append_right _ hw)) hown hK hP 0 rfl rfl 8 (by decide) (hts (.fieldLink RX5 16 "OldStadiumModel" "row" "[I") (List.mem_of_getElem? (i := 4) rfl)) (fun _ h9 => h9) rfl dX5_mix_142 ?_
        refine lv_iload_n hx hb dX5_mix_145 rfl (lv_at hl 2 rfl) ?_
        have b15 := z_c1 hf
        replace hf := z_c2 hf
        refine va_iald hx hb hK hP 3 0 rfl rfl b15 dX5_mix_146 ?_
        refine lv_istore_n (lv' := [(3, .int (t1.2 (Int32.toNatClampNeg t11))), (0, .ref h0), (1, .int (x9 - 1)), (2, .int t11)]) hx hb dX5_mix_147 rfl hl (by decide) rfl (fun ls hl => ?_)
        refine lv_aload_n hx hb dX5_mix_148 rfl (lv_at hl 1 rfl) ?_
        refine va_get (D := (dC, dI)) (ci := 5) (v := .ref (a 8)) (C := RX5) (T := TX5) (N := 44) hx hb hts (fun w hw => List.mem_cons_of_mem _ (List.mem_append_right _ hw)) hown hK hP 0 rfl rfl 8 (by decide) (hts (.fieldLink RX5 16 "OldStadiumModel" "row" "[I") (List.mem_of_getElem? (i := 4) rfl)) (fun _ h9 => h9) rfl dX5_mix_149 ?_
        refine lv_iload_n hx hb dX5_mix_152 rfl (lv_at hl 3 rfl) ?_
        refine lv_aload_n hx hb dX5_mix_153 rfl (lv_at hl 1 rfl) ?_
        refine va_get (D := (dC, dI)) (ci := 5) (v := .ref (a 8)) (C := RX5) (T := TX5) (N := 44) hx hb hts (fun w hw => List.mem_cons_of_mem _ (List.mem_append_right _ hw)) hown hK hP 0 rfl rfl 8 (by decide) (hts (.fieldLink RX5 16 "OldStadiumModel" "row" "[I") (List.mem_of_getElem? (i := 4) rfl)) (fun _ h9 => h9) rfl dX5_mix_154 ?_
        refine lv_iload_n hx hb dX5_mix_157 rfl (lv_at hl 2 rfl) ?_
        refine va_iald hx hb hK hP 3 0 rfl rfl b6 dX5_mix_158 ?_
        refine va_iast hx hb hK hP hD hS 3 0 rfl rfl b15 dX5_mix_159 (fun H locs hP hD hS => ?_)
        replace hP : va_P (dC, dI) vwCl (wX5 cI cZ cJ cA h0 a x1 x3 x4 x5 t1.1 x7 x9 (-1) x14 x15 x16 x19 x20 x21 x22 x23 x24 x41 x42 f0 f2 (upd t1.2 (Int32.toNatClampNeg t11) (t1.2 (Int32.toNatClampNeg (x9 - 1)))) f11 f12 f13 f17 f18 f25 f26 f27 f28 f29 f30 f31 f32 f33 f34 f35 f36 f37 f38 f39 f40 f43) H := hP
        replace hD : va_D A (wX5 cI cZ cJ cA h0 a x1 x3 x4 x5 t1.1 x7 x9 (-1) x14 x15 x16 x19 x20 x21 x22 x23 x24 x41 x42 f0 f2 (upd t1.2 (Int32.toNatClampNeg t11) (t1.2 (Int32.toNatClampNeg (x9 - 1)))) f11 f12 f13 f17 f18 f25 f26 f27 f28 f29 f30 f31 f32 f33 f34 f35 f36 f37 f38 f39 f40 f43) := hD
        refine lv_aload_n hx hb dX5_mix_160 rfl (lv_at hl 1 rfl) ?_
        refine va_get (D := (dC, dI)) (ci := 5) (v := .ref (a 8)) (C := RX5) (T := TX5) (N := 44) hx hb hts (fun w hw => List.mem_cons_of_mem _ (List.mem_append_right _ hw)) hown hK hP 0 rfl rfl 8 (by decide) (hts (.fieldLink RX5 16 "OldStadiumModel" "row" "[I") (List.mem_of_getElem? (i := 4) rfl)) (fun _ h9 => h9) rfl dX5_mix_161 ?_
        refine lv_iload_n hx hb dX5_mix_164 rfl (lv_at hl 2 rfl) ?_
        refine lv_iload_n hx hb dX5_mix_165 rfl (lv_at hl 0 rfl) ?_
        refine va_iast hx hb hK hP hD hS 3 0 rfl rfl b6 dX5_mix_166 (fun H locs hP hD hS => ?_)
        replace hP : va_P (dC, dI) vwCl (wX5 cI cZ cJ cA h0 a x1 x3 x4 x5 t1.1 x7 x9 (-1) x14 x15 x16 x19 x20 x21 x22 x23 x24 x41 x42 f0 f2 (upd (upd t1.2 (Int32.toNatClampNeg t11) (t1.2 (Int32.toNatClampNeg (x9 - 1)))) (Int32.toNatClampNeg (x9 - 1)) (t1.2 (Int32.toNatClampNeg t11))) f11 f12 f13 f17 f18 f25 f26 f27 f28 f29 f30 f31 f32 f33 f34 f35 f36 f37 f38 f39 f40 f43) H := hP
        replace hD : va_D A (wX5 cI cZ cJ cA h0 a x1 x3 x4 x5 t1.1 x7 x9 (-1) x14 x15 x16 x19 x20 x21 x22 x23 x24 x41 x42 f0 f2 (upd (upd t1.2 (Int32.toNatClampNeg t11) (t1.2 (Int32.toNatClampNeg (x9 - 1)))) (Int32.toNatClampNeg (x9 - 1)) (t1.2 (Int32.toNatClampNeg t11))) f11 f12 f13 f17 f18 f25 f26 f27 f28 f29 f30 f31 f32 f33 f34 f35 f36 f37 f38 f39 f40 f43) := hD
        refine lv_aload_n hx hb dX5_mix_167 rfl (lv_at hl 1 rfl) ?_
        refine lv_aload_n hx hb dX5_mix_168 rfl (lv_at hl 1 rfl) ?_
        refine va_get (D := (dC, dI)) (ci := 5) (v := .ref (a 8)) (C := RX5) (T := TX5) (N := 44) hx hb hts (fun w hw => List.mem_cons_of_mem _ (List.mem_append_right _ hw)) hown hK hP 0 rfl rfl 8 (by decide) (hts (.fieldLink RX5 16 "OldStadiumModel" "row" "[I") (List.mem_of_getElem? (i := 4) rfl)) (fun _ h9 => h9) rfl dX5_mix_169 ?_
        refine lv_iload_n hx hb dX5_mix_172 rfl (lv_at hl 2 rfl) ?_
        refine va_iald hx hb hK hP 3 0 rfl rfl b6 dX5_mix_173 ?_
        obtain ⟨n16, hn16, hf1⟩ := z_ib hf
        replace hf := hf1
        clear hf1
        refine lv_topi (fun y9 ey9 => ?_)
        obtain rfl : n16 = y9 := (Option.some.inj hn16).symm.trans ey9.symm
        refine va_put (D := (dC, dI)) (ci := 5) (v := .int n16) (ty := .int) (C := RX5) (T := TX5) (N := 44) hx hb hts (fun w hw => List.mem_cons_of_mem _ (List.mem_append_right _ hw)) tyX5 tyX5_ok nmX5 hown hK hP hD hS 0 rfl rfl 10 (by decide) (hts (.fieldLink RX5 19 "OldStadiumModel" "bye" "I") (List.mem_of_getElem? (i := 5) rfl)) (fun _ h9 => h9) rfl (by decide +kernel) rfl rfl (Nat.le_of_ble_eq_true rfl) dX5_mix_174 (fun H locs hP hD hS => ?_)
        replace hP : va_P (dC, dI) vwCl (wX5 cI cZ cJ cA h0 a x1 x3 x4 x5 t1.1 x7 x9 n16 x14 x15 x16 x19 x20 x21 x22 x23 x24 x41 x42 f0 f2 (upd (upd t1.2 (Int32.toNatClampNeg t11) (t1.2 (Int32.toNatClampNeg (x9 - 1)))) (Int32.toNatClampNeg (x9 - 1)) (t1.2 (Int32.toNatClampNeg t11))) f11 f12 f13 f17 f18 f25 f26 f27 f28 f29 f30 f31 f32 f33 f34 f35 f36 f37 f38 f39 f40 f43) H := hP
        replace hD : va_D A (wX5 cI cZ cJ cA h0 a x1 x3 x4 x5 t1.1 x7 x9 n16 x14 x15 x16 x19 x20 x21 x22 x23 x24 x41 x42 f0 f2 (upd (upd t1.2 (Int32.toNatClampNeg t11) (t1.2 (Int32.toNatClampNeg (x9 - 1)))) (Int32.toNatClampNeg (x9 - 1)) (t1.2 (Int32.toNatClampNeg t11))) f11 f12 f13 f17 f18 f25 f26 f27 f28 f29 f30 f31 f32 f33 f34 f35 f36 f37 f38 f39 f40 f43) := hD
        refine lv_aload_n hx hb dX5_mix_177 rfl (lv_at hl 1 rfl) ?_
        refine va_get (D := (dC, dI)) (ci := 5) (v := .ref (a 11)) (C := RX5) (T := TX5) (N := 44) hx hb hts (fun w hw => List.mem_cons_of_mem _ (List.mem_append_right _ hw)) hown hK hP 0 rfl rfl 11 (by decide) (hts (.fieldLink RX5 23 "OldStadiumModel" "hadBye" "[Z") (List.mem_of_getElem? (i := 7) rfl)) (fun _ h9 => h9) rfl dX5_mix_178 ?_
        refine lv_aload_n hx hb dX5_mix_181 rfl (lv_at hl 1 rfl) ?_
        refine va_get (D := (dC, dI)) (ci := 5) (v := .int n16) (C := RX5) (T := TX5) (N := 44) hx hb hts (fun w hw => List.mem_cons_of_mem _ (List.mem_append_right _ hw)) hown hK hP 0 rfl rfl 10 (by decide) (hts (.fieldLink RX5 19 "OldStadiumModel" "bye" "I") (List.mem_of_getElem? (i := 5) rfl)) (fun _ h9 => h9) rfl dX5_mix_182 ?_
        refine lv_iconst (v := 1) hx hb dX5_mix_185 (by decide) ?_
        have b17 := z_c1 hf
        replace hf := z_c2 hf
        refine va_zast hx hb hK hP hD hS 4 1 rfl rfl b17 dX5_mix_186 (fun H locs hP hD hS => ?_)
        replace hP : va_P (dC, dI) vwCl (wX5 cI cZ cJ cA h0 a x1 x3 x4 x5 t1.1 x7 x9 n16 x14 x15 x16 x19 x20 x21 x22 x23 x24 x41 x42 f0 f2 (upd (upd t1.2 (Int32.toNatClampNeg t11) (t1.2 (Int32.toNatClampNeg (x9 - 1)))) (Int32.toNatClampNeg (x9 - 1)) (t1.2 (Int32.toNatClampNeg t11))) (upd f11 (Int32.toNatClampNeg n16) (vp_nar .boolean 1)) f12 f13 f17 f18 f25 f26 f27 f28 f29 f30 f31 f32 f33 f34 f35 f36 f37 f38 f39 f40 f43) H := hP
        replace hD : va_D A (wX5 cI cZ cJ cA h0 a x1 x3 x4 x5 t1.1 x7 x9 n16 x14 x15 x16 x19 x20 x21 x22 x23 x24 x41 x42 f0 f2 (upd (upd t1.2 (Int32.toNatClampNeg t11) (t1.2 (Int32.toNatClampNeg (x9 - 1)))) (Int32.toNatClampNeg (x9 - 1)) (t1.2 (Int32.toNatClampNeg t11))) (upd f11 (Int32.toNatClampNeg n16) (vp_nar .boolean 1)) f12 f13 f17 f18 f25 f26 f27 f28 f29 f30 f31 f32 f33 f34 f35 f36 f37 f38 f39 f40 f43) := hD
        refine lv_iconst (v := 0) hx hb dX5_mix_187 (by decide) ?_
        refine lv_istore_n (lv' := [(1, .int 0), (3, .int (t1.2 (Int32.toNatClampNeg t11))), (0, .ref h0), (2, .int t11)]) hx hb dX5_mix_188 rfl hl (by decide) rfl (fun ls hl => ?_)
        obtain ⟨t18, ht18, hf1⟩ := z_ib hf
        replace hf := hf1
        clear hf1
        refine b_X5_mix_L189 N ⟨⟨hx, hb, hml, hown, hts⟩, hRf, hRl, hA, hN, hK⟩ N ht18 hP hD hS (lv_sub hl [2, 0] rfl) (fun H locs ls hP hD hS hl => ?_)
        refine lv_iconst (v := 0) hx hb dX5_mix_208 (by decide) ?_
        refine lv_istore_n (lv' := [(1, .int 0), (0, .ref h0)]) hx hb dX5_mix_209 rfl hl (by decide) rfl (fun ls hl => ?_)
        obtain ⟨t19, ht19, hf1⟩ := z_ib hf
        replace hf := hf1
        clear hf1
        refine b_X5_mix_L210 N ⟨⟨hx, hb, hml, hown, hts⟩, hRf, hRl, hA, hN, hK⟩ N ht19 hP hD hS (lv_sub hl [1, 0] rfl) (fun H locs ls hP hD hS hl => ?_)
        obtain rfl := Option.some.inj hf
        exact hret _ _ _ _ dX5_mix_230 hP hD hS
set_option maxHeartbeats 4000000 in
set_option maxRecDepth 100000 in
theorem k_X5_mix (l : Launch) (dC : Nat → ClassId) (dI : Nat → Nat → Nat) (cI cZ cJ cA : ClassId) (h0 : Nat) (a : Nat → Nat) (sz : Nat) (N : Nat) (x1 : Int32) (x3 : Int32) (x4 : Int32) (x5 : Int32) (x6 : Int32) (x7 : Int32) (x9 : Int32) (x10 : Int32) (x14 : Int32) (x15 : Int32) (x16 : Int32) (x19 : Int32) (x20 : Int32) (x21 : Int32) (x22 : Int32) (x23 : Int32) (x24 : Int32) (x41 : Int32) (x42 : Int32) (f0 : (Nat → Int32)) (f2 : (Nat → Int32)) (f8 : (Nat → Int32)) (f11 : (Nat → Int32)) (f12 : (Nat → Int32)) (f13 : (Nat → Int32)) (f17 : (Nat → Int32)) (f18 : (Nat → Int32)) (f25 : (Nat → Int32)) (f26 : (Nat → Int32)) (f27 : (Nat → Int32)) (f28 : (Nat → Int32)) (f29 : (Nat → Int32)) (f30 : (Nat → Int32)) (f31 : (Nat → Int32)) (f32 : (Nat → Int32)) (f33 : (Nat → Int32)) (f34 : (Nat → Int32)) (f35 : (Nat → Int32)) (f36 : (Nat → Int32)) (f37 : (Nat → Int32)) (f38 : (Nat → Int32)) (f39 : (Nat → Int32)) (f40 : (Nat → Int32)) (f43 : (Nat → Int32)) (o : (Int32 × Int32 × (Nat → Int32) × (Nat → Int32) × (Nat → Int32) × (Nat → Int32))) (hf : q_X5_mix N x5 x6 x9 x10 f8 f11 f12 f13 = some o) : Met l yX5_mix wsX5_mix ({ frames := 0, cells := 0, slots := 0, locals := 0 } : Room) (z_Pre dC dI (z_ty cI cZ cJ cA) [.ref h0] sz (wX5 cI cZ cJ cA h0 a x1 x3 x4 x5 x6 x7 x9 x10 x14 x15 x16 x19 x20 x21 x22 x23 x24 x41 x42 f0 f2 f8 f11 f12 f13 f17 f18 f25 f26 f27 f28 f29 f30 f31 f32 f33 f34 f35 f36 f37 f38 f39 f40 f43)) (z_Pv dC dI (wX5 cI cZ cJ cA h0 a x1 x3 x4 x5 o.1 x7 x9 o.2.1 x14 x15 x16 x19 x20 x21 x22 x23 x24 x41 x42 f0 f2 o.2.2.1 o.2.2.2.1 o.2.2.2.2.1 o.2.2.2.2.2 f17 f18 f25 f26 f27 f28 f29 f30 f31 f32 f33 f34 f35 f36 f37 f38 f39 f40 f43) sz (wX5 cI cZ cJ cA h0 a x1 x3 x4 x5 x6 x7 x9 x10 x14 x15 x16 x19 x20 x21 x22 x23 x24 x41 x42 f0 f2 f8 f11 f12 f13 f17 f18 f25 f26 f27 f28 f29 f30 f31 f32 f33 f34 f35 f36 f37 f38 f39 f40 f43)) 0 0 (va_A (wX5 cI cZ cJ cA h0 a x1 x3 x4 x5 x6 x7 x9 x10 x14 x15 x16 x19 x20 x21 x22 x23 x24 x41 x42 f0 f2 f8 f11 f12 f13 f17 f18 f25 f26 f27 f28 f29 f30 f31 f32 f33 f34 f35 f36 f37 f38 f39 f40 f43) sz) := by
  refine Met.ofW (cc := cX5_mix) (maxL := 4) (ret := none) (by decide) rfl ?_
  intro p e s m args below meth c s₁ B hml hv
  obtain ⟨rfl, hsz, hP, hK, hD0, hN⟩ := hv
  subst hsz
  have hl := lv_entry ([.ref h0]) (n := 4) (Nat.le_of_ble_eq_true rfl)
  rw [lg_entry_eq]
  refine b_X5_mix N ⟨⟨B.exec, B.bytes, hml, findClass_of_methodNamed B.named, atoms_spec (ws := wsX5_mix) B.pre⟩, Nat.le_refl _, Nat.le_refl _, fun q h => Or.inr h, hN, hK⟩ hf hP hD0.self va_S.rf hl (fun pc H locs ls hd hP hD hS => ?_)
  exact W.vret B.exec B.bytes B.returns (fun t ht hW => ⟨⟨(), rfl, trivial, by rw [ht]; exact hP, hD⟩, hS.F ht⟩) hS.2.2 hd
def q_X5_contest_L76 (N : Nat) (x1 : Int32) : Nat → Int32 → (Nat → Int32) → Option (Nat → Int32)
  | 0, _, _ => none
  | n + 1, v4, f8 =>
    (if x1 ≤ v4 then
     (some f8)
    else
     (if z_in v4 24 then
     (q_X5_contest_L76 N x1 n (v4 + 1) (upd f8 (Int32.toNatClampNeg v4) v4))
     else none))
set_option maxHeartbeats 4000000 in
set_option maxRecDepth 100000 in
theorem b_X5_contest_L76 {p : Program} {l : Launch} {e : Env} {R : Room} {s : State} {m : MethodId} {args : Array Value} {below : List Frame} {meth : Method} {c : Code} {Q : State → Prop} {A : Nat → Prop} {dC : Nat → ClassId} {dI : Nat → Nat → Nat} {cI cZ cJ cA : ClassId} {h0 : Nat} {a : Nat → Nat} (N : Nat) (C0 : z_Cx p s m args c cX5_contest 5 wsX5_contest RX5 R 1 23 A dC dI (z_ty cI cZ cJ cA)) : ∀ (n : Nat) {v4 : Int32} {x1 : Int32} {x3 : Int32} {x4 : Int32} {x5 : Int32} {x6 : Int32} {x7 : Int32} {x9 : Int32} {x10 : Int32} {x14 : Int32} {x15 : Int32} {x16 : Int32} {x19 : Int32} {x20 : Int32} {x21 : Int32} {x22 : Int32} {x23 : Int32} {x24 : Int32} {x41 : Int32} {x42 : Int32} {f0 : (Nat → Int32)} {f2 : (Nat → Int32)} {f8 : (Nat → Int32)} {f11 : (Nat → Int32)} {f12 : (Nat → Int32)} {f13 : (Nat → Int32)} {f17 : (Nat → Int32)} {f18 : (Nat → Int32)} {f25 : (Nat → Int32)} {f26 : (Nat → Int32)} {f27 : (Nat → Int32)} {f28 : (Nat → Int32)} {f29 : (Nat → Int32)} {f30 : (Nat → Int32)} {f31 : (Nat → Int32)} {f32 : (Nat → Int32)} {f33 : (Nat → Int32)} {f34 : (Nat → Int32)} {f35 : (Nat → Int32)} {f36 : (Nat → Int32)} {f37 : (Nat → Int32)} {f38 : (Nat → Int32)} {f39 : (Nat → Int32)} {f40 : (Nat → Int32)} {f43 : (Nat → Int32)} {o : (Nat → Int32)} {H : Heap} {locs : List Loc} {ls : Array Slot}, q_X5_contest_L76 N x1 n v4 f8 = some o → va_P (dC, dI) vwCl (wX5 cI cZ cJ cA h0 a x1 x3 x4 x5 x6 x7 x9 x10 x14 x15 x16 x19 x20 x21 x22 x23 x24 x41 x42 f0 f2 f8 f11 f12 f13 f17 f18 f25 f26 f27 f28 f29 f30 f31 f32 f33 f34 f35 f36 f37 f38 f39 f40 f43) H → va_D A (wX5 cI cZ cJ cA h0 a x1 x3 x4 x5 x6 x7 x9 x10 x14 x15 x16 x19 x20 x21 x22 x23 x24 x41 x42 f0 f2 f8 f11 f12 f13 f17 f18 f25 f26 f27 f28 f29 f30 f31 f32 f33 f34 f35 f36 f37 f38 f39 f40 f43) → va_S A s.heap H locs → lv_has ls 5 [(0, .ref h0), (4, .int v4)] →
    (∀ (H : Heap) (locs : List Loc) (ls : Array Slot), va_P (dC, dI) vwCl (wX5 cI cZ cJ cA h0 a x1 x3 x4 x5 x6 x7 x9 x10 x14 x15 x16 x19 x20 x21 x22 x23 x24 x41 x42 f0 f2 o f11 f12 f13 f17 f18 f25 f26 f27 f28 f29 f30 f31 f32 f33 f34 f35 f36 f37 f38 f39 f40 f43) H → va_D A (wX5 cI cZ cJ cA h0 a x1 x3 x4 x5 x6 x7 x9 x10 x14 x15 x16 x19 x20 x21 x22 x23 x24 x41 x42 f0 f2 o f11 f12 f13 f17 f18 f25 f26 f27 f28 f29 f30 f31 f32 f33 f34 f35 f36 f37 f38 f39 f40 f43) → va_S A s.heap H locs → lv_has ls 5 [(0, .ref h0)] → W p l e R s m args below meth c H locs 0 0 Q (F0 m 100 ls [])) →
    W p l e R s m args below meth c H locs 0 0 Q (F0 m 76 ls []) := by
  obtain ⟨⟨hx, hb, hml, hown, hts⟩, hRf, hRl, hA, hN, hK⟩ := C0
  intro n
  induction n with
  | zero =>
    intro v4 x1 x3 x4 x5 x6 x7 x9 x10 x14 x15 x16 x19 x20 x21 x22 x23 x24 x41 x42 f0 f2 f8 f11 f12 f13 f17 f18 f25 f26 f27 f28 f29 f30 f31 f32 f33 f34 f35 f36 f37 f38 f39 f40 f43 o H locs ls hf
    cases hf
  | succ n ih =>
    intro v4 x1 x3 x4 x5 x6 x7 x9 x10 x14 x15 x16 x19 x20 x21 x22 x23 x24 x41 x42 f0 f2 f8 f11 f12 f13 f17 f18 f25 f26 f27 f28 f29 f30 f31 f32 f33 f34 f35 f36 f37 f38 f39 f40 f43 o H locs ls hf hP hD hS hl hexit
    rw [q_X5_contest_L76] at hf
    refine lv_iload hx hb dX5_contest_76 (lv_at hl 1 rfl) ?_
    refine lv_aload_n hx hb dX5_contest_78 rfl (lv_at hl 0 rfl) ?_
    refine va_get (D := (dC, dI)) (ci := 5) (v := .int x1) (C := RX5) (T := TX5) (N := 44) hx hb hts (fun w hw => List.mem_cons_of_mem _ (List.mem_append_right _ hw)) hown hK hP 0 rfl rfl 1 (by decide) (hts (.fieldLink RX5 100 "OldStadiumModel" "runners" "I") (List.mem_of_getElem? (i := 1) rfl)) (fun _ h9 => h9) rfl dX5_contest_79 ?_
    refine lv_icmp_ge (tgt := 100) hx hb dX5_contest_82 (by decide) (fun c1 => ?_) (fun c1 => ?_)
    · replace hf := z_ip hf c1
      obtain rfl := Option.some.inj hf
      exact hexit _ _ _ hP hD hS (lv_sub hl [0] rfl)
    · replace hf := z_im hf c1
      refine lv_aload_n hx hb dX5_contest_85 rfl (lv_at hl 0 rfl) ?_
      refine va_get (D := (dC, dI)) (ci := 5) (v := .ref (a 8)) (C := RX5) (T := TX5) (N := 44) hx hb hts (fun w hw => List.mem_cons_of_mem _ (List.mem_append_right _ hw)) hown hK hP 0 rfl rfl 8 (by decide) (hts (.fieldLink RX5 16 "OldStadiumModel" "row" "[I") (List.mem_of_getElem? (i := 8) rfl)) (fun _ h9 => h9) rfl dX5_contest_86 ?_
      refine lv_iload hx hb dX5_contest_89 (lv_at hl 1 rfl) ?_
      refine lv_iload hx hb dX5_contest_91 (lv_at hl 1 rfl) ?_
      have b2 := z_c1 hf
      replace hf := z_c2 hf
      refine va_iast hx hb hK hP hD hS 3 0 rfl rfl b2 dX5_contest_93 (fun H locs hP hD hS => ?_)
      replace hP : va_P (dC, dI) vwCl (wX5 cI cZ cJ cA h0 a x1 x3 x4 x5 x6 x7 x9 x10 x14 x15 x16 x19 x20 x21 x22 x23 x24 x41 x42 f0 f2 (upd f8 (Int32.toNatClampNeg v4) v4) f11 f12 f13 f17 f18 f25 f26 f27 f28 f29 f30 f31 f32 f33 f34 f35 f36 f37 f38 f39 f40 f43) H := hP
      replace hD : va_D A (wX5 cI cZ cJ cA h0 a x1 x3 x4 x5 x6 x7 x9 x10 x14 x15 x16 x19 x20 x21 x22 x23 x24 x41 x42 f0 f2 (upd f8 (Int32.toNatClampNeg v4) v4) f11 f12 f13 f17 f18 f25 f26 f27 f28 f29 f30 f31 f32 f33 f34 f35 f36 f37 f38 f39 f40 f43) := hD
      refine lv_iinc (v := (v4 + 1)) (lv' := [(4, .int (v4 + 1)), (0, .ref h0)]) hx hb dX5_contest_94 hl (k := 1) rfl rfl (by decide) rfl (fun ls hl => ?_)
      refine lv_goto (tgt := 76) hx hb dX5_contest_97 (by decide) ?_
      exact ih hf hP hD hS (lv_sub hl [1, 0] rfl) hexit
def q_X5_contest_L103 (N : Nat) : Nat → Int32 → (Nat → Int32) → Option (Nat → Int32)
  | 0, _, _ => none
  | n + 1, v4, f11 =>
    (if 24 ≤ v4 then
     (some f11)
    else
     (if z_in v4 24 then
     (q_X5_contest_L103 N n (v4 + 1) (upd f11 (Int32.toNatClampNeg v4) (vp_nar .boolean 0)))
     else none))
set_option maxHeartbeats 4000000 in
set_option maxRecDepth 100000 in
theorem b_X5_contest_L103 {p : Program} {l : Launch} {e : Env} {R : Room} {s : State} {m : MethodId} {args : Array Value} {below : List Frame} {meth : Method} {c : Code} {Q : State → Prop} {A : Nat → Prop} {dC : Nat → ClassId} {dI : Nat → Nat → Nat} {cI cZ cJ cA : ClassId} {h0 : Nat} {a : Nat → Nat} (N : Nat) (C0 : z_Cx p s m args c cX5_contest 5 wsX5_contest RX5 R 1 23 A dC dI (z_ty cI cZ cJ cA)) : ∀ (n : Nat) {v4 : Int32} {x1 : Int32} {x3 : Int32} {x4 : Int32} {x5 : Int32} {x6 : Int32} {x7 : Int32} {x9 : Int32} {x10 : Int32} {x14 : Int32} {x15 : Int32} {x16 : Int32} {x19 : Int32} {x20 : Int32} {x21 : Int32} {x22 : Int32} {x23 : Int32} {x24 : Int32} {x41 : Int32} {x42 : Int32} {f0 : (Nat → Int32)} {f2 : (Nat → Int32)} {f8 : (Nat → Int32)} {f11 : (Nat → Int32)} {f12 : (Nat → Int32)} {f13 : (Nat → Int32)} {f17 : (Nat → Int32)} {f18 : (Nat → Int32)} {f25 : (Nat → Int32)} {f26 : (Nat → Int32)} {f27 : (Nat → Int32)} {f28 : (Nat → Int32)} {f29 : (Nat → Int32)} {f30 : (Nat → Int32)} {f31 : (Nat → Int32)} {f32 : (Nat → Int32)} {f33 : (Nat → Int32)} {f34 : (Nat → Int32)} {f35 : (Nat → Int32)} {f36 : (Nat → Int32)} {f37 : (Nat → Int32)} {f38 : (Nat → Int32)} {f39 : (Nat → Int32)} {f40 : (Nat → Int32)} {f43 : (Nat → Int32)} {o : (Nat → Int32)} {H : Heap} {locs : List Loc} {ls : Array Slot}, q_X5_contest_L103 N n v4 f11 = some o → va_P (dC, dI) vwCl (wX5 cI cZ cJ cA h0 a x1 x3 x4 x5 x6 x7 x9 x10 x14 x15 x16 x19 x20 x21 x22 x23 x24 x41 x42 f0 f2 f8 f11 f12 f13 f17 f18 f25 f26 f27 f28 f29 f30 f31 f32 f33 f34 f35 f36 f37 f38 f39 f40 f43) H → va_D A (wX5 cI cZ cJ cA h0 a x1 x3 x4 x5 x6 x7 x9 x10 x14 x15 x16 x19 x20 x21 x22 x23 x24 x41 x42 f0 f2 f8 f11 f12 f13 f17 f18 f25 f26 f27 f28 f29 f30 f31 f32 f33 f34 f35 f36 f37 f38 f39 f40 f43) → va_S A s.heap H locs → lv_has ls 5 [(0, .ref h0), (4, .int v4)] →
    (∀ (H : Heap) (locs : List Loc) (ls : Array Slot), va_P (dC, dI) vwCl (wX5 cI cZ cJ cA h0 a x1 x3 x4 x5 x6 x7 x9 x10 x14 x15 x16 x19 x20 x21 x22 x23 x24 x41 x42 f0 f2 f8 o f12 f13 f17 f18 f25 f26 f27 f28 f29 f30 f31 f32 f33 f34 f35 f36 f37 f38 f39 f40 f43) H → va_D A (wX5 cI cZ cJ cA h0 a x1 x3 x4 x5 x6 x7 x9 x10 x14 x15 x16 x19 x20 x21 x22 x23 x24 x41 x42 f0 f2 f8 o f12 f13 f17 f18 f25 f26 f27 f28 f29 f30 f31 f32 f33 f34 f35 f36 f37 f38 f39 f40 f43) → va_S A s.heap H locs → lv_has ls 5 [(0, .ref h0)] → W p l e R s m args below meth c H locs 0 0 Q (F0 m 124 ls [])) →
    W p l e R s m args below meth c H locs 0 0 Q (F0 m 103 ls []) := by
  obtain ⟨⟨hx, hb, hml, hown, hts⟩, hRf, hRl, hA, hN, hK⟩ := C0
  intro n
  induction n with
  | zero =>
    intro v4 x1 x3 x4 x5 x6 x7 x9 x10 x14 x15 x16 x19 x20 x21 x22 x23 x24 x41 x42 f0 f2 f8 f11 f12 f13 f17 f18 f25 f26 f27 f28 f29 f30 f31 f32 f33 f34 f35 f36 f37 f38 f39 f40 f43 o H locs ls hf
    cases hf
  | succ n ih =>
    intro v4 x1 x3 x4 x5 x6 x7 x9 x10 x14 x15 x16 x19 x20 x21 x22 x23 x24 x41 x42 f0 f2 f8 f11 f12 f13 f17 f18 f25 f26 f27 f28 f29 f30 f31 f32 f33 f34 f35 f36 f37 f38 f39 f40 f43 o H locs ls hf hP hD hS hl hexit
    rw [q_X5_contest_L103] at hf
    refine lv_iload hx hb dX5_contest_103 (lv_at hl 1 rfl) ?_
    refine lv_bipush (v := 24) hx hb dX5_contest_105 (by decide) ?_
    refine lv_icmp_ge (tgt := 124) hx hb dX5_contest_107 (by decide) (fun c1 => ?_) (fun c1 => ?_)
    · replace hf := z_ip hf c1
      obtain rfl := Option.some.inj hf
      exact hexit _ _ _ hP hD hS (lv_sub hl [0] rfl)
    · replace hf := z_im hf c1
      refine lv_aload_n hx hb dX5_contest_110 rfl (lv_at hl 0 rfl) ?_
      refine va_get (D := (dC, dI)) (ci := 5) (v := .ref (a 11)) (C := RX5) (T := TX5) (N := 44) hx hb hts (fun w hw => List.mem_cons_of_mem _ (List.mem_append_right _ hw)) hown hK hP 0 rfl rfl 11 (by decide) (hts (.fieldLink RX5 23 "OldStadiumModel" "hadBye" "[Z") (List.mem_of_getElem? (i := 9) rfl)) (fun _ h9 => h9) rfl dX5_contest_111 ?_
      refine lv_iload hx hb dX5_contest_114 (lv_at hl 1 rfl) ?_
      refine lv_iconst (v := 0) hx hb dX5_contest_116 (by decide) ?_
      have b2 := z_c1 hf
      replace hf := z_c2 hf
      refine va_zast hx hb hK hP hD hS 4 1 rfl rfl b2 dX5_contest_117 (fun H locs hP hD hS => ?_)
      replace hP : va_P (dC, dI) vwCl (wX5 cI cZ cJ cA h0 a x1 x3 x4 x5 x6 x7 x9 x10 x14 x15 x16 x19 x20 x21 x22 x23 x24 x41 x42 f0 f2 f8 (upd f11 (Int32.toNatClampNeg v4) (vp_nar .boolean 0)) f12 f13 f17 f18 f25 f26 f27 f28 f29 f30 f31 f32 f33 f34 f35 f36 f37 f38 f39 f40 f43) H := hP
      replace hD : va_D A (wX5 cI cZ cJ cA h0 a x1 x3 x4 x5 x6 x7 x9 x10 x14 x15 x16 x19 x20 x21 x22 x23 x24 x41 x42 f0 f2 f8 (upd f11 (Int32.toNatClampNeg v4) (vp_nar .boolean 0)) f12 f13 f17 f18 f25 f26 f27 f28 f29 f30 f31 f32 f33 f34 f35 f36 f37 f38 f39 f40 f43) := hD
      refine lv_iinc (v := (v4 + 1)) (lv' := [(4, .int (v4 + 1)), (0, .ref h0)]) hx hb dX5_contest_118 hl (k := 1) rfl rfl (by decide) rfl (fun ls hl => ?_)
      refine lv_goto (tgt := 103) hx hb dX5_contest_121 (by decide) ?_
      exact ih hf hP hD hS (lv_sub hl [1, 0] rfl) hexit
def q_X5_contest (N : Nat) (v1 : Int32) (v2 : Int32) (v3 : Int32) (x1 : Int32) (x4 : Int32) (x5 : Int32) (x6 : Int32) (x7 : Int32) (x9 : Int32) (x10 : Int32) (x14 : Int32) (f8 : (Nat → Int32)) (f11 : (Nat → Int32)) (f12 : (Nat → Int32)) (f13 : (Nat → Int32)) : Option (Int32 × Int32 × Int32 × Int32 × Int32 × Int32 × Int32 × Int32 × (Nat → Int32) × (Nat → Int32) × (Nat → Int32) × (Nat → Int32)) :=
  (Option.bind (q_X5_in N v1 0 1) (fun o1 =>
  (if o1 = 0 then
   (some ((-1), x4, x5, x6, x7, x9, x10, x14, f8, f11, f12, f13))
  else
   (if v1 = 0 then
    (Option.bind (q_X5_in N v2 2 6) (fun o9 =>
    (if o9 = 0 then
     (some ((-1), x4, x5, x6, x7, x9, x10, x14, f8, f11, f12, f13))
    else
     (if x1 = 0 then
      (some ((-1), x4, x5, x6, x7, x9, x10, x14, f8, f11, f12, f13))
     else
      (Option.bind (q_X5_contest_L76 N x1 N 0 f8) (fun t12 =>
      (Option.bind (q_X5_contest_L103 N N 0 f11) (fun t13 =>
      (Option.bind (q_X5_mix N v2 v3 x1 x10 t12 t13 f12 f13) (fun o14 =>
      (Option.bind (q_X5_heats N v2 x1 o14.2.1) (fun o15 =>
      (some (o15, 1, v2, o14.1, 1, x1, o14.2.1, (-1), o14.2.2.1, o14.2.2.2.1, o14.2.2.2.2.1, o14.2.2.2.2.2))))))))))))))
   else
    (if x1 = 0 then
     (some ((-1), x4, x5, x6, x7, x9, x10, x14, f8, f11, f12, f13))
    else
     (Option.bind (q_X5_contest_L76 N x1 N 0 f8) (fun t5 =>
     (Option.bind (q_X5_contest_L103 N N 0 f11) (fun t6 =>
     (Option.bind (q_X5_mix N 2 v3 x1 x10 t5 t6 f12 f13) (fun o7 =>
     (Option.bind (q_X5_heats N 2 x1 o7.2.1) (fun o8 =>
     (some (o8, 1, 2, o7.1, 1, x1, o7.2.1, (-1), o7.2.2.1, o7.2.2.2.1, o7.2.2.2.2.1, o7.2.2.2.2.2)))))))))))))))
set_option maxHeartbeats 4000000 in
set_option maxRecDepth 100000 in
theorem b_X5_contest {p : Program} {l : Launch} {e : Env} {R : Room} {s : State} {m : MethodId} {args : Array Value} {below : List Frame} {meth : Method} {c : Code} {Q : State → Prop} {A : Nat → Prop} {dC : Nat → ClassId} {dI : Nat → Nat → Nat} {cI cZ cJ cA : ClassId} {h0 : Nat} {a : Nat → Nat} (N : Nat) (C0 : z_Cx p s m args c cX5_contest 5 wsX5_contest RX5 R 1 23 A dC dI (z_ty cI cZ cJ cA)) {v1 : Int32} {v2 : Int32} {v3 : Int32} {x1 : Int32} {x3 : Int32} {x4 : Int32} {x5 : Int32} {x6 : Int32} {x7 : Int32} {x9 : Int32} {x10 : Int32} {x14 : Int32} {x15 : Int32} {x16 : Int32} {x19 : Int32} {x20 : Int32} {x21 : Int32} {x22 : Int32} {x23 : Int32} {x24 : Int32} {x41 : Int32} {x42 : Int32} {f0 : (Nat → Int32)} {f2 : (Nat → Int32)} {f8 : (Nat → Int32)} {f11 : (Nat → Int32)} {f12 : (Nat → Int32)} {f13 : (Nat → Int32)} {f17 : (Nat → Int32)} {f18 : (Nat → Int32)} {f25 : (Nat → Int32)} {f26 : (Nat → Int32)} {f27 : (Nat → Int32)} {f28 : (Nat → Int32)} {f29 : (Nat → Int32)} {f30 : (Nat → Int32)} {f31 : (Nat → Int32)} {f32 : (Nat → Int32)} {f33 : (Nat → Int32)} {f34 : (Nat → Int32)} {f35 : (Nat → Int32)} {f36 : (Nat → Int32)} {f37 : (Nat → Int32)} {f38 : (Nat → Int32)} {f39 : (Nat → Int32)} {f40 : (Nat → Int32)} {f43 : (Nat → Int32)} {o : (Int32 × Int32 × Int32 × Int32 × Int32 × Int32 × Int32 × Int32 × (Nat → Int32) × (Nat → Int32) × (Nat → Int32) × (Nat → Int32))} {H : Heap} {locs : List Loc} {ls : Array Slot} (hf : q_X5_contest N v1 v2 v3 x1 x4 x5 x6 x7 x9 x10 x14 f8 f11 f12 f13 = some o) (hP : va_P (dC, dI) vwCl (wX5 cI cZ cJ cA h0 a x1 x3 x4 x5 x6 x7 x9 x10 x14 x15 x16 x19 x20 x21 x22 x23 x24 x41 x42 f0 f2 f8 f11 f12 f13 f17 f18 f25 f26 f27 f28 f29 f30 f31 f32 f33 f34 f35 f36 f37 f38 f39 f40 f43) H) (hD : va_D A (wX5 cI cZ cJ cA h0 a x1 x3 x4 x5 x6 x7 x9 x10 x14 x15 x16 x19 x20 x21 x22 x23 x24 x41 x42 f0 f2 f8 f11 f12 f13 f17 f18 f25 f26 f27 f28 f29 f30 f31 f32 f33 f34 f35 f36 f37 f38 f39 f40 f43)) (hS : va_S A s.heap H locs) (hl : lv_has ls 5 [(0, .ref h0), (1, .int v1), (2, .int v2), (3, .int v3)])
    (hret : ∀ (pc : Nat) (H : Heap) (locs : List Loc) (ls : Array Slot) (r : Int32), decode cX5_contest pc = .ok (.ireturn, 1) → r = o.1 → va_P (dC, dI) vwCl (wX5 cI cZ cJ cA h0 a x1 x3 o.2.1 o.2.2.1 o.2.2.2.1 o.2.2.2.2.1 o.2.2.2.2.2.1 o.2.2.2.2.2.2.1 o.2.2.2.2.2.2.2.1 x15 x16 x19 x20 x21 x22 x23 x24 x41 x42 f0 f2 o.2.2.2.2.2.2.2.2.1 o.2.2.2.2.2.2.2.2.2.1 o.2.2.2.2.2.2.2.2.2.2.1 o.2.2.2.2.2.2.2.2.2.2.2 f17 f18 f25 f26 f27 f28 f29 f30 f31 f32 f33 f34 f35 f36 f37 f38 f39 f40 f43) H → va_D A (wX5 cI cZ cJ cA h0 a x1 x3 o.2.1 o.2.2.1 o.2.2.2.1 o.2.2.2.2.1 o.2.2.2.2.2.1 o.2.2.2.2.2.2.1 o.2.2.2.2.2.2.2.1 x15 x16 x19 x20 x21 x22 x23 x24 x41 x42 f0 f2 o.2.2.2.2.2.2.2.2.1 o.2.2.2.2.2.2.2.2.2.1 o.2.2.2.2.2.2.2.2.2.2.1 o.2.2.2.2.2.2.2.2.2.2.2 f17 f18 f25 f26 f27 f28 f29 f30 f31 f32 f33 f34 f35 f36 f37 f38 f39 f40 f43) → va_S A s.heap H locs → W p l e R s m args below meth c H locs 0 0 Q (F0 m pc ls [.int r])) :
    W p l e R s m args below meth c H locs 0 0 Q (F0 m 0 ls []) := by
  obtain ⟨⟨hx, hb, hml, hown, hts⟩, hRf, hRl, hA, hN, hK⟩ := C0
  unfold q_X5_contest at hf
  refine lv_iload_n hx hb dX5_contest_0 rfl (lv_at hl 1 rfl) ?_
  refine lv_iconst (v := 0) hx hb dX5_contest_1 (by decide) ?_
  refine lv_iconst (v := 1) hx hb dX5_contest_2 (by decide) ?_
  obtain ⟨o1, ho1, hf1⟩ := z_ib hf
  replace hf := hf1
  clear hf1
  refine z_S0 (As := [.int v1, .int 0, .int 1]) (rest := []) ⟨hx, hb, hml, hown, hts⟩ (k_X5_in l dC dI cI cZ cJ cA H.size N v1 0 1 o1 ho1) (va_cwS 3 hts gX5_contest_X5_in rfl rfl rfl (by decide +kernel) ⟨Nat.le_trans (Nat.le_of_ble_eq_true rfl) hRf, Nat.le_trans (Nat.le_of_ble_eq_true rfl) hRl⟩) hK hP hS hA hN rfl hl.1 rfl (Nat.le_of_ble_eq_true rfl) dX5_contest_3 (fun H locs hP hS => ?_)
  refine lv_if_eq (tgt := 30) hx hb dX5_contest_6 (by decide) (fun c2 => ?_) (fun c2 => ?_)
  · replace hf := z_ip hf c2
    refine lv_iconst (v := (-1)) hx hb dX5_contest_30 (by decide) ?_
    obtain rfl := Option.some.inj hf
    exact hret _ _ _ _ _ dX5_contest_31 rfl hP hD hS
  · replace hf := z_im hf c2
    refine lv_iload_n hx hb dX5_contest_9 rfl (lv_at hl 1 rfl) ?_
    refine lv_if_ne (tgt := 23) hx hb dX5_contest_10 (by decide) (fun c3 => ?_) (fun c3 => ?_)
    · replace hf := z_im hf c3
      refine lv_aload_n hx hb dX5_contest_23 rfl (lv_at hl 0 rfl) ?_
      refine va_get (D := (dC, dI)) (ci := 5) (v := .int x1) (C := RX5) (T := TX5) (N := 44) hx hb hts (fun w hw => List.mem_cons_of_mem _ (List.mem_append_right _ hw)) hown hK hP 0 rfl rfl 1 (by decide) (hts (.fieldLink RX5 100 "OldStadiumModel" "runners" "I") (List.mem_of_getElem? (i := 1) rfl)) (fun _ h9 => h9) rfl dX5_contest_24 ?_
      refine lv_if_ne (tgt := 32) hx hb dX5_contest_27 (by decide) (fun c4 => ?_) (fun c4 => ?_)
      · replace hf := z_im hf c4
        refine lv_aload_n hx hb dX5_contest_32 rfl (lv_at hl 0 rfl) ?_
        refine lv_iconst (v := 1) hx hb dX5_contest_33 (by decide) ?_
        refine va_put (D := (dC, dI)) (ci := 5) (v := .int 1) (ty := .boolean) (C := RX5) (T := TX5) (N := 44) hx hb hts (fun w hw => List.mem_cons_of_mem _ (List.mem_append_right _ hw)) tyX5 tyX5_ok nmX5 hown hK hP hD hS 0 rfl rfl 4 (by decide) (hts (.fieldLink RX5 116 "OldStadiumModel" "goes" "Z") (List.mem_of_getElem? (i := 2) rfl)) (fun _ h9 => h9) rfl (by decide +kernel) rfl rfl (Nat.le_of_ble_eq_true rfl) dX5_contest_34 (fun H locs hP hD hS => ?_)
        replace hP : va_P (dC, dI) vwCl (wX5 cI cZ cJ cA h0 a x1 x3 1 x5 x6 x7 x9 x10 x14 x15 x16 x19 x20 x21 x22 x23 x24 x41 x42 f0 f2 f8 f11 f12 f13 f17 f18 f25 f26 f27 f28 f29 f30 f31 f32 f33 f34 f35 f36 f37 f38 f39 f40 f43) H := hP
        replace hD : va_D A (wX5 cI cZ cJ cA h0 a x1 x3 1 x5 x6 x7 x9 x10 x14 x15 x16 x19 x20 x21 x22 x23 x24 x41 x42 f0 f2 f8 f11 f12 f13 f17 f18 f25 f26 f27 f28 f29 f30 f31 f32 f33 f34 f35 f36 f37 f38 f39 f40 f43) := hD
        refine lv_aload_n hx hb dX5_contest_37 rfl (lv_at hl 0 rfl) ?_
        refine lv_iload_n hx hb dX5_contest_38 rfl (lv_at hl 1 rfl) ?_
        refine lv_if_ne (tgt := 46) hx hb dX5_contest_39 (by decide) (fun _ => ?_) (fun c0 => absurd c0 c3)
        refine lv_iconst (v := 2) hx hb dX5_contest_46 (by decide) ?_
        refine va_put (D := (dC, dI)) (ci := 5) (v := .int 2) (ty := .int) (C := RX5) (T := TX5) (N := 44) hx hb hts (fun w hw => List.mem_cons_of_mem _ (List.mem_append_right _ hw)) tyX5 tyX5_ok nmX5 hown hK hP hD hS 0 rfl rfl 5 (by decide) (hts (.fieldLink RX5 109 "OldStadiumModel" "size" "I") (List.mem_of_getElem? (i := 3) rfl)) (fun _ h9 => h9) rfl (by decide +kernel) rfl rfl (Nat.le_of_ble_eq_true rfl) dX5_contest_47 (fun H locs hP hD hS => ?_)
        replace hP : va_P (dC, dI) vwCl (wX5 cI cZ cJ cA h0 a x1 x3 1 2 x6 x7 x9 x10 x14 x15 x16 x19 x20 x21 x22 x23 x24 x41 x42 f0 f2 f8 f11 f12 f13 f17 f18 f25 f26 f27 f28 f29 f30 f31 f32 f33 f34 f35 f36 f37 f38 f39 f40 f43) H := hP
        replace hD : va_D A (wX5 cI cZ cJ cA h0 a x1 x3 1 2 x6 x7 x9 x10 x14 x15 x16 x19 x20 x21 x22 x23 x24 x41 x42 f0 f2 f8 f11 f12 f13 f17 f18 f25 f26 f27 f28 f29 f30 f31 f32 f33 f34 f35 f36 f37 f38 f39 f40 f43) := hD
        refine lv_aload_n hx hb dX5_contest_50 rfl (lv_at hl 0 rfl) ?_
        refine lv_iload_n hx hb dX5_contest_51 rfl (lv_at hl 3 rfl) ?_
        refine va_put (D := (dC, dI)) (ci := 5) (v := .int v3) (ty := .int) (C := RX5) (T := TX5) (N := 44) hx hb hts (fun w hw => List.mem_cons_of_mem _ (List.mem_append_right _ hw)) tyX5 tyX5_ok nmX5 hown hK hP hD hS 0 rfl rfl 6 (by decide) (hts (.fieldLink RX5 112 "OldStadiumModel" "\x72" "I") (List.mem_of_getElem? (i := 4) rfl)) (fun _ h9 => h9) rfl (by decide +kernel) rfl rfl (Nat.le_of_ble_eq_true rfl) dX5_contest_52 (fun H locs hP hD hS => ?_)
        replace hP : va_P (dC, dI) vwCl (wX5 cI cZ cJ cA h0 a x1 x3 1 2 v3 x7 x9 x10 x14 x15 x16 x19 x20 x21 x22 x23 x24 x41 x42 f0 f2 f8 f11 f12 f13 f17 f18 f25 f26 f27 f28 f29 f30 f31 f32 f33 f34 f35 f36 f37 f38 f39 f40 f43) H := hP
        replace hD : va_D A (wX5 cI cZ cJ cA h0 a x1 x3 1 2 v3 x7 x9 x10 x14 x15 x16 x19 x20 x21 x22 x23 x24 x41 x42 f0 f2 f8 f11 f12 f13 f17 f18 f25 f26 f27 f28 f29 f30 f31 f32 f33 f34 f35 f36 f37 f38 f39 f40 f43) := hD
        refine lv_aload_n hx hb dX5_contest_55 rfl (lv_at hl 0 rfl) ?_
        refine lv_iconst (v := 1) hx hb dX5_contest_56 (by decide) ?_
        refine va_put (D := (dC, dI)) (ci := 5) (v := .int 1) (ty := .int) (C := RX5) (T := TX5) (N := 44) hx hb hts (fun w hw => List.mem_cons_of_mem _ (List.mem_append_right _ hw)) tyX5 tyX5_ok nmX5 hown hK hP hD hS 0 rfl rfl 7 (by decide) (hts (.fieldLink RX5 120 "OldStadiumModel" "round" "I") (List.mem_of_getElem? (i := 5) rfl)) (fun _ h9 => h9) rfl (by decide +kernel) rfl rfl (Nat.le_of_ble_eq_true rfl) dX5_contest_57 (fun H locs hP hD hS => ?_)
        replace hP : va_P (dC, dI) vwCl (wX5 cI cZ cJ cA h0 a x1 x3 1 2 v3 1 x9 x10 x14 x15 x16 x19 x20 x21 x22 x23 x24 x41 x42 f0 f2 f8 f11 f12 f13 f17 f18 f25 f26 f27 f28 f29 f30 f31 f32 f33 f34 f35 f36 f37 f38 f39 f40 f43) H := hP
        replace hD : va_D A (wX5 cI cZ cJ cA h0 a x1 x3 1 2 v3 1 x9 x10 x14 x15 x16 x19 x20 x21 x22 x23 x24 x41 x42 f0 f2 f8 f11 f12 f13 f17 f18 f25 f26 f27 f28 f29 f30 f31 f32 f33 f34 f35 f36 f37 f38 f39 f40 f43) := hD
        refine lv_aload_n hx hb dX5_contest_60 rfl (lv_at hl 0 rfl) ?_
        refine lv_iconst (v := (-1)) hx hb dX5_contest_61 (by decide) ?_
        refine va_put (D := (dC, dI)) (ci := 5) (v := .int (-1)) (ty := .int) (C := RX5) (T := TX5) (N := 44) hx hb hts (fun w hw => List.mem_cons_of_mem _ (List.mem_append_right _ hw)) tyX5 tyX5_ok nmX5 hown hK hP hD hS 0 rfl rfl 14 (by decide) (hts (.fieldLink RX5 33 "OldStadiumModel" "victo\x72" "I") (List.mem_of_getElem? (i := 6) rfl)) (fun _ h9 => h9) rfl (by decide +kernel) rfl rfl (Nat.le_of_ble_eq_true rfl) dX5_contest_62 (fun H locs hP hD hS => ?_)
        replace hP : va_P (dC, dI) vwCl (wX5 cI cZ cJ cA h0 a x1 x3 1 2 v3 1 x9 x10 (-1) x15 x16 x19 x20 x21 x22 x23 x24 x41 x42 f0 f2 f8 f11 f12 f13 f17 f18 f25 f26 f27 f28 f29 f30 f31 f32 f33 f34 f35 f36 f37 f38 f39 f40 f43) H := hP
        replace hD : va_D A (wX5 cI cZ cJ cA h0 a x1 x3 1 2 v3 1 x9 x10 (-1) x15 x16 x19 x20 x21 x22 x23 x24 x41 x42 f0 f2 f8 f11 f12 f13 f17 f18 f25 f26 f27 f28 f29 f30 f31 f32 f33 f34 f35 f36 f37 f38 f39 f40 f43) := hD
        refine lv_aload_n hx hb dX5_contest_65 rfl (lv_at hl 0 rfl) ?_
        refine lv_aload_n hx hb dX5_contest_66 rfl (lv_at hl 0 rfl) ?_
        refine va_get (D := (dC, dI)) (ci := 5) (v := .int x1) (C := RX5) (T := TX5) (N := 44) hx hb hts (fun w hw => List.mem_cons_of_mem _ (List.mem_append_right _ hw)) hown hK hP 0 rfl rfl 1 (by decide) (hts (.fieldLink RX5 100 "OldStadiumModel" "runners" "I") (List.mem_of_getElem? (i := 1) rfl)) (fun _ h9 => h9) rfl dX5_contest_67 ?_
        refine va_put (D := (dC, dI)) (ci := 5) (v := .int x1) (ty := .int) (C := RX5) (T := TX5) (N := 44) hx hb hts (fun w hw => List.mem_cons_of_mem _ (List.mem_append_right _ hw)) tyX5 tyX5_ok nmX5 hown hK hP hD hS 0 rfl rfl 9 (by decide) (hts (.fieldLink RX5 106 "OldStadiumModel" "many" "I") (List.mem_of_getElem? (i := 7) rfl)) (fun _ h9 => h9) rfl (by decide +kernel) rfl rfl (Nat.le_of_ble_eq_true rfl) dX5_contest_70 (fun H locs hP hD hS => ?_)
        replace hP : va_P (dC, dI) vwCl (wX5 cI cZ cJ cA h0 a x1 x3 1 2 v3 1 x1 x10 (-1) x15 x16 x19 x20 x21 x22 x23 x24 x41 x42 f0 f2 f8 f11 f12 f13 f17 f18 f25 f26 f27 f28 f29 f30 f31 f32 f33 f34 f35 f36 f37 f38 f39 f40 f43) H := hP
        replace hD : va_D A (wX5 cI cZ cJ cA h0 a x1 x3 1 2 v3 1 x1 x10 (-1) x15 x16 x19 x20 x21 x22 x23 x24 x41 x42 f0 f2 f8 f11 f12 f13 f17 f18 f25 f26 f27 f28 f29 f30 f31 f32 f33 f34 f35 f36 f37 f38 f39 f40 f43) := hD
        refine lv_iconst (v := 0) hx hb dX5_contest_73 (by decide) ?_
        refine lv_istore (lv' := [(4, .int 0), (0, .ref h0), (1, .int v1), (2, .int v2), (3, .int v3)]) hx hb dX5_contest_74 hl (by decide) rfl (fun ls hl => ?_)
        obtain ⟨t5, ht5, hf1⟩ := z_ib hf
        replace hf := hf1
        clear hf1
        refine b_X5_contest_L76 N ⟨⟨hx, hb, hml, hown, hts⟩, hRf, hRl, hA, hN, hK⟩ N ht5 hP hD hS (lv_sub hl [1, 0] rfl) (fun H locs ls hP hD hS hl => ?_)
        refine lv_iconst (v := 0) hx hb dX5_contest_100 (by decide) ?_
        refine lv_istore (lv' := [(4, .int 0), (0, .ref h0)]) hx hb dX5_contest_101 hl (by decide) rfl (fun ls hl => ?_)
        obtain ⟨t6, ht6, hf1⟩ := z_ib hf
        replace hf := hf1
        clear hf1
        refine b_X5_contest_L103 N ⟨⟨hx, hb, hml, hown, hts⟩, hRf, hRl, hA, hN, hK⟩ N ht6 hP hD hS (lv_sub hl [1, 0] rfl) (fun H locs ls hP hD hS hl => ?_)
        refine lv_aload_n hx hb dX5_contest_124 rfl (lv_at hl 0 rfl) ?_
        obtain ⟨o7, ho7, hf1⟩ := z_ib hf
        replace hf := hf1
        clear hf1
        refine z_Vv (As := []) (rest := []) (w := (wX5 cI cZ cJ cA h0 a x1 x3 1 2 v3 1 x1 x10 (-1) x15 x16 x19 x20 x21 x22 x23 x24 x41 x42 f0 f2 t5 t6 f12 f13 f17 f18 f25 f26 f27 f28 f29 f30 f31 f32 f33 f34 f35 f36 f37 f38 f39 f40 f43)) (w1 := (wX5 cI cZ cJ cA h0 a x1 x3 1 2 o7.1 1 x1 o7.2.1 (-1) x15 x16 x19 x20 x21 x22 x23 x24 x41 x42 f0 f2 o7.2.2.1 o7.2.2.2.1 o7.2.2.2.2.1 o7.2.2.2.2.2 f17 f18 f25 f26 f27 f28 f29 f30 f31 f32 f33 f34 f35 f36 f37 f38 f39 f40 f43)) ⟨hx, hb, hml, hown, hts⟩ (k_X5_mix l dC dI cI cZ cJ cA h0 a H.size N x1 x3 1 2 v3 1 x1 x10 (-1) x15 x16 x19 x20 x21 x22 x23 x24 x41 x42 f0 f2 t5 t6 f12 f13 f17 f18 f25 f26 f27 f28 f29 f30 f31 f32 f33 f34 f35 f36 f37 f38 f39 f40 f43 o7 ho7) (cwV 0 hts gX5_contest_X5_mix rfl rfl rfl (by decide +kernel) ⟨Nat.le_trans (Nat.le_of_ble_eq_true rfl) hRf, Nat.le_trans (Nat.le_of_ble_eq_true rfl) hRl⟩) hK hP hD hS hA hN (ci := 5) rfl rfl rfl rfl hl.1 rfl (Nat.le_of_ble_eq_true rfl) dX5_contest_125 (fun H locs hP hD hS => ?_)
        refine lv_aload_n hx hb dX5_contest_128 rfl (lv_at hl 0 rfl) ?_
        obtain ⟨o8, ho8, hf1⟩ := z_ib hf
        replace hf := hf1
        clear hf1
        refine z_Vi (As := []) (rest := []) (w := (wX5 cI cZ cJ cA h0 a x1 x3 1 2 o7.1 1 x1 o7.2.1 (-1) x15 x16 x19 x20 x21 x22 x23 x24 x41 x42 f0 f2 o7.2.2.1 o7.2.2.2.1 o7.2.2.2.2.1 o7.2.2.2.2.2 f17 f18 f25 f26 f27 f28 f29 f30 f31 f32 f33 f34 f35 f36 f37 f38 f39 f40 f43)) (w1 := (wX5 cI cZ cJ cA h0 a x1 x3 1 2 o7.1 1 x1 o7.2.1 (-1) x15 x16 x19 x20 x21 x22 x23 x24 x41 x42 f0 f2 o7.2.2.1 o7.2.2.2.1 o7.2.2.2.2.1 o7.2.2.2.2.2 f17 f18 f25 f26 f27 f28 f29 f30 f31 f32 f33 f34 f35 f36 f37 f38 f39 f40 f43)) ⟨hx, hb, hml, hown, hts⟩ (k_X5_heats l dC dI cI cZ cJ cA h0 a H.size N x1 x3 1 2 o7.1 1 x1 o7.2.1 (-1) x15 x16 x19 x20 x21 x22 x23 x24 x41 x42 f0 f2 o7.2.2.1 o7.2.2.2.1 o7.2.2.2.2.1 o7.2.2.2.2.2 f17 f18 f25 f26 f27 f28 f29 f30 f31 f32 f33 f34 f35 f36 f37 f38 f39 f40 f43 o8 ho8) (cwV 0 hts gX5_contest_X5_heats rfl rfl rfl (by decide +kernel) ⟨Nat.le_trans (Nat.le_of_ble_eq_true rfl) hRf, Nat.le_trans (Nat.le_of_ble_eq_true rfl) hRl⟩) hK hP hD hS hA hN (ci := 5) rfl rfl rfl rfl hl.1 rfl (Nat.le_of_ble_eq_true rfl) dX5_contest_129 (fun H locs hP hD hS => ?_)
        obtain rfl := Option.some.inj hf
        exact hret _ _ _ _ _ dX5_contest_132 rfl hP hD hS
      · replace hf := z_ip hf c4
        refine lv_iconst (v := (-1)) hx hb dX5_contest_30 (by decide) ?_
        obtain rfl := Option.some.inj hf
        exact hret _ _ _ _ _ dX5_contest_31 rfl hP hD hS
    · replace hf := z_ip hf c3
      refine lv_iload_n hx hb dX5_contest_13 rfl (lv_at hl 2 rfl) ?_
      refine lv_iconst (v := 2) hx hb dX5_contest_14 (by decide) ?_
      refine lv_bipush (v := 6) hx hb dX5_contest_15 (by decide) ?_
      obtain ⟨o9, ho9, hf1⟩ := z_ib hf
      replace hf := hf1
      clear hf1
      refine z_S0 (As := [.int v2, .int 2, .int 6]) (rest := []) ⟨hx, hb, hml, hown, hts⟩ (k_X5_in l dC dI cI cZ cJ cA H.size N v2 2 6 o9 ho9) (va_cwS 3 hts gX5_contest_X5_in rfl rfl rfl (by decide +kernel) ⟨Nat.le_trans (Nat.le_of_ble_eq_true rfl) hRf, Nat.le_trans (Nat.le_of_ble_eq_true rfl) hRl⟩) hK hP hS hA hN rfl hl.1 rfl (Nat.le_of_ble_eq_true rfl) dX5_contest_17 (fun H locs hP hS => ?_)
      refine lv_if_eq (tgt := 30) hx hb dX5_contest_20 (by decide) (fun c10 => ?_) (fun c10 => ?_)
      · replace hf := z_ip hf c10
        refine lv_iconst (v := (-1)) hx hb dX5_contest_30 (by decide) ?_
        obtain rfl := Option.some.inj hf
        exact hret _ _ _ _ _ dX5_contest_31 rfl hP hD hS
      · replace hf := z_im hf c10
        refine lv_aload_n hx hb dX5_contest_23 rfl (lv_at hl 0 rfl) ?_
        refine va_get (D := (dC, dI)) (ci := 5) (v := .int x1) (C := RX5) (T := TX5) (N := 44) hx hb hts (fun w hw => List.mem_cons_of_mem _ (List.mem_append_right _ hw)) hown hK hP 0 rfl rfl 1 (by decide) (hts (.fieldLink RX5 100 "OldStadiumModel" "runners" "I") (List.mem_of_getElem? (i := 1) rfl)) (fun _ h9 => h9) rfl dX5_contest_24 ?_
        refine lv_if_ne (tgt := 32) hx hb dX5_contest_27 (by decide) (fun c11 => ?_) (fun c11 => ?_)
        · replace hf := z_im hf c11
          refine lv_aload_n hx hb dX5_contest_32 rfl (lv_at hl 0 rfl) ?_
          refine lv_iconst (v := 1) hx hb dX5_contest_33 (by decide) ?_
          refine va_put (D := (dC, dI)) (ci := 5) (v := .int 1) (ty := .boolean) (C := RX5) (T := TX5) (N := 44) hx hb hts (fun w hw => List.mem_cons_of_mem _ (List.mem_append_right _ hw)) tyX5 tyX5_ok nmX5 hown hK hP hD hS 0 rfl rfl 4 (by decide) (hts (.fieldLink RX5 116 "OldStadiumModel" "goes" "Z") (List.mem_of_getElem? (i := 2) rfl)) (fun _ h9 => h9) rfl (by decide +kernel) rfl rfl (Nat.le_of_ble_eq_true rfl) dX5_contest_34 (fun H locs hP hD hS => ?_)
          replace hP : va_P (dC, dI) vwCl (wX5 cI cZ cJ cA h0 a x1 x3 1 x5 x6 x7 x9 x10 x14 x15 x16 x19 x20 x21 x22 x23 x24 x41 x42 f0 f2 f8 f11 f12 f13 f17 f18 f25 f26 f27 f28 f29 f30 f31 f32 f33 f34 f35 f36 f37 f38 f39 f40 f43) H := hP
          replace hD : va_D A (wX5 cI cZ cJ cA h0 a x1 x3 1 x5 x6 x7 x9 x10 x14 x15 x16 x19 x20 x21 x22 x23 x24 x41 x42 f0 f2 f8 f11 f12 f13 f17 f18 f25 f26 f27 f28 f29 f30 f31 f32 f33 f34 f35 f36 f37 f38 f39 f40 f43) := hD
          refine lv_aload_n hx hb dX5_contest_37 rfl (lv_at hl 0 rfl) ?_
          refine lv_iload_n hx hb dX5_contest_38 rfl (lv_at hl 1 rfl) ?_
          refine lv_if_ne (tgt := 46) hx hb dX5_contest_39 (by decide) (fun c0 => absurd c3 c0) (fun _ => ?_)
          refine lv_iload_n hx hb dX5_contest_42 rfl (lv_at hl 2 rfl) ?_
          refine lv_goto (tgt := 47) hx hb dX5_contest_43 (by decide) ?_
          refine va_put (D := (dC, dI)) (ci := 5) (v := .int v2) (ty := .int) (C := RX5) (T := TX5) (N := 44) hx hb hts (fun w hw => List.mem_cons_of_mem _ (List.mem_append_right _ hw)) tyX5 tyX5_ok nmX5 hown hK hP hD hS 0 rfl rfl 5 (by decide) (hts (.fieldLink RX5 109 "OldStadiumModel" "size" "I") (List.mem_of_getElem? (i := 3) rfl)) (fun _ h9 => h9) rfl (by decide +kernel) rfl rfl (Nat.le_of_ble_eq_true rfl) dX5_contest_47 (fun H locs hP hD hS => ?_)
          replace hP : va_P (dC, dI) vwCl (wX5 cI cZ cJ cA h0 a x1 x3 1 v2 x6 x7 x9 x10 x14 x15 x16 x19 x20 x21 x22 x23 x24 x41 x42 f0 f2 f8 f11 f12 f13 f17 f18 f25 f26 f27 f28 f29 f30 f31 f32 f33 f34 f35 f36 f37 f38 f39 f40 f43) H := hP
          replace hD : va_D A (wX5 cI cZ cJ cA h0 a x1 x3 1 v2 x6 x7 x9 x10 x14 x15 x16 x19 x20 x21 x22 x23 x24 x41 x42 f0 f2 f8 f11 f12 f13 f17 f18 f25 f26 f27 f28 f29 f30 f31 f32 f33 f34 f35 f36 f37 f38 f39 f40 f43) := hD
          refine lv_aload_n hx hb dX5_contest_50 rfl (lv_at hl 0 rfl) ?_
          refine lv_iload_n hx hb dX5_contest_51 rfl (lv_at hl 3 rfl) ?_
          refine va_put (D := (dC, dI)) (ci := 5) (v := .int v3) (ty := .int) (C := RX5) (T := TX5) (N := 44) hx hb hts (fun w hw => List.mem_cons_of_mem _ (List.mem_append_right _ hw)) tyX5 tyX5_ok nmX5 hown hK hP hD hS 0 rfl rfl 6 (by decide) (hts (.fieldLink RX5 112 "OldStadiumModel" "\x72" "I") (List.mem_of_getElem? (i := 4) rfl)) (fun _ h9 => h9) rfl (by decide +kernel) rfl rfl (Nat.le_of_ble_eq_true rfl) dX5_contest_52 (fun H locs hP hD hS => ?_)
          replace hP : va_P (dC, dI) vwCl (wX5 cI cZ cJ cA h0 a x1 x3 1 v2 v3 x7 x9 x10 x14 x15 x16 x19 x20 x21 x22 x23 x24 x41 x42 f0 f2 f8 f11 f12 f13 f17 f18 f25 f26 f27 f28 f29 f30 f31 f32 f33 f34 f35 f36 f37 f38 f39 f40 f43) H := hP
          replace hD : va_D A (wX5 cI cZ cJ cA h0 a x1 x3 1 v2 v3 x7 x9 x10 x14 x15 x16 x19 x20 x21 x22 x23 x24 x41 x42 f0 f2 f8 f11 f12 f13 f17 f18 f25 f26 f27 f28 f29 f30 f31 f32 f33 f34 f35 f36 f37 f38 f39 f40 f43) := hD
          refine lv_aload_n hx hb dX5_contest_55 rfl (lv_at hl 0 rfl) ?_
          refine lv_iconst (v := 1) hx hb dX5_contest_56 (by decide) ?_
          refine va_put (D := (dC, dI)) (ci := 5) (v := .int 1) (ty := .int) (C := RX5) (T := TX5) (N := 44) hx hb hts (fun w hw => List.mem_cons_of_mem _ (List.mem_append_right _ hw)) tyX5 tyX5_ok nmX5 hown hK hP hD hS 0 rfl rfl 7 (by decide) (hts (.fieldLink RX5 120 "OldStadiumModel" "round" "I") (List.mem_of_getElem? (i := 5) rfl)) (fun _ h9 => h9) rfl (by decide +kernel) rfl rfl (Nat.le_of_ble_eq_true rfl) dX5_contest_57 (fun H locs hP hD hS => ?_)
          replace hP : va_P (dC, dI) vwCl (wX5 cI cZ cJ cA h0 a x1 x3 1 v2 v3 1 x9 x10 x14 x15 x16 x19 x20 x21 x22 x23 x24 x41 x42 f0 f2 f8 f11 f12 f13 f17 f18 f25 f26 f27 f28 f29 f30 f31 f32 f33 f34 f35 f36 f37 f38 f39 f40 f43) H := hP
          replace hD : va_D A (wX5 cI cZ cJ cA h0 a x1 x3 1 v2 v3 1 x9 x10 x14 x15 x16 x19 x20 x21 x22 x23 x24 x41 x42 f0 f2 f8 f11 f12 f13 f17 f18 f25 f26 f27 f28 f29 f30 f31 f32 f33 f34 f35 f36 f37 f38 f39 f40 f43) := hD
          refine lv_aload_n hx hb dX5_contest_60 rfl (lv_at hl 0 rfl) ?_
          refine lv_iconst (v := (-1)) hx hb dX5_contest_61 (by decide) ?_
          refine va_put (D := (dC, dI)) (ci := 5) (v := .int (-1)) (ty := .int) (C := RX5) (T := TX5) (N := 44) hx hb hts (fun w hw => List.mem_cons_of_mem _ (List.mem_append_right _ hw)) tyX5 tyX5_ok nmX5 hown hK hP hD hS 0 rfl rfl 14 (by decide) (hts (.fieldLink RX5 33 "OldStadiumModel" "victo\x72" "I") (List.mem_of_getElem? (i := 6) rfl)) (fun _ h9 => h9) rfl (by decide +kernel) rfl rfl (Nat.le_of_ble_eq_true rfl) dX5_contest_62 (fun H locs hP hD hS => ?_)
          replace hP : va_P (dC, dI) vwCl (wX5 cI cZ cJ cA h0 a x1 x3 1 v2 v3 1 x9 x10 (-1) x15 x16 x19 x20 x21 x22 x23 x24 x41 x42 f0 f2 f8 f11 f12 f13 f17 f18 f25 f26 f27 f28 f29 f30 f31 f32 f33 f34 f35 f36 f37 f38 f39 f40 f43) H := hP
          replace hD : va_D A (wX5 cI cZ cJ cA h0 a x1 x3 1 v2 v3 1 x9 x10 (-1) x15 x16 x19 x20 x21 x22 x23 x24 x41 x42 f0 f2 f8 f11 f12 f13 f17 f18 f25 f26 f27 f28 f29 f30 f31 f32 f33 f34 f35 f36 f37 f38 f39 f40 f43) := hD
          refine lv_aload_n hx hb dX5_contest_65 rfl (lv_at hl 0 rfl) ?_
          refine lv_aload_n hx hb dX5_contest_66 rfl (lv_at hl 0 rfl) ?_
          refine va_get (D := (dC, dI)) (ci := 5) (v := .int x1) (C := RX5) (T := TX5) (N := 44) hx hb hts (fun w hw => List.mem_cons_of_mem _ (List.mem_append_right _ hw)) hown hK hP 0 rfl rfl 1 (by decide) (hts (.fieldLink RX5 100 "OldStadiumModel" "runners" "I") (List.mem_of_getElem? (i := 1) rfl)) (fun _ h9 => h9) rfl dX5_contest_67 ?_
          refine va_put (D := (dC, dI)) (ci := 5) (v := .int x1) (ty := .int) (C := RX5) (T := TX5) (N := 44) hx hb hts (fun w hw => List.mem_cons_of_mem _ (List.mem_append_right _ hw)) tyX5 tyX5_ok nmX5 hown hK hP hD hS 0 rfl rfl 9 (by decide) (hts (.fieldLink RX5 106 "OldStadiumModel" "many" "I") (List.mem_of_getElem? (i := 7) rfl)) (fun _ h9 => h9) rfl (by decide +kernel) rfl rfl (Nat.le_of_ble_eq_true rfl) dX5_contest_70 (fun H locs hP hD hS => ?_)
          replace hP : va_P (dC, dI) vwCl (wX5 cI cZ cJ cA h0 a x1 x3 1 v2 v3 1 x1 x10 (-1) x15 x16 x19 x20 x21 x22 x23 x24 x41 x42 f0 f2 f8 f11 f12 f13 f17 f18 f25 f26 f27 f28 f29 f30 f31 f32 f33 f34 f35 f36 f37 f38 f39 f40 f43) H := hP
          replace hD : va_D A (wX5 cI cZ cJ cA h0 a x1 x3 1 v2 v3 1 x1 x10 (-1) x15 x16 x19 x20 x21 x22 x23 x24 x41 x42 f0 f2 f8 f11 f12 f13 f17 f18 f25 f26 f27 f28 f29 f30 f31 f32 f33 f34 f35 f36 f37 f38 f39 f40 f43) := hD
          refine lv_iconst (v := 0) hx hb dX5_contest_73 (by decide) ?_
          refine lv_istore (lv' := [(4, .int 0), (0, .ref h0), (1, .int v1), (2, .int v2), (3, .int v3)]) hx hb dX5_contest_74 hl (by decide) rfl (fun ls hl => ?_)
          obtain ⟨t12, ht12, hf1⟩ := z_ib hf
          replace hf := hf1
          clear hf1
          refine b_X5_contest_L76 N ⟨⟨hx, hb, hml, hown, hts⟩, hRf, hRl, hA, hN, hK⟩ N ht12 hP hD hS (lv_sub hl [1, 0] rfl) (fun H locs ls hP hD hS hl => ?_)
          refine lv_iconst (v := 0) hx hb dX5_contest_100 (by decide) ?_
          refine lv_istore (lv' := [(4, .int 0), (0, .ref h0)]) hx hb dX5_contest_101 hl (by decide) rfl (fun ls hl => ?_)
          obtain ⟨t13, ht13, hf1⟩ := z_ib hf
          replace hf := hf1
          clear hf1
          refine b_X5_contest_L103 N ⟨⟨hx, hb, hml, hown, hts⟩, hRf, hRl, hA, hN, hK⟩ N ht13 hP hD hS (lv_sub hl [1, 0] rfl) (fun H locs ls hP hD hS hl => ?_)
          refine lv_aload_n hx hb dX5_contest_124 rfl (lv_at hl 0 rfl) ?_
          obtain ⟨o14, ho14, hf1⟩ := z_ib hf
          replace hf := hf1
          clear hf1
          refine z_Vv (As := []) (rest := []) (w := (wX5 cI cZ cJ cA h0 a x1 x3 1 v2 v3 1 x1 x10 (-1) x15 x16 x19 x20 x21 x22 x23 x24 x41 x42 f0 f2 t12 t13 f12 f13 f17 f18 f25 f26 f27 f28 f29 f30 f31 f32 f33 f34 f35 f36 f37 f38 f39 f40 f43)) (w1 := (wX5 cI cZ cJ cA h0 a x1 x3 1 v2 o14.1 1 x1 o14.2.1 (-1) x15 x16 x19 x20 x21 x22 x23 x24 x41 x42 f0 f2 o14.2.2.1 o14.2.2.2.1 o14.2.2.2.2.1 o14.2.2.2.2.2 f17 f18 f25 f26 f27 f28 f29 f30 f31 f32 f33 f34 f35 f36 f37 f38 f39 f40 f43)) ⟨hx, hb, hml, hown, hts⟩ (k_X5_mix l dC dI cI cZ cJ cA h0 a H.size N x1 x3 1 v2 v3 1 x1 x10 (-1) x15 x16 x19 x20 x21 x22 x23 x24 x41 x42 f0 f2 t12 t13 f12 f13 f17 f18 f25 f26 f27 f28 f29 f30 f31 f32 f33 f34 f35 f36 f37 f38 f39 f40 f43 o14 ho14) (cwV 0 hts gX5_contest_X5_mix rfl rfl rfl (by decide +kernel) ⟨Nat.le_trans (Nat.le_of_ble_eq_true rfl) hRf, Nat.le_trans (Nat.le_of_ble_eq_true rfl) hRl⟩) hK hP hD hS hA hN (ci := 5) rfl rfl rfl rfl hl.1 rfl (Nat.le_of_ble_eq_true rfl) dX5_contest_125 (fun H locs hP hD hS => ?_)
          refine lv_aload_n hx hb dX5_contest_128 rfl (lv_at hl 0 rfl) ?_
          obtain ⟨o15, ho15, hf1⟩ := z_ib hf
          replace hf := hf1
          clear hf1
          refine z_Vi (As := []) (rest := []) (w := (wX5 cI cZ cJ cA h0 a x1 x3 1 v2 o14.1 1 x1 o14.2.1 (-1) x15 x16 x19 x20 x21 x22 x23 x24 x41 x42 f0 f2 o14.2.2.1 o14.2.2.2.1 o14.2.2.2.2.1 o14.2.2.2.2.2 f17 f18 f25 f26 f27 f28 f29 f30 f31 f32 f33 f34 f35 f36 f37 f38 f39 f40 f43)) (w1 := (wX5 cI cZ cJ cA h0 a x1 x3 1 v2 o14.1 1 x1 o14.2.1 (-1) x15 x16 x19 x20 x21 x22 x23 x24 x41 x42 f0 f2 o14.2.2.1 o14.2.2.2.1 o14.2.2.2.2.1 o14.2.2.2.2.2 f17 f18 f25 f26 f27 f28 f29 f30 f31 f32 f33 f34 f35 f36 f37 f38 f39 f40 f43)) ⟨hx, hb, hml, hown, hts⟩ (k_X5_heats l dC dI cI cZ cJ cA h0 a H.size N x1 x3 1 v2 o14.1 1 x1 o14.2.1 (-1) x15 x16 x19 x20 x21 x22 x23 x24 x41 x42 f0 f2 o14.2.2.1 o14.2.2.2.1 o14.2.2.2.2.1 o14.2.2.2.2.2 f17 f18 f25 f26 f27 f28 f29 f30 f31 f32 f33 f34 f35 f36 f37 f38 f39 f40 f43 o15 ho15) (cwV 0 hts gX5_contest_X5_heats rfl rfl rfl (by decide +kernel) ⟨Nat.le_trans (Nat.le_of_ble_eq_true rfl) hRf, Nat.le_trans (Nat.le_of_ble_eq_true rfl) hRl⟩) hK hP hD hS hA hN (ci := 5) rfl rfl rfl rfl hl.1 rfl (Nat.le_of_ble_eq_true rfl) dX5_contest_129 (fun H locs hP hD hS => ?_)
          obtain rfl := Option.some.inj hf
          exact hret _ _ _ _ _ dX5_contest_132 rfl hP hD hS
        · replace hf := z_ip hf c11
          refine lv_iconst (v := (-1)) hx hb dX5_contest_30 (by decide) ?_
          obtain rfl := Option.some.inj hf
          exact hret _ _ _ _ _ dX5_contest_31 rfl hP hD hS
set_option maxHeartbeats 4000000 in
set_option maxRecDepth 100000 in
theorem k_X5_contest (l : Launch) (dC : Nat → ClassId) (dI : Nat → Nat → Nat) (cI cZ cJ cA : ClassId) (h0 : Nat) (a : Nat → Nat) (sz : Nat) (N : Nat) (v1 : Int32) (v2 : Int32) (v3 : Int32) (x1 : Int32) (x3 : Int32) (x4 : Int32) (x5 : Int32) (x6 : Int32) (x7 : Int32) (x9 : Int32) (x10 : Int32) (x14 : Int32) (x15 : Int32) (x16 : Int32) (x19 : Int32) (x20 : Int32) (x21 : Int32) (x22 : Int32) (x23 : Int32) (x24 : Int32) (x41 : Int32) (x42 : Int32) (f0 : (Nat → Int32)) (f2 : (Nat → Int32)) (f8 : (Nat → Int32)) (f11 : (Nat → Int32)) (f12 : (Nat → Int32)) (f13 : (Nat → Int32)) (f17 : (Nat → Int32)) (f18 : (Nat → Int32)) (f25 : (Nat → Int32)) (f26 : (Nat → Int32)) (f27 : (Nat → Int32)) (f28 : (Nat → Int32)) (f29 : (Nat → Int32)) (f30 : (Nat → Int32)) (f31 : (Nat → Int32)) (f32 : (Nat → Int32)) (f33 : (Nat → Int32)) (f34 : (Nat → Int32)) (f35 : (Nat → Int32)) (f36 : (Nat → Int32)) (f37 : (Nat → Int32)) (f38 : (Nat → Int32)) (f39 : (Nat → Int32)) (f40 : (Nat → Int32)) (f43 : (Nat → Int32)) (o : (Int32 × Int32 × Int32 × Int32 × Int32 × Int32 × Int32 × Int32 × (Nat → Int32) × (Nat → Int32) × (Nat → Int32) × (Nat → Int32))) (hf : q_X5_contest N v1 v2 v3 x1 x4 x5 x6 x7 x9 x10 x14 f8 f11 f12 f13 = some o) : Met l yX5_contest wsX5_contest ({ frames := 1, cells := 0, slots := 0, locals := 23 } : Room) (z_Pre dC dI (z_ty cI cZ cJ cA) [.ref h0, .int v1, .int v2, .int v3] sz (wX5 cI cZ cJ cA h0 a x1 x3 x4 x5 x6 x7 x9 x10 x14 x15 x16 x19 x20 x21 x22 x23 x24 x41 x42 f0 f2 f8 f11 f12 f13 f17 f18 f25 f26 f27 f28 f29 f30 f31 f32 f33 f34 f35 f36 f37 f38 f39 f40 f43)) (z_Pi dC dI o.1 (wX5 cI cZ cJ cA h0 a x1 x3 o.2.1 o.2.2.1 o.2.2.2.1 o.2.2.2.2.1 o.2.2.2.2.2.1 o.2.2.2.2.2.2.1 o.2.2.2.2.2.2.2.1 x15 x16 x19 x20 x21 x22 x23 x24 x41 x42 f0 f2 o.2.2.2.2.2.2.2.2.1 o.2.2.2.2.2.2.2.2.2.1 o.2.2.2.2.2.2.2.2.2.2.1 o.2.2.2.2.2.2.2.2.2.2.2 f17 f18 f25 f26 f27 f28 f29 f30 f31 f32 f33 f34 f35 f36 f37 f38 f39 f40 f43) sz (wX5 cI cZ cJ cA h0 a x1 x3 x4 x5 x6 x7 x9 x10 x14 x15 x16 x19 x20 x21 x22 x23 x24 x41 x42 f0 f2 f8 f11 f12 f13 f17 f18 f25 f26 f27 f28 f29 f30 f31 f32 f33 f34 f35 f36 f37 f38 f39 f40 f43)) 0 0 (va_A (wX5 cI cZ cJ cA h0 a x1 x3 x4 x5 x6 x7 x9 x10 x14 x15 x16 x19 x20 x21 x22 x23 x24 x41 x42 f0 f2 f8 f11 f12 f13 f17 f18 f25 f26 f27 f28 f29 f30 f31 f32 f33 f34 f35 f36 f37 f38 f39 f40 f43) sz) := by
  refine Met.ofW (cc := cX5_contest) (maxL := 5) (ret := (some .int)) (by decide) rfl ?_
  intro p e s m args below meth c s₁ B hml hv
  obtain ⟨rfl, hsz, hP, hK, hD0, hN⟩ := hv
  subst hsz
  have hl := lv_entry ([.ref h0, .int v1, .int v2, .int v3]) (n := 5) (Nat.le_of_ble_eq_true rfl)
  rw [lg_entry_eq]
  refine b_X5_contest N ⟨⟨B.exec, B.bytes, hml, findClass_of_methodNamed B.named, atoms_spec (ws := wsX5_contest) B.pre⟩, Nat.le_refl _, Nat.le_refl _, fun q h => Or.inr h, hN, hK⟩ hf hP hD0.self va_S.rf hl (fun pc H locs ls r hd hr hP hD hS => ?_)
  subst hr
  exact W.iret B.exec B.bytes B.returns (fun t ht hW => ⟨⟨_, (), rfl, rfl, by rw [ht]; exact hP, hD⟩, hS.F ht⟩) hS.2.2 hd
def q_X5_inHeat (N : Nat) (v1 : Int32) (x5 : Int32) (x9 : Int32) (x10 : Int32) : Option Int32 :=
  (if x10 = (-1) then
   (if x5 ≤ ((x9 - 0) - (v1 * x5)) then
    (some x5)
   else
    (some ((x9 - 0) - (v1 * x5))))
  else
   (if x5 ≤ ((x9 - 1) - (v1 * x5)) then
    (some x5)
   else
    (some ((x9 - 1) - (v1 * x5)))))
set_option maxHeartbeats 4000000 in
set_option maxRecDepth 100000 in
theorem b_X5_inHeat {p : Program} {l : Launch} {e : Env} {R : Room} {s : State} {m : MethodId} {args : Array Value} {below : List Frame} {meth : Method} {c : Code} {Q : State → Prop} {A : Nat → Prop} {dC : Nat → ClassId} {dI : Nat → Nat → Nat} {cI cZ cJ cA : ClassId} {h0 : Nat} {a : Nat → Nat} (N : Nat) (C0 : z_Cx p s m args c cX5_inHeat 3 wsX5_inHeat RX5 R 0 0 A dC dI (z_ty cI cZ cJ cA)) {v1 : Int32} {x1 : Int32} {x3 : Int32} {x4 : Int32} {x5 : Int32} {x6 : Int32} {x7 : Int32} {x9 : Int32} {x10 : Int32} {x14 : Int32} {x15 : Int32} {x16 : Int32} {x19 : Int32} {x20 : Int32} {x21 : Int32} {x22 : Int32} {x23 : Int32} {x24 : Int32} {x41 : Int32} {x42 : Int32} {f0 : (Nat → Int32)} {f2 : (Nat → Int32)} {f8 : (Nat → Int32)} {f11 : (Nat → Int32)} {f12 : (Nat → Int32)} {f13 : (Nat → Int32)} {f17 : (Nat → Int32)} {f18 : (Nat → Int32)} {f25 : (Nat → Int32)} {f26 : (Nat → Int32)} {f27 : (Nat → Int32)} {f28 : (Nat → Int32)} {f29 : (Nat → Int32)} {f30 : (Nat → Int32)} {f31 : (Nat → Int32)} {f32 : (Nat → Int32)} {f33 : (Nat → Int32)} {f34 : (Nat → Int32)} {f35 : (Nat → Int32)} {f36 : (Nat → Int32)} {f37 : (Nat → Int32)} {f38 : (Nat → Int32)} {f39 : (Nat → Int32)} {f40 : (Nat → Int32)} {f43 : (Nat → Int32)} {o : Int32} {H : Heap} {locs : List Loc} {ls : Array Slot} (hf : q_X5_inHeat N v1 x5 x9 x10 = some o) (hP : va_P (dC, dI) vwCl (wX5 cI cZ cJ cA h0 a x1 x3 x4 x5 x6 x7 x9 x10 x14 x15 x16 x19 x20 x21 x22 x23 x24 x41 x42 f0 f2 f8 f11 f12 f13 f17 f18 f25 f26 f27 f28 f29 f30 f31 f32 f33 f34 f35 f36 f37 f38 f39 f40 f43) H) (hD : va_D A (wX5 cI cZ cJ cA h0 a x1 x3 x4 x5 x6 x7 x9 x10 x14 x15 x16 x19 x20 x21 x22 x23 x24 x41 x42 f0 f2 f8 f11 f12 f13 f17 f18 f25 f26 f27 f28 f29 f30 f31 f32 f33 f34 f35 f36 f37 f38 f39 f40 f43)) (hS : va_S A s.heap H locs) (hl : lv_has ls 3 [(0, .ref h0), (1, .int v1)])
    (hret : ∀ (pc : Nat) (H : Heap) (locs : List Loc) (ls : Array Slot) (r : Int32), decode cX5_inHeat pc = .ok (.ireturn, 1) → r = o → va_P (dC, dI) vwCl (wX5 cI cZ cJ cA h0 a x1 x3 x4 x5 x6 x7 x9 x10 x14 x15 x16 x19 x20 x21 x22 x23 x24 x41 x42 f0 f2 f8 f11 f12 f13 f17 f18 f25 f26 f27 f28 f29 f30 f31 f32 f33 f34 f35 f36 f37 f38 f39 f40 f43) H → va_D A (wX5 cI cZ cJ cA h0 a x1 x3 x4 x5 x6 x7 x9 x10 x14 x15 x16 x19 x20 x21 x22 x23 x24 x41 x42 f0 f2 f8 f11 f12 f13 f17 f18 f25 f26 f27 f28 f29 f30 f31 f32 f33 f34 f35 f36 f37 f38 f39 f40 f43) → va_S A s.heap H locs → W p l e R s m args below meth c H locs 0 0 Q (F0 m pc ls [.int r])) :
    W p l e R s m args below meth c H locs 0 0 Q (F0 m 0 ls []) := by
  obtain ⟨⟨hx, hb, hml, hown, hts⟩, hRf, hRl, hA, hN, hK⟩ := C0
  unfold q_X5_inHeat at hf
  refine lv_aload_n hx hb dX5_inHeat_0 rfl (lv_at hl 0 rfl) ?_
  refine va_get (D := (dC, dI)) (ci := 5) (v := .int x9) (C := RX5) (T := TX5) (N := 44) hx hb hts (fun w hw => List.mem_cons_of_mem _ (List.mem_append_right _ hw)) hown hK hP 0 rfl rfl 9 (by decide) (hts (.fieldLink RX5 106 "OldStadiumModel" "many" "I") (List.mem_of_getElem? (i := 1) rfl)) (fun _ h9 => h9) rfl dX5_inHeat_1 ?_
  refine lv_aload_n hx hb dX5_inHeat_4 rfl (lv_at hl 0 rfl) ?_
  refine va_get (D := (dC, dI)) (ci := 5) (v := .int x10) (C := RX5) (T := TX5) (N := 44) hx hb hts (fun w hw => List.mem_cons_of_mem _ (List.mem_append_right _ hw)) hown hK hP 0 rfl rfl 10 (by decide) (hts (.fieldLink RX5 19 "OldStadiumModel" "bye" "I") (List.mem_of_getElem? (i := 2) rfl)) (fun _ h9 => h9) rfl dX5_inHeat_5 ?_
  refine lv_iconst (v := (-1)) hx hb dX5_inHeat_8 (by decide) ?_
  refine lv_icmp_ne (tgt := 16) hx hb dX5_inHeat_9 (by decide) (fun c1 => ?_) (fun c1 => ?_)
  · replace hf := z_im hf c1
    refine lv_iconst (v := 1) hx hb dX5_inHeat_16 (by decide) ?_
    refine lv_isub hx hb dX5_inHeat_17 ?_
    refine lv_iload_n hx hb dX5_inHeat_18 rfl (lv_at hl 1 rfl) ?_
    refine lv_aload_n hx hb dX5_inHeat_19 rfl (lv_at hl 0 rfl) ?_
    refine va_get (D := (dC, dI)) (ci := 5) (v := .int x5) (C := RX5) (T := TX5) (N := 44) hx hb hts (fun w hw => List.mem_cons_of_mem _ (List.mem_append_right _ hw)) hown hK hP 0 rfl rfl 5 (by decide) (hts (.fieldLink RX5 109 "OldStadiumModel" "size" "I") (List.mem_of_getElem? (i := 3) rfl)) (fun _ h9 => h9) rfl dX5_inHeat_20 ?_
    refine lv_imul hx hb dX5_inHeat_23 ?_
    refine lv_isub hx hb dX5_inHeat_24 ?_
    refine lv_istore_n (lv' := [(2, .int ((x9 - 1) - (v1 * x5))), (0, .ref h0), (1, .int v1)]) hx hb dX5_inHeat_25 rfl hl (by decide) rfl (fun ls hl => ?_)
    refine lv_iload_n hx hb dX5_inHeat_26 rfl (lv_at hl 0 rfl) ?_
    refine lv_aload_n hx hb dX5_inHeat_27 rfl (lv_at hl 1 rfl) ?_
    refine va_get (D := (dC, dI)) (ci := 5) (v := .int x5) (C := RX5) (T := TX5) (N := 44) hx hb hts (fun w hw => List.mem_cons_of_mem _ (List.mem_append_right _ hw)) hown hK hP 0 rfl rfl 5 (by decide) (hts (.fieldLink RX5 109 "OldStadiumModel" "size" "I") (List.mem_of_getElem? (i := 3) rfl)) (fun _ h9 => h9) rfl dX5_inHeat_28 ?_
    refine lv_icmp_ge (tgt := 38) hx hb dX5_inHeat_31 (by decide) (fun c2 => ?_) (fun c2 => ?_)
    · replace hf := z_ip hf c2
      refine lv_aload_n hx hb dX5_inHeat_38 rfl (lv_at hl 1 rfl) ?_
      refine va_get (D := (dC, dI)) (ci := 5) (v := .int x5) (C := RX5) (T := TX5) (N := 44) hx hb hts (fun w hw => List.mem_cons_of_mem _ (List.mem_append_right _ hw)) hown hK hP 0 rfl rfl 5 (by decide) (hts (.fieldLink RX5 109 "OldStadiumModel" "size" "I") (List.mem_of_getElem? (i := 3) rfl)) (fun _ h9 => h9) rfl dX5_inHeat_39 ?_
      obtain rfl := Option.some.inj hf
      exact hret _ _ _ _ _ dX5_inHeat_42 rfl hP hD hS
    · replace hf := z_im hf c2
      refine lv_iload_n hx hb dX5_inHeat_34 rfl (lv_at hl 0 rfl) ?_
      refine lv_goto (tgt := 42) hx hb dX5_inHeat_35 (by decide) ?_
      obtain rfl := Option.some.inj hf
      exact hret _ _ _ _ _ dX5_inHeat_42 rfl hP hD hS
  · replace hf := z_ip hf c1
    refine lv_iconst (v := 0) hx hb dX5_inHeat_12 (by decide) ?_
    refine lv_goto (tgt := 17) hx hb dX5_inHeat_13 (by decide) ?_
    refine lv_isub hx hb dX5_inHeat_17 ?_
    refine lv_iload_n hx hb dX5_inHeat_18 rfl (lv_at hl 1 rfl) ?_
    refine lv_aload_n hx hb dX5_inHeat_19 rfl (lv_at hl 0 rfl) ?_
    refine va_get (D := (dC, dI)) (ci := 5) (v := .int x5) (C := RX5) (T := TX5) (N := 44) hx hb hts (fun w hw => List.mem_cons_of_mem _ (List.mem_append_right _ hw)) hown hK hP 0 rfl rfl 5 (by decide) (hts (.fieldLink RX5 109 "OldStadiumModel" "size" "I") (List.mem_of_getElem? (i := 3) rfl)) (fun _ h9 => h9) rfl dX5_inHeat_20 ?_
    refine lv_imul hx hb dX5_inHeat_23 ?_
    refine lv_isub hx hb dX5_inHeat_24 ?_
    refine lv_istore_n (lv' := [(2, .int ((x9 - 0) - (v1 * x5))), (0, .ref h0), (1, .int v1)]) hx hb dX5_inHeat_25 rfl hl (by decide) rfl (fun ls hl => ?_)
    refine lv_iload_n hx hb dX5_inHeat_26 rfl (lv_at hl 0 rfl) ?_
    refine lv_aload_n hx hb dX5_inHeat_27 rfl (lv_at hl 1 rfl) ?_
    refine va_get (D := (dC, dI)) (ci := 5) (v := .int x5) (C := RX5) (T := TX5) (N := 44) hx hb hts (fun w hw => List.mem_cons_of_mem _ (List.mem_append_right _ hw)) hown hK hP 0 rfl rfl 5 (by decide) (hts (.fieldLink RX5 109 "OldStadiumModel" "size" "I") (List.mem_of_getElem? (i := 3) rfl)) (fun _ h9 => h9) rfl dX5_inHeat_28 ?_
    refine lv_icmp_ge (tgt := 38) hx hb dX5_inHeat_31 (by decide) (fun c3 => ?_) (fun c3 => ?_)
    · replace hf := z_ip hf c3
      refine lv_aload_n hx hb dX5_inHeat_38 rfl (lv_at hl 1 rfl) ?_
      refine va_get (D := (dC, dI)) (ci := 5) (v := .int x5) (C := RX5) (T := TX5) (N := 44) hx hb hts (fun w hw => List.mem_cons_of_mem _ (List.mem_append_right _ hw)) hown hK hP 0 rfl rfl 5 (by decide) (hts (.fieldLink RX5 109 "OldStadiumModel" "size" "I") (List.mem_of_getElem? (i := 3) rfl)) (fun _ h9 => h9) rfl dX5_inHeat_39 ?_
      obtain rfl := Option.some.inj hf
      exact hret _ _ _ _ _ dX5_inHeat_42 rfl hP hD hS
    · replace hf := z_im hf c3
      refine lv_iload_n hx hb dX5_inHeat_34 rfl (lv_at hl 0 rfl) ?_
      refine lv_goto (tgt := 42) hx hb dX5_inHeat_35 (by decide) ?_
      obtain rfl := Option.some.inj hf
      exact hret _ _ _ _ _ dX5_inHeat_42 rfl hP hD hS
set_option maxHeartbeats 4000000 in
set_option maxRecDepth 100000 in
theorem k_X5_inHeat (l : Launch) (dC : Nat → ClassId) (dI : Nat → Nat → Nat) (cI cZ cJ cA : ClassId) (h0 : Nat) (a : Nat → Nat) (sz : Nat) (N : Nat) (v1 : Int32) (x1 : Int32) (x3 : Int32) (x4 : Int32) (x5 : Int32) (x6 : Int32) (x7 : Int32) (x9 : Int32) (x10 : Int32) (x14 : Int32) (x15 : Int32) (x16 : Int32) (x19 : Int32) (x20 : Int32) (x21 : Int32) (x22 : Int32) (x23 : Int32) (x24 : Int32) (x41 : Int32) (x42 : Int32) (f0 : (Nat → Int32)) (f2 : (Nat → Int32)) (f8 : (Nat → Int32)) (f11 : (Nat → Int32)) (f12 : (Nat → Int32)) (f13 : (Nat → Int32)) (f17 : (Nat → Int32)) (f18 : (Nat → Int32)) (f25 : (Nat → Int32)) (f26 : (Nat → Int32)) (f27 : (Nat → Int32)) (f28 : (Nat → Int32)) (f29 : (Nat → Int32)) (f30 : (Nat → Int32)) (f31 : (Nat → Int32)) (f32 : (Nat → Int32)) (f33 : (Nat → Int32)) (f34 : (Nat → Int32)) (f35 : (Nat → Int32)) (f36 : (Nat → Int32)) (f37 : (Nat → Int32)) (f38 : (Nat → Int32)) (f39 : (Nat → Int32)) (f40 : (Nat → Int32)) (f43 : (Nat → Int32)) (o : Int32) (hf : q_X5_inHeat N v1 x5 x9 x10 = some o) : Met l yX5_inHeat wsX5_inHeat ({ frames := 0, cells := 0, slots := 0, locals := 0 } : Room) (z_Pre dC dI (z_ty cI cZ cJ cA) [.ref h0, .int v1] sz (wX5 cI cZ cJ cA h0 a x1 x3 x4 x5 x6 x7 x9 x10 x14 x15 x16 x19 x20 x21 x22 x23 x24 x41 x42 f0 f2 f8 f11 f12 f13 f17 f18 f25 f26 f27 f28 f29 f30 f31 f32 f33 f34 f35 f36 f37 f38 f39 f40 f43)) (z_Pi dC dI o (wX5 cI cZ cJ cA h0 a x1 x3 x4 x5 x6 x7 x9 x10 x14 x15 x16 x19 x20 x21 x22 x23 x24 x41 x42 f0 f2 f8 f11 f12 f13 f17 f18 f25 f26 f27 f28 f29 f30 f31 f32 f33 f34 f35 f36 f37 f38 f39 f40 f43) sz (wX5 cI cZ cJ cA h0 a x1 x3 x4 x5 x6 x7 x9 x10 x14 x15 x16 x19 x20 x21 x22 x23 x24 x41 x42 f0 f2 f8 f11 f12 f13 f17 f18 f25 f26 f27 f28 f29 f30 f31 f32 f33 f34 f35 f36 f37 f38 f39 f40 f43)) 0 0 (va_A (wX5 cI cZ cJ cA h0 a x1 x3 x4 x5 x6 x7 x9 x10 x14 x15 x16 x19 x20 x21 x22 x23 x24 x41 x42 f0 f2 f8 f11 f12 f13 f17 f18 f25 f26 f27 f28 f29 f30 f31 f32 f33 f34 f35 f36 f37 f38 f39 f40 f43) sz) := by
  refine Met.ofW (cc := cX5_inHeat) (maxL := 3) (ret := (some .int)) (by decide) rfl ?_
  intro p e s m args below meth c s₁ B hml hv
  obtain ⟨rfl, hsz, hP, hK, hD0, hN⟩ := hv
  subst hsz
  have hl := lv_entry ([.ref h0, .int v1]) (n := 3) (Nat.le_of_ble_eq_true rfl)
  rw [lg_entry_eq]
  refine b_X5_inHeat N ⟨⟨B.exec, B.bytes, hml, findClass_of_methodNamed B.named, atoms_spec (ws := wsX5_inHeat) B.pre⟩, Nat.le_refl _, Nat.le_refl _, fun q h => Or.inr h, hN, hK⟩ hf hP hD0.self va_S.rf hl (fun pc H locs ls r hd hr hP hD hS => ?_)
  subst hr
  exact W.iret B.exec B.bytes B.returns (fun t ht hW => ⟨⟨_, (), rfl, rfl, by rw [ht]; exact hP, hD⟩, hS.F ht⟩) hS.2.2 hd
def q_X5_isHeat (N : Nat) (v1 : Int32) (x5 : Int32) (x7 : Int32) (x9 : Int32) (x10 : Int32) : Option Int32 :=
  (if x7 ≤ 0 then
   (some 0)
  else
   (Option.bind (q_X5_heats N x5 x9 x10) (fun o2 =>
   (Option.bind (q_X5_in N v1 0 (o2 - 1)) (fun o3 =>
   (if o3 = 0 then
    (some 0)
   else
    (some 1)))))))
set_option maxHeartbeats 4000000 in
set_option maxRecDepth 100000 in
theorem b_X5_isHeat {p : Program} {l : Launch} {e : Env} {R : Room} {s : State} {m : MethodId} {args : Array Value} {below : List Frame} {meth : Method} {c : Code} {Q : State → Prop} {A : Nat → Prop} {dC : Nat → ClassId} {dI : Nat → Nat → Nat} {cI cZ cJ cA : ClassId} {h0 : Nat} {a : Nat → Nat} (N : Nat) (C0 : z_Cx p s m args c cX5_isHeat 2 wsX5_isHeat RX5 R 1 22 A dC dI (z_ty cI cZ cJ cA)) {v1 : Int32} {x1 : Int32} {x3 : Int32} {x4 : Int32} {x5 : Int32} {x6 : Int32} {x7 : Int32} {x9 : Int32} {x10 : Int32} {x14 : Int32} {x15 : Int32} {x16 : Int32} {x19 : Int32} {x20 : Int32} {x21 : Int32} {x22 : Int32} {x23 : Int32} {x24 : Int32} {x41 : Int32} {x42 : Int32} {f0 : (Nat → Int32)} {f2 : (Nat → Int32)} {f8 : (Nat → Int32)} {f11 : (Nat → Int32)} {f12 : (Nat → Int32)} {f13 : (Nat → Int32)} {f17 : (Nat → Int32)} {f18 : (Nat → Int32)} {f25 : (Nat → Int32)} {f26 : (Nat → Int32)} {f27 : (Nat → Int32)} {f28 : (Nat → Int32)} {f29 : (Nat → Int32)} {f30 : (Nat → Int32)} {f31 : (Nat → Int32)} {f32 : (Nat → Int32)} {f33 : (Nat → Int32)} {f34 : (Nat → Int32)} {f35 : (Nat → Int32)} {f36 : (Nat → Int32)} {f37 : (Nat → Int32)} {f38 : (Nat → Int32)} {f39 : (Nat → Int32)} {f40 : (Nat → Int32)} {f43 : (Nat → Int32)} {o : Int32} {H : Heap} {locs : List Loc} {ls : Array Slot} (hf : q_X5_isHeat N v1 x5 x7 x9 x10 = some o) (hP : va_P (dC, dI) vwCl (wX5 cI cZ cJ cA h0 a x1 x3 x4 x5 x6 x7 x9 x10 x14 x15 x16 x19 x20 x21 x22 x23 x24 x41 x42 f0 f2 f8 f11 f12 f13 f17 f18 f25 f26 f27 f28 f29 f30 f31 f32 f33 f34 f35 f36 f37 f38 f39 f40 f43) H) (hD : va_D A (wX5 cI cZ cJ cA h0 a x1 x3 x4 x5 x6 x7 x9 x10 x14 x15 x16 x19 x20 x21 x22 x23 x24 x41 x42 f0 f2 f8 f11 f12 f13 f17 f18 f25 f26 f27 f28 f29 f30 f31 f32 f33 f34 f35 f36 f37 f38 f39 f40 f43)) (hS : va_S A s.heap H locs) (hl : lv_has ls 2 [(0, .ref h0), (1, .int v1)])
    (hret : ∀ (pc : Nat) (H : Heap) (locs : List Loc) (ls : Array Slot) (r : Int32), decode cX5_isHeat pc = .ok (.ireturn, 1) → r = o → narrow .boolean (.int r) = .int r → va_P (dC, dI) vwCl (wX5 cI cZ cJ cA h0 a x1 x3 x4 x5 x6 x7 x9 x10 x14 x15 x16 x19 x20 x21 x22 x23 x24 x41 x42 f0 f2 f8 f11 f12 f13 f17 f18 f25 f26 f27 f28 f29 f30 f31 f32 f33 f34 f35 f36 f37 f38 f39 f40 f43) H → va_D A (wX5 cI cZ cJ cA h0 a x1 x3 x4 x5 x6 x7 x9 x10 x14 x15 x16 x19 x20 x21 x22 x23 x24 x41 x42 f0 f2 f8 f11 f12 f13 f17 f18 f25 f26 f27 f28 f29 f30 f31 f32 f33 f34 f35 f36 f37 f38 f39 f40 f43) → va_S A s.heap H locs → W p l e R s m args below meth c H locs 0 0 Q (F0 m pc ls [.int r])) :
    W p l e R s m args below meth c H locs 0 0 Q (F0 m 0 ls []) := by
  obtain ⟨⟨hx, hb, hml, hown, hts⟩, hRf, hRl, hA, hN, hK⟩ := C0
  unfold q_X5_isHeat at hf
  refine lv_aload_n hx hb dX5_isHeat_0 rfl (lv_at hl 0 rfl) ?_
  refine va_get (D := (dC, dI)) (ci := 5) (v := .int x7) (C := RX5) (T := TX5) (N := 44) hx hb hts (fun w hw => List.mem_cons_of_mem _ (List.mem_append_right _ hw)) hown hK hP 0 rfl rfl 7 (by decide) (hts (.fieldLink RX5 120 "OldStadiumModel" "round" "I") (List.mem_of_getElem? (i := 1) rfl)) (fun _ h9 => h9) rfl dX5_isHeat_1 ?_
  refine lv_if_le (tgt := 25) hx hb dX5_isHeat_4 (by decide) (fun c1 => ?_) (fun c1 => ?_)
  · replace hf := z_ip hf c1
    refine lv_iconst (v := 0) hx hb dX5_isHeat_25 (by decide) ?_
    obtain rfl := Option.some.inj hf
    exact hret _ _ _ _ _ dX5_isHeat_26 rfl rfl hP hD hS
  · replace hf := z_im hf c1
    refine lv_iload_n hx hb dX5_isHeat_7 rfl (lv_at hl 1 rfl) ?_
    refine lv_iconst (v := 0) hx hb dX5_isHeat_8 (by decide) ?_
    refine lv_aload_n hx hb dX5_isHeat_9 rfl (lv_at hl 0 rfl) ?_
    obtain ⟨o2, ho2, hf1⟩ := z_ib hf
    replace hf := hf1
    clear hf1
    refine z_Vi (As := []) (rest := [.int 0, .int v1]) (w := (wX5 cI cZ cJ cA h0 a x1 x3 x4 x5 x6 x7 x9 x10 x14 x15 x16 x19 x20 x21 x22 x23 x24 x41 x42 f0 f2 f8 f11 f12 f13 f17 f18 f25 f26 f27 f28 f29 f30 f31 f32 f33 f34 f35 f36 f37 f38 f39 f40 f43)) (w1 := (wX5 cI cZ cJ cA h0 a x1 x3 x4 x5 x6 x7 x9 x10 x14 x15 x16 x19 x20 x21 x22 x23 x24 x41 x42 f0 f2 f8 f11 f12 f13 f17 f18 f25 f26 f27 f28 f29 f30 f31 f32 f33 f34 f35 f36 f37 f38 f39 f40 f43)) ⟨hx, hb, hml, hown, hts⟩ (k_X5_heats l dC dI cI cZ cJ cA h0 a H.size N x1 x3 x4 x5 x6 x7 x9 x10 x14 x15 x16 x19 x20 x21 x22 x23 x24 x41 x42 f0 f2 f8 f11 f12 f13 f17 f18 f25 f26 f27 f28 f29 f30 f31 f32 f33 f34 f35 f36 f37 f38 f39 f40 f43 o2 ho2) (cwV 0 hts gX5_isHeat_X5_heats rfl rfl rfl (by decide +kernel) ⟨Nat.le_trans (Nat.le_of_ble_eq_true rfl) hRf, Nat.le_trans (Nat.le_of_ble_eq_true rfl) hRl⟩) hK hP hD hS hA hN (ci := 5) rfl rfl rfl rfl hl.1 rfl (Nat.le_of_ble_eq_true rfl) dX5_isHeat_10 (fun H locs hP hD hS => ?_)
    refine lv_iconst (v := 1) hx hb dX5_isHeat_13 (by decide) ?_
    refine lv_isub hx hb dX5_isHeat_14 ?_
    obtain ⟨o3, ho3, hf1⟩ := z_ib hf
    replace hf := hf1
    clear hf1
    refine z_S0 (As := [.int v1, .int 0, .int (o2 - 1)]) (rest := []) ⟨hx, hb, hml, hown, hts⟩ (k_X5_in l dC dI cI cZ cJ cA H.size N v1 0 (o2 - 1) o3 ho3) (va_cwS 3 hts gX5_isHeat_X5_in rfl rfl rfl (by decide +kernel) ⟨Nat.le_trans (Nat.le_of_ble_eq_true rfl) hRf, Nat.le_trans (Nat.le_of_ble_eq_true rfl) hRl⟩) hK hP hS hA hN rfl hl.1 rfl (Nat.le_of_ble_eq_true rfl) dX5_isHeat_15 (fun H locs hP hS => ?_)
    refine lv_if_eq (tgt := 25) hx hb dX5_isHeat_18 (by decide) (fun c4 => ?_) (fun c4 => ?_)
    · replace hf := z_ip hf c4
      refine lv_iconst (v := 0) hx hb dX5_isHeat_25 (by decide) ?_
      obtain rfl := Option.some.inj hf
      exact hret _ _ _ _ _ dX5_isHeat_26 rfl rfl hP hD hS
    · replace hf := z_im hf c4
      refine lv_iconst (v := 1) hx hb dX5_isHeat_21 (by decide) ?_
      refine lv_goto (tgt := 26) hx hb dX5_isHeat_22 (by decide) ?_
      obtain rfl := Option.some.inj hf
      exact hret _ _ _ _ _ dX5_isHeat_26 rfl rfl hP hD hS
set_option maxHeartbeats 4000000 in
set_option maxRecDepth 100000 in
theorem k_X5_isHeat (l : Launch) (dC : Nat → ClassId) (dI : Nat → Nat → Nat) (cI cZ cJ cA : ClassId) (h0 : Nat) (a : Nat → Nat) (sz : Nat) (N : Nat) (v1 : Int32) (x1 : Int32) (x3 : Int32) (x4 : Int32) (x5 : Int32) (x6 : Int32) (x7 : Int32) (x9 : Int32) (x10 : Int32) (x14 : Int32) (x15 : Int32) (x16 : Int32) (x19 : Int32) (x20 : Int32) (x21 : Int32) (x22 : Int32) (x23 : Int32) (x24 : Int32) (x41 : Int32) (x42 : Int32) (f0 : (Nat → Int32)) (f2 : (Nat → Int32)) (f8 : (Nat → Int32)) (f11 : (Nat → Int32)) (f12 : (Nat → Int32)) (f13 : (Nat → Int32)) (f17 : (Nat → Int32)) (f18 : (Nat → Int32)) (f25 : (Nat → Int32)) (f26 : (Nat → Int32)) (f27 : (Nat → Int32)) (f28 : (Nat → Int32)) (f29 : (Nat → Int32)) (f30 : (Nat → Int32)) (f31 : (Nat → Int32)) (f32 : (Nat → Int32)) (f33 : (Nat → Int32)) (f34 : (Nat → Int32)) (f35 : (Nat → Int32)) (f36 : (Nat → Int32)) (f37 : (Nat → Int32)) (f38 : (Nat → Int32)) (f39 : (Nat → Int32)) (f40 : (Nat → Int32)) (f43 : (Nat → Int32)) (o : Int32) (hf : q_X5_isHeat N v1 x5 x7 x9 x10 = some o) : Met l yX5_isHeat wsX5_isHeat ({ frames := 1, cells := 0, slots := 0, locals := 22 } : Room) (z_Pre dC dI (z_ty cI cZ cJ cA) [.ref h0, .int v1] sz (wX5 cI cZ cJ cA h0 a x1 x3 x4 x5 x6 x7 x9 x10 x14 x15 x16 x19 x20 x21 x22 x23 x24 x41 x42 f0 f2 f8 f11 f12 f13 f17 f18 f25 f26 f27 f28 f29 f30 f31 f32 f33 f34 f35 f36 f37 f38 f39 f40 f43)) (z_Pi dC dI o (wX5 cI cZ cJ cA h0 a x1 x3 x4 x5 x6 x7 x9 x10 x14 x15 x16 x19 x20 x21 x22 x23 x24 x41 x42 f0 f2 f8 f11 f12 f13 f17 f18 f25 f26 f27 f28 f29 f30 f31 f32 f33 f34 f35 f36 f37 f38 f39 f40 f43) sz (wX5 cI cZ cJ cA h0 a x1 x3 x4 x5 x6 x7 x9 x10 x14 x15 x16 x19 x20 x21 x22 x23 x24 x41 x42 f0 f2 f8 f11 f12 f13 f17 f18 f25 f26 f27 f28 f29 f30 f31 f32 f33 f34 f35 f36 f37 f38 f39 f40 f43)) 0 0 (va_A (wX5 cI cZ cJ cA h0 a x1 x3 x4 x5 x6 x7 x9 x10 x14 x15 x16 x19 x20 x21 x22 x23 x24 x41 x42 f0 f2 f8 f11 f12 f13 f17 f18 f25 f26 f27 f28 f29 f30 f31 f32 f33 f34 f35 f36 f37 f38 f39 f40 f43) sz) := by
  refine Met.ofW (cc := cX5_isHeat) (maxL := 2) (ret := (some .boolean)) (by decide) rfl ?_
  intro p e s m args below meth c s₁ B hml hv
  obtain ⟨rfl, hsz, hP, hK, hD0, hN⟩ := hv
  subst hsz
  have hl := lv_entry ([.ref h0, .int v1]) (n := 2) (Nat.le_of_ble_eq_true rfl)
  rw [lg_entry_eq]
  refine b_X5_isHeat N ⟨⟨B.exec, B.bytes, hml, findClass_of_methodNamed B.named, atoms_spec (ws := wsX5_isHeat) B.pre⟩, Nat.le_refl _, Nat.le_refl _, fun q h => Or.inr h, hN, hK⟩ hf hP hD0.self va_S.rf hl (fun pc H locs ls r hd hr hn hP hD hS => ?_)
  subst hr
  exact W.zret B.exec B.bytes B.returns hn (fun t ht hW => ⟨⟨_, (), rfl, rfl, by rw [ht]; exact hP, hD⟩, hS.F ht⟩) hS.2.2 hd
def q_X5_heat_L11 (N : Nat) (v1 : Int32) (x5 : Int32) (x9 : Int32) (x10 : Int32) (f8 : (Nat → Int32)) : Nat → Int32 → Option (Sum Int32 Unit)
  | 0, _ => none
  | n + 1, v2 =>
    (if x9 ≤ v2 then
     (some (Sum.inr ()))
    else
     (if z_in v2 24 then
     (if (f8 (Int32.toNatClampNeg v2)) = v1 then
      (if v1 = x10 then
       (some (Sum.inl (-1)))
      else
       (if x5 = 0 then none else
       (some (Sum.inl (v2 / x5)))))
     else
      (q_X5_heat_L11 N v1 x5 x9 x10 f8 n (v2 + 1)))
     else none))
set_option maxHeartbeats 4000000 in
set_option maxRecDepth 100000 in
theorem b_X5_heat_L11 {p : Program} {l : Launch} {e : Env} {R : Room} {s : State} {m : MethodId} {args : Array Value} {below : List Frame} {meth : Method} {c : Code} {Q : State → Prop} {A : Nat → Prop} {dC : Nat → ClassId} {dI : Nat → Nat → Nat} {cI cZ cJ cA : ClassId} {h0 : Nat} {a : Nat → Nat} (N : Nat) (C0 : z_Cx p s m args c cX5_heat 3 wsX5_heat RX5 R 0 0 A dC dI (z_ty cI cZ cJ cA)) : ∀ (n : Nat) {v1 : Int32} {v2 : Int32} {x1 : Int32} {x3 : Int32} {x4 : Int32} {x5 : Int32} {x6 : Int32} {x7 : Int32} {x9 : Int32} {x10 : Int32} {x14 : Int32} {x15 : Int32} {x16 : Int32} {x19 : Int32} {x20 : Int32} {x21 : Int32} {x22 : Int32} {x23 : Int32} {x24 : Int32} {x41 : Int32} {x42 : Int32} {f0 : (Nat → Int32)} {f2 : (Nat → Int32)} {f8 : (Nat → Int32)} {f11 : (Nat → Int32)} {f12 : (Nat → Int32)} {f13 : (Nat → Int32)} {f17 : (Nat → Int32)} {f18 : (Nat → Int32)} {f25 : (Nat → Int32)} {f26 : (Nat → Int32)} {f27 : (Nat → Int32)} {f28 : (Nat → Int32)} {f29 : (Nat → Int32)} {f30 : (Nat → Int32)} {f31 : (Nat → Int32)} {f32 : (Nat → Int32)} {f33 : (Nat → Int32)} {f34 : (Nat → Int32)} {f35 : (Nat → Int32)} {f36 : (Nat → Int32)} {f37 : (Nat → Int32)} {f38 : (Nat → Int32)} {f39 : (Nat → Int32)} {f40 : (Nat → Int32)} {f43 : (Nat → Int32)} {o : (Sum Int32 Unit)} {H : Heap} {locs : List Loc} {ls : Array Slot}, q_X5_heat_L11 N v1 x5 x9 x10 f8 n v2 = some o → va_P (dC, dI) vwCl (wX5 cI cZ cJ cA h0 a x1 x3 x4 x5 x6 x7 x9 x10 x14 x15 x16 x19 x20 x21 x22 x23 x24 x41 x42 f0 f2 f8 f11 f12 f13 f17 f18 f25 f26 f27 f28 f29 f30 f31 f32 f33 f34 f35 f36 f37 f38 f39 f40 f43) H → va_D A (wX5 cI cZ cJ cA h0 a x1 x3 x4 x5 x6 x7 x9 x10 x14 x15 x16 x19 x20 x21 x22 x23 x24 x41 x42 f0 f2 f8 f11 f12 f13 f17 f18 f25 f26 f27 f28 f29 f30 f31 f32 f33 f34 f35 f36 f37 f38 f39 f40 f43) → va_S A s.heap H locs → lv_has ls 3 [(0, .ref h0), (1, .int v1), (2, .int v2)] →
    (∀ (t : Int32), o = Sum.inl t → ∀ (pc : Nat) (H : Heap) (locs : List Loc) (ls : Array Slot) (r : Int32), decode cX5_heat pc = .ok (.ireturn, 1) → r = t → va_P (dC, dI) vwCl (wX5 cI cZ cJ cA h0 a x1 x3 x4 x5 x6 x7 x9 x10 x14 x15 x16 x19 x20 x21 x22 x23 x24 x41 x42 f0 f2 f8 f11 f12 f13 f17 f18 f25 f26 f27 f28 f29 f30 f31 f32 f33 f34 f35 f36 f37 f38 f39 f40 f43) H → va_D A (wX5 cI cZ cJ cA h0 a x1 x3 x4 x5 x6 x7 x9 x10 x14 x15 x16 x19 x20 x21 x22 x23 x24 x41 x42 f0 f2 f8 f11 f12 f13 f17 f18 f25 f26 f27 f28 f29 f30 f31 f32 f33 f34 f35 f36 f37 f38 f39 f40 f43) → va_S A s.heap H locs → W p l e R s m args below meth c H locs 0 0 Q (F0 m pc ls [.int r])) →
    (∀ (t : Unit) (H : Heap) (locs : List Loc) (ls : Array Slot), o = Sum.inr t → va_P (dC, dI) vwCl (wX5 cI cZ cJ cA h0 a x1 x3 x4 x5 x6 x7 x9 x10 x14 x15 x16 x19 x20 x21 x22 x23 x24 x41 x42 f0 f2 f8 f11 f12 f13 f17 f18 f25 f26 f27 f28 f29 f30 f31 f32 f33 f34 f35 f36 f37 f38 f39 f40 f43) H → va_D A (wX5 cI cZ cJ cA h0 a x1 x3 x4 x5 x6 x7 x9 x10 x14 x15 x16 x19 x20 x21 x22 x23 x24 x41 x42 f0 f2 f8 f11 f12 f13 f17 f18 f25 f26 f27 f28 f29 f30 f31 f32 f33 f34 f35 f36 f37 f38 f39 f40 f43) → va_S A s.heap H locs → lv_has ls 3 [] → W p l e R s m args below meth c H locs 0 0 Q (F0 m 54 ls [])) →
    W p l e R s m args below meth c H locs 0 0 Q (F0 m 11 ls []) := by
  obtain ⟨⟨hx, hb, hml, hown, hts⟩, hRf, hRl, hA, hN, hK⟩ := C0
  intro n
  induction n with
  | zero =>
    intro v1 v2 x1 x3 x4 x5 x6 x7 x9 x10 x14 x15 x16 x19 x20 x21 x22 x23 x24 x41 x42 f0 f2 f8 f11 f12 f13 f17 f18 f25 f26 f27 f28 f29 f30 f31 f32 f33 f34 f35 f36 f37 f38 f39 f40 f43 o H locs ls hf
    cases hf
  | succ n ih =>
    intro v1 v2 x1 x3 x4 x5 x6 x7 x9 x10 x14 x15 x16 x19 x20 x21 x22 x23 x24 x41 x42 f0 f2 f8 f11 f12 f13 f17 f18 f25 f26 f27 f28 f29 f30 f31 f32 f33 f34 f35 f36 f37 f38 f39 f40 f43 o H locs ls hf hP hD hS hl hret hexit
    rw [q_X5_heat_L11] at hf
    refine lv_iload_n hx hb dX5_heat_11 rfl (lv_at hl 2 rfl) ?_
    refine lv_aload_n hx hb dX5_heat_12 rfl (lv_at hl 0 rfl) ?_
    refine va_get (D := (dC, dI)) (ci := 5) (v := .int x9) (C := RX5) (T := TX5) (N := 44) hx hb hts (fun w hw => List.mem_cons_of_mem _ (List.mem_append_right _ hw)) hown hK hP 0 rfl rfl 9 (by decide) (hts (.fieldLink RX5 106 "OldStadiumModel" "many" "I") (List.mem_of_getElem? (i := 2) rfl)) (fun _ h9 => h9) rfl dX5_heat_13 ?_
    refine lv_icmp_ge (tgt := 54) hx hb dX5_heat_16 (by decide) (fun c1 => ?_) (fun c1 => ?_)
    · replace hf := z_ip hf c1
      obtain rfl := Option.some.inj hf
      exact hexit _ _ _ _ rfl hP hD hS (lv_sub hl [] rfl)
    · replace hf := z_im hf c1
      refine lv_aload_n hx hb dX5_heat_19 rfl (lv_at hl 0 rfl) ?_
      refine va_get (D := (dC, dI)) (ci := 5) (v := .ref (a 8)) (C := RX5) (T := TX5) (N := 44) hx hb hts (fun w hw => List.mem_cons_of_mem _ (List.mem_append_right _ hw)) hown hK hP 0 rfl rfl 8 (by decide) (hts (.fieldLink RX5 16 "OldStadiumModel" "row" "[I") (List.mem_of_getElem? (i := 3) rfl)) (fun _ h9 => h9) rfl dX5_heat_20 ?_
      refine lv_iload_n hx hb dX5_heat_23 rfl (lv_at hl 2 rfl) ?_
      have b2 := z_c1 hf
      replace hf := z_c2 hf
      refine va_iald hx hb hK hP 3 0 rfl rfl b2 dX5_heat_24 ?_
      refine lv_iload_n hx hb dX5_heat_25 rfl (lv_at hl 1 rfl) ?_
      refine lv_icmp_ne (tgt := 48) hx hb dX5_heat_26 (by decide) (fun c3 => ?_) (fun c3 => ?_)
      · replace hf := z_im hf c3
        refine lv_iinc (v := (v2 + 1)) (lv' := [(2, .int (v2 + 1)), (0, .ref h0), (1, .int v1)]) hx hb dX5_heat_48 hl (k := 2) rfl rfl (by decide) rfl (fun ls hl => ?_)
        refine lv_goto (tgt := 11) hx hb dX5_heat_51 (by decide) ?_
        exact ih hf hP hD hS (lv_sub hl [1, 2, 0] rfl) hret hexit
      · replace hf := z_ip hf c3
        refine lv_iload_n hx hb dX5_heat_29 rfl (lv_at hl 1 rfl) ?_
        refine lv_aload_n hx hb dX5_heat_30 rfl (lv_at hl 0 rfl) ?_
        refine va_get (D := (dC, dI)) (ci := 5) (v := .int x10) (C := RX5) (T := TX5) (N := 44) hx hb hts (fun w hw => List.mem_cons_of_mem _ (List.mem_append_right _ hw)) hown hK hP 0 rfl rfl 10 (by decide) (hts (.fieldLink RX5 19 "OldStadiumModel" "bye" "I") (List.mem_of_getElem? (i := 4) rfl)) (fun _ h9 => h9) rfl dX5_heat_31 ?_
        refine lv_icmp_ne (tgt := 41) hx hb dX5_heat_34 (by decide) (fun c4 => ?_) (fun c4 => ?_)
        · replace hf := z_im hf c4
          refine lv_iload_n hx hb dX5_heat_41 rfl (lv_at hl 2 rfl) ?_
          refine lv_aload_n hx hb dX5_heat_42 rfl (lv_at hl 0 rfl) ?_
          refine va_get (D := (dC, dI)) (ci := 5) (v := .int x5) (C := RX5) (T := TX5) (N := 44) hx hb hts (fun w hw => List.mem_cons_of_mem _ (List.mem_append_right _ hw)) hown hK hP 0 rfl rfl 5 (by decide) (hts (.fieldLink RX5 109 "OldStadiumModel" "size" "I") (List.mem_of_getElem? (i := 5) rfl)) (fun _ h9 => h9) rfl dX5_heat_43 ?_
          have d5 := z_n1 hf
          replace hf := z_n2 hf
          refine lv_idiv hx hb dX5_heat_46 d5 ?_
          obtain rfl := Option.some.inj hf
          exact hret _ rfl _ _ _ _ _ dX5_heat_47 rfl hP hD hS
        · replace hf := z_ip hf c4
          refine lv_iconst (v := (-1)) hx hb dX5_heat_37 (by decide) ?_
          refine lv_goto (tgt := 47) hx hb dX5_heat_38 (by decide) ?_
          obtain rfl := Option.some.inj hf
          exact hret _ rfl _ _ _ _ _ dX5_heat_47 rfl hP hD hS
def q_X5_heat (N : Nat) (v1 : Int32) (x4 : Int32) (x5 : Int32) (x9 : Int32) (x10 : Int32) (f8 : (Nat → Int32)) : Option Int32 :=
  (if x4 = 0 then
   (some (-1))
  else
   (Option.bind (q_X5_heat_L11 N v1 x5 x9 x10 f8 N 0) (Sum.elim (fun r4 => (some r4)) (fun s3 =>
   (some (-1))))))
set_option maxHeartbeats 4000000 in
set_option maxRecDepth 100000 in
theorem b_X5_heat {p : Program} {l : Launch} {e : Env} {R : Room} {s : State} {m : MethodId} {args : Array Value} {below : List Frame} {meth : Method} {c : Code} {Q : State → Prop} {A : Nat → Prop} {dC : Nat → ClassId} {dI : Nat → Nat → Nat} {cI cZ cJ cA : ClassId} {h0 : Nat} {a : Nat → Nat} (N : Nat) (C0 : z_Cx p s m args c cX5_heat 3 wsX5_heat RX5 R 0 0 A dC dI (z_ty cI cZ cJ cA)) {v1 : Int32} {x1 : Int32} {x3 : Int32} {x4 : Int32} {x5 : Int32} {x6 : Int32} {x7 : Int32} {x9 : Int32} {x10 : Int32} {x14 : Int32} {x15 : Int32} {x16 : Int32} {x19 : Int32} {x20 : Int32} {x21 : Int32} {x22 : Int32} {x23 : Int32} {x24 : Int32} {x41 : Int32} {x42 : Int32} {f0 : (Nat → Int32)} {f2 : (Nat → Int32)} {f8 : (Nat → Int32)} {f11 : (Nat → Int32)} {f12 : (Nat → Int32)} {f13 : (Nat → Int32)} {f17 : (Nat → Int32)} {f18 : (Nat → Int32)} {f25 : (Nat → Int32)} {f26 : (Nat → Int32)} {f27 : (Nat → Int32)} {f28 : (Nat → Int32)} {f29 : (Nat → Int32)} {f30 : (Nat → Int32)} {f31 : (Nat → Int32)} {f32 : (Nat → Int32)} {f33 : (Nat → Int32)} {f34 : (Nat → Int32)} {f35 : (Nat → Int32)} {f36 : (Nat → Int32)} {f37 : (Nat → Int32)} {f38 : (Nat → Int32)} {f39 : (Nat → Int32)} {f40 : (Nat → Int32)} {f43 : (Nat → Int32)} {o : Int32} {H : Heap} {locs : List Loc} {ls : Array Slot} (hf : q_X5_heat N v1 x4 x5 x9 x10 f8 = some o) (hP : va_P (dC, dI) vwCl (wX5 cI cZ cJ cA h0 a x1 x3 x4 x5 x6 x7 x9 x10 x14 x15 x16 x19 x20 x21 x22 x23 x24 x41 x42 f0 f2 f8 f11 f12 f13 f17 f18 f25 f26 f27 f28 f29 f30 f31 f32 f33 f34 f35 f36 f37 f38 f39 f40 f43) H) (hD : va_D A (wX5 cI cZ cJ cA h0 a x1 x3 x4 x5 x6 x7 x9 x10 x14 x15 x16 x19 x20 x21 x22 x23 x24 x41 x42 f0 f2 f8 f11 f12 f13 f17 f18 f25 f26 f27 f28 f29 f30 f31 f32 f33 f34 f35 f36 f37 f38 f39 f40 f43)) (hS : va_S A s.heap H locs) (hl : lv_has ls 3 [(0, .ref h0), (1, .int v1)])
    (hret : ∀ (pc : Nat) (H : Heap) (locs : List Loc) (ls : Array Slot) (r : Int32), decode cX5_heat pc = .ok (.ireturn, 1) → r = o → va_P (dC, dI) vwCl (wX5 cI cZ cJ cA h0 a x1 x3 x4 x5 x6 x7 x9 x10 x14 x15 x16 x19 x20 x21 x22 x23 x24 x41 x42 f0 f2 f8 f11 f12 f13 f17 f18 f25 f26 f27 f28 f29 f30 f31 f32 f33 f34 f35 f36 f37 f38 f39 f40 f43) H → va_D A (wX5 cI cZ cJ cA h0 a x1 x3 x4 x5 x6 x7 x9 x10 x14 x15 x16 x19 x20 x21 x22 x23 x24 x41 x42 f0 f2 f8 f11 f12 f13 f17 f18 f25 f26 f27 f28 f29 f30 f31 f32 f33 f34 f35 f36 f37 f38 f39 f40 f43) → va_S A s.heap H locs → W p l e R s m args below meth c H locs 0 0 Q (F0 m pc ls [.int r])) :
    W p l e R s m args below meth c H locs 0 0 Q (F0 m 0 ls []) := by
  obtain ⟨⟨hx, hb, hml, hown, hts⟩, hRf, hRl, hA, hN, hK⟩ := C0
  unfold q_X5_heat at hf
  refine lv_aload_n hx hb dX5_heat_0 rfl (lv_at hl 0 rfl) ?_
  refine va_get (D := (dC, dI)) (ci := 5) (v := .int x4) (C := RX5) (T := TX5) (N := 44) hx hb hts (fun w hw => List.mem_cons_of_mem _ (List.mem_append_right _ hw)) hown hK hP 0 rfl rfl 4 (by decide) (hts (.fieldLink RX5 116 "OldStadiumModel" "goes" "Z") (List.mem_of_getElem? (i := 1) rfl)) (fun _ h9 => h9) rfl dX5_heat_1 ?_
  refine lv_if_ne (tgt := 9) hx hb dX5_heat_4 (by decide) (fun c1 => ?_) (fun c1 => ?_)
  · replace hf := z_im hf c1
    refine lv_iconst (v := 0) hx hb dX5_heat_9 (by decide) ?_
    refine lv_istore_n (lv' := [(2, .int 0), (0, .ref h0), (1, .int v1)]) hx hb dX5_heat_10 rfl hl (by decide) rfl (fun ls hl => ?_)
    obtain ⟨t2, ht2, hf1⟩ := z_ib hf
    replace hf := hf1
    clear hf1
    refine b_X5_heat_L11 N ⟨⟨hx, hb, hml, hown, hts⟩, hRf, hRl, hA, hN, hK⟩ N ht2 hP hD hS (lv_sub hl [1, 2, 0] rfl) (fun r4 e1 pc H locs ls r0 hd hr hP hD hS => ?_) (fun s3 H locs ls e1 hP hD hS hl => ?_)
    · subst e1
      have hf := z_sl hf
      obtain rfl := Option.some.inj hf
      exact hret pc H locs ls r0 hd hr hP hD hS
    subst e1
    replace hf := z_sr hf
    refine lv_iconst (v := (-1)) hx hb dX5_heat_54 (by decide) ?_
    obtain rfl := Option.some.inj hf
    exact hret _ _ _ _ _ dX5_heat_55 rfl hP hD hS
  · replace hf := z_ip hf c1
    refine lv_iconst (v := (-1)) hx hb dX5_heat_7 (by decide) ?_
    obtain rfl := Option.some.inj hf
    exact hret _ _ _ _ _ dX5_heat_8 rfl hP hD hS
set_option maxHeartbeats 4000000 in
set_option maxRecDepth 100000 in
theorem k_X5_heat (l : Launch) (dC : Nat → ClassId) (dI : Nat → Nat → Nat) (cI cZ cJ cA : ClassId) (h0 : Nat) (a : Nat → Nat) (sz : Nat) (N : Nat) (v1 : Int32) (x1 : Int32) (x3 : Int32) (x4 : Int32) (x5 : Int32) (x6 : Int32) (x7 : Int32) (x9 : Int32) (x10 : Int32) (x14 : Int32) (x15 : Int32) (x16 : Int32) (x19 : Int32) (x20 : Int32) (x21 : Int32) (x22 : Int32) (x23 : Int32) (x24 : Int32) (x41 : Int32) (x42 : Int32) (f0 : (Nat → Int32)) (f2 : (Nat → Int32)) (f8 : (Nat → Int32)) (f11 : (Nat → Int32)) (f12 : (Nat → Int32)) (f13 : (Nat → Int32)) (f17 : (Nat → Int32)) (f18 : (Nat → Int32)) (f25 : (Nat → Int32)) (f26 : (Nat → Int32)) (f27 : (Nat → Int32)) (f28 : (Nat → Int32)) (f29 : (Nat → Int32)) (f30 : (Nat → Int32)) (f31 : (Nat → Int32)) (f32 : (Nat → Int32)) (f33 : (Nat → Int32)) (f34 : (Nat → Int32)) (f35 : (Nat → Int32)) (f36 : (Nat → Int32)) (f37 : (Nat → Int32)) (f38 : (Nat → Int32)) (f39 : (Nat → Int32)) (f40 : (Nat → Int32)) (f43 : (Nat → Int32)) (o : Int32) (hf : q_X5_heat N v1 x4 x5 x9 x10 f8 = some o) : Met l yX5_heat wsX5_heat ({ frames := 0, cells := 0, slots := 0, locals := 0 } : Room) (z_Pre dC dI (z_ty cI cZ cJ cA) [.ref h0, .int v1] sz (wX5 cI cZ cJ cA h0 a x1 x3 x4 x5 x6 x7 x9 x10 x14 x15 x16 x19 x20 x21 x22 x23 x24 x41 x42 f0 f2 f8 f11 f12 f13 f17 f18 f25 f26 f27 f28 f29 f30 f31 f32 f33 f34 f35 f36 f37 f38 f39 f40 f43)) (z_Pi dC dI o (wX5 cI cZ cJ cA h0 a x1 x3 x4 x5 x6 x7 x9 x10 x14 x15 x16 x19 x20 x21 x22 x23 x24 x41 x42 f0 f2 f8 f11 f12 f13 f17 f18 f25 f26 f27 f28 f29 f30 f31 f32 f33 f34 f35 f36 f37 f38 f39 f40 f43) sz (wX5 cI cZ cJ cA h0 a x1 x3 x4 x5 x6 x7 x9 x10 x14 x15 x16 x19 x20 x21 x22 x23 x24 x41 x42 f0 f2 f8 f11 f12 f13 f17 f18 f25 f26 f27 f28 f29 f30 f31 f32 f33 f34 f35 f36 f37 f38 f39 f40 f43)) 0 0 (va_A (wX5 cI cZ cJ cA h0 a x1 x3 x4 x5 x6 x7 x9 x10 x14 x15 x16 x19 x20 x21 x22 x23 x24 x41 x42 f0 f2 f8 f11 f12 f13 f17 f18 f25 f26 f27 f28 f29 f30 f31 f32 f33 f34 f35 f36 f37 f38 f39 f40 f43) sz) := by
  refine Met.ofW (cc := cX5_heat) (maxL := 3) (ret := (some .int)) (by decide) rfl ?_
  intro p e s m args below meth c s₁ B hml hv
  obtain ⟨rfl, hsz, hP, hK, hD0, hN⟩ := hv
  subst hsz
  have hl := lv_entry ([.ref h0, .int v1]) (n := 3) (Nat.le_of_ble_eq_true rfl)
  rw [lg_entry_eq]
  refine b_X5_heat N ⟨⟨B.exec, B.bytes, hml, findClass_of_methodNamed B.named, atoms_spec (ws := wsX5_heat) B.pre⟩, Nat.le_refl _, Nat.le_refl _, fun q h => Or.inr h, hN, hK⟩ hf hP hD0.self va_S.rf hl (fun pc H locs ls r hd hr hP hD hS => ?_)
  subst hr
  exact W.iret B.exec B.bytes B.returns (fun t ht hW => ⟨⟨_, (), rfl, rfl, by rw [ht]; exact hP, hD⟩, hS.F ht⟩) hS.2.2 hd
def q_X5_lane (N : Nat) (v1 : Int32) (v2 : Int32) (x5 : Int32) (x7 : Int32) (x9 : Int32) (x10 : Int32) (f8 : (Nat → Int32)) : Option Int32 :=
  (Option.bind (q_X5_isHeat N v1 x5 x7 x9 x10) (fun o1 =>
  (if o1 = 0 then
   (some (-1))
  else
   (Option.bind (q_X5_inHeat N v1 x5 x9 x10) (fun o3 =>
   (Option.bind (q_X5_in N v2 0 (o3 - 1)) (fun o4 =>
   (if o4 = 0 then
    (some (-1))
   else
    (if z_in ((v1 * x5) + v2) 24 then
    (some (f8 (Int32.toNatClampNeg ((v1 * x5) + v2))))
    else none)))))))))
set_option maxHeartbeats 4000000 in
set_option maxRecDepth 100000 in
theorem b_X5_lane {p : Program} {l : Launch} {e : Env} {R : Room} {s : State} {m : MethodId} {args : Array Value} {below : List Frame} {meth : Method} {c : Code} {Q : State → Prop} {A : Nat → Prop} {dC : Nat → ClassId} {dI : Nat → Nat → Nat} {cI cZ cJ cA : ClassId} {h0 : Nat} {a : Nat → Nat} (N : Nat) (C0 : z_Cx p s m args c cX5_lane 3 wsX5_lane RX5 R 2 43 A dC dI (z_ty cI cZ cJ cA)) {v1 : Int32} {v2 : Int32} {x1 : Int32} {x3 : Int32} {x4 : Int32} {x5 : Int32} {x6 : Int32} {x7 : Int32} {x9 : Int32} {x10 : Int32} {x14 : Int32} {x15 : Int32} {x16 : Int32} {x19 : Int32} {x20 : Int32} {x21 : Int32} {x22 : Int32} {x23 : Int32} {x24 : Int32} {x41 : Int32} {x42 : Int32} {f0 : (Nat → Int32)} {f2 : (Nat → Int32)} {f8 : (Nat → Int32)} {f11 : (Nat → Int32)} {f12 : (Nat → Int32)} {f13 : (Nat → Int32)} {f17 : (Nat → Int32)} {f18 : (Nat → Int32)} {f25 : (Nat → Int32)} {f26 : (Nat → Int32)} {f27 : (Nat → Int32)} {f28 : (Nat → Int32)} {f29 : (Nat → Int32)} {f30 : (Nat → Int32)} {f31 : (Nat → Int32)} {f32 : (Nat → Int32)} {f33 : (Nat → Int32)} {f34 : (Nat → Int32)} {f35 : (Nat → Int32)} {f36 : (Nat → Int32)} {f37 : (Nat → Int32)} {f38 : (Nat → Int32)} {f39 : (Nat → Int32)} {f40 : (Nat → Int32)} {f43 : (Nat → Int32)} {o : Int32} {H : Heap} {locs : List Loc} {ls : Array Slot} (hf : q_X5_lane N v1 v2 x5 x7 x9 x10 f8 = some o) (hP : va_P (dC, dI) vwCl (wX5 cI cZ cJ cA h0 a x1 x3 x4 x5 x6 x7 x9 x10 x14 x15 x16 x19 x20 x21 x22 x23 x24 x41 x42 f0 f2 f8 f11 f12 f13 f17 f18 f25 f26 f27 f28 f29 f30 f31 f32 f33 f34 f35 f36 f37 f38 f39 f40 f43) H) (hD : va_D A (wX5 cI cZ cJ cA h0 a x1 x3 x4 x5 x6 x7 x9 x10 x14 x15 x16 x19 x20 x21 x22 x23 x24 x41 x42 f0 f2 f8 f11 f12 f13 f17 f18 f25 f26 f27 f28 f29 f30 f31 f32 f33 f34 f35 f36 f37 f38 f39 f40 f43)) (hS : va_S A s.heap H locs) (hl : lv_has ls 3 [(0, .ref h0), (1, .int v1), (2, .int v2)])
    (hret : ∀ (pc : Nat) (H : Heap) (locs : List Loc) (ls : Array Slot) (r : Int32), decode cX5_lane pc = .ok (.ireturn, 1) → r = o → va_P (dC, dI) vwCl (wX5 cI cZ cJ cA h0 a x1 x3 x4 x5 x6 x7 x9 x10 x14 x15 x16 x19 x20 x21 x22 x23 x24 x41 x42 f0 f2 f8 f11 f12 f13 f17 f18 f25 f26 f27 f28 f29 f30 f31 f32 f33 f34 f35 f36 f37 f38 f39 f40 f43) H → va_D A (wX5 cI cZ cJ cA h0 a x1 x3 x4 x5 x6 x7 x9 x10 x14 x15 x16 x19 x20 x21 x22 x23 x24 x41 x42 f0 f2 f8 f11 f12 f13 f17 f18 f25 f26 f27 f28 f29 f30 f31 f32 f33 f34 f35 f36 f37 f38 f39 f40 f43) → va_S A s.heap H locs → W p l e R s m args below meth c H locs 0 0 Q (F0 m pc ls [.int r])) :
    W p l e R s m args below meth c H locs 0 0 Q (F0 m 0 ls []) := by
  obtain ⟨⟨hx, hb, hml, hown, hts⟩, hRf, hRl, hA, hN, hK⟩ := C0
  unfold q_X5_lane at hf
  refine lv_aload_n hx hb dX5_lane_0 rfl (lv_at hl 0 rfl) ?_
  refine lv_iload_n hx hb dX5_lane_1 rfl (lv_at hl 1 rfl) ?_
  obtain ⟨o1, ho1, hf1⟩ := z_ib hf
  replace hf := hf1
  clear hf1
  refine z_Vi (As := [.int v1]) (rest := []) (w := (wX5 cI cZ cJ cA h0 a x1 x3 x4 x5 x6 x7 x9 x10 x14 x15 x16 x19 x20 x21 x22 x23 x24 x41 x42 f0 f2 f8 f11 f12 f13 f17 f18 f25 f26 f27 f28 f29 f30 f31 f32 f33 f34 f35 f36 f37 f38 f39 f40 f43)) (w1 := (wX5 cI cZ cJ cA h0 a x1 x3 x4 x5 x6 x7 x9 x10 x14 x15 x16 x19 x20 x21 x22 x23 x24 x41 x42 f0 f2 f8 f11 f12 f13 f17 f18 f25 f26 f27 f28 f29 f30 f31 f32 f33 f34 f35 f36 f37 f38 f39 f40 f43)) ⟨hx, hb, hml, hown, hts⟩ (k_X5_isHeat l dC dI cI cZ cJ cA h0 a H.size N v1 x1 x3 x4 x5 x6 x7 x9 x10 x14 x15 x16 x19 x20 x21 x22 x23 x24 x41 x42 f0 f2 f8 f11 f12 f13 f17 f18 f25 f26 f27 f28 f29 f30 f31 f32 f33 f34 f35 f36 f37 f38 f39 f40 f43 o1 ho1) (cwV 1 hts gX5_lane_X5_isHeat rfl rfl rfl (by decide +kernel) ⟨Nat.le_trans (Nat.le_of_ble_eq_true rfl) hRf, Nat.le_trans (Nat.le_of_ble_eq_true rfl) hRl⟩) hK hP hD hS hA hN (ci := 5) rfl rfl rfl rfl hl.1 rfl (Nat.le_of_ble_eq_true rfl) dX5_lane_2 (fun H locs hP hD hS => ?_)
  refine lv_if_eq (tgt := 39) hx hb dX5_lane_5 (by decide) (fun c2 => ?_) (fun c2 => ?_)
  · replace hf := z_ip hf c2
    refine lv_iconst (v := (-1)) hx hb dX5_lane_39 (by decide) ?_
    obtain rfl := Option.some.inj hf
    exact hret _ _ _ _ _ dX5_lane_40 rfl hP hD hS
  · replace hf := z_im hf c2
    refine lv_iload_n hx hb dX5_lane_8 rfl (lv_at hl 2 rfl) ?_
    refine lv_iconst (v := 0) hx hb dX5_lane_9 (by decide) ?_
    refine lv_aload_n hx hb dX5_lane_10 rfl (lv_at hl 0 rfl) ?_
    refine lv_iload_n hx hb dX5_lane_11 rfl (lv_at hl 1 rfl) ?_
    obtain ⟨o3, ho3, hf1⟩ := z_ib hf
    replace hf := hf1
    clear hf1
    refine z_Vi (As := [.int v1]) (rest := [.int 0, .int v2]) (w := (wX5 cI cZ cJ cA h0 a x1 x3 x4 x5 x6 x7 x9 x10 x14 x15 x16 x19 x20 x21 x22 x23 x24 x41 x42 f0 f2 f8 f11 f12 f13 f17 f18 f25 f26 f27 f28 f29 f30 f31 f32 f33 f34 f35 f36 f37 f38 f39 f40 f43)) (w1 := (wX5 cI cZ cJ cA h0 a x1 x3 x4 x5 x6 x7 x9 x10 x14 x15 x16 x19 x20 x21 x22 x23 x24 x41 x42 f0 f2 f8 f11 f12 f13 f17 f18 f25 f26 f27 f28 f29 f30 f31 f32 f33 f34 f35 f36 f37 f38 f39 f40 f43)) ⟨hx, hb, hml, hown, hts⟩ (k_X5_inHeat l dC dI cI cZ cJ cA h0 a H.size N v1 x1 x3 x4 x5 x6 x7 x9 x10 x14 x15 x16 x19 x20 x21 x22 x23 x24 x41 x42 f0 f2 f8 f11 f12 f13 f17 f18 f25 f26 f27 f28 f29 f30 f31 f32 f33 f34 f35 f36 f37 f38 f39 f40 f43 o3 ho3) (cwV 1 hts gX5_lane_X5_inHeat rfl rfl rfl (by decide +kernel) ⟨Nat.le_trans (Nat.le_of_ble_eq_true rfl) hRf, Nat.le_trans (Nat.le_of_ble_eq_true rfl) hRl⟩) hK hP hD hS hA hN (ci := 5) rfl rfl rfl rfl hl.1 rfl (Nat.le_of_ble_eq_true rfl) dX5_lane_12 (fun H locs hP hD hS => ?_)
    refine lv_iconst (v := 1) hx hb dX5_lane_15 (by decide) ?_
    refine lv_isub hx hb dX5_lane_16 ?_
    obtain ⟨o4, ho4, hf1⟩ := z_ib hf
    replace hf := hf1
    clear hf1
    refine z_S0 (As := [.int v2, .int 0, .int (o3 - 1)]) (rest := []) ⟨hx, hb, hml, hown, hts⟩ (k_X5_in l dC dI cI cZ cJ cA H.size N v2 0 (o3 - 1) o4 ho4) (va_cwS 3 hts gX5_lane_X5_in rfl rfl rfl (by decide +kernel) ⟨Nat.le_trans (Nat.le_of_ble_eq_true rfl) hRf, Nat.le_trans (Nat.le_of_ble_eq_true rfl) hRl⟩) hK hP hS hA hN rfl hl.1 rfl (Nat.le_of_ble_eq_true rfl) dX5_lane_17 (fun H locs hP hS => ?_)
    refine lv_if_eq (tgt := 39) hx hb dX5_lane_20 (by decide) (fun c5 => ?_) (fun c5 => ?_)
    · replace hf := z_ip hf c5
      refine lv_iconst (v := (-1)) hx hb dX5_lane_39 (by decide) ?_
      obtain rfl := Option.some.inj hf
      exact hret _ _ _ _ _ dX5_lane_40 rfl hP hD hS
    · replace hf := z_im hf c5
      refine lv_aload_n hx hb dX5_lane_23 rfl (lv_at hl 0 rfl) ?_
      refine va_get (D := (dC, dI)) (ci := 5) (v := .ref (a 8)) (C := RX5) (T := TX5) (N := 44) hx hb hts (fun w hw => List.mem_cons_of_mem _ (List.mem_append_right _ hw)) hown hK hP 0 rfl rfl 8 (by decide) (hts (.fieldLink RX5 16 "OldStadiumModel" "row" "[I") (List.mem_of_getElem? (i := 1) rfl)) (fun _ h9 => h9) rfl dX5_lane_24 ?_
      refine lv_iload_n hx hb dX5_lane_27 rfl (lv_at hl 1 rfl) ?_
      refine lv_aload_n hx hb dX5_lane_28 rfl (lv_at hl 0 rfl) ?_
      refine va_get (D := (dC, dI)) (ci := 5) (v := .int x5) (C := RX5) (T := TX5) (N := 44) hx hb hts (fun w hw => List.mem_cons_of_mem _ (List.mem_append_right _ hw)) hown hK hP 0 rfl rfl 5 (by decide) (hts (.fieldLink RX5 109 "OldStadiumModel" "size" "I") (List.mem_of_getElem? (i := 2) rfl)) (fun _ h9 => h9) rfl dX5_lane_29 ?_
      refine lv_imul hx hb dX5_lane_32 ?_
      refine lv_iload_n hx hb dX5_lane_33 rfl (lv_at hl 2 rfl) ?_
      refine lv_iadd hx hb dX5_lane_34 ?_
      have b6 := z_c1 hf
      replace hf := z_c2 hf
      refine va_iald hx hb hK hP 3 0 rfl rfl b6 dX5_lane_35 ?_
      refine lv_goto (tgt := 40) hx hb dX5_lane_36 (by decide) ?_
      obtain rfl := Option.some.inj hf
      exact hret _ _ _ _ _ dX5_lane_40 rfl hP hD hS
set_option maxHeartbeats 4000000 in
set_option maxRecDepth 100000 in
theorem k_X5_lane (l : Launch) (dC : Nat → ClassId) (dI : Nat → Nat → Nat) (cI cZ cJ cA : ClassId) (h0 : Nat) (a : Nat → Nat) (sz : Nat) (N : Nat) (v1 : Int32) (v2 : Int32) (x1 : Int32) (x3 : Int32) (x4 : Int32) (x5 : Int32) (x6 : Int32) (x7 : Int32) (x9 : Int32) (x10 : Int32) (x14 : Int32) (x15 : Int32) (x16 : Int32) (x19 : Int32) (x20 : Int32) (x21 : Int32) (x22 : Int32) (x23 : Int32) (x24 : Int32) (x41 : Int32) (x42 : Int32) (f0 : (Nat → Int32)) (f2 : (Nat → Int32)) (f8 : (Nat → Int32)) (f11 : (Nat → Int32)) (f12 : (Nat → Int32)) (f13 : (Nat → Int32)) (f17 : (Nat → Int32)) (f18 : (Nat → Int32)) (f25 : (Nat → Int32)) (f26 : (Nat → Int32)) (f27 : (Nat → Int32)) (f28 : (Nat → Int32)) (f29 : (Nat → Int32)) (f30 : (Nat → Int32)) (f31 : (Nat → Int32)) (f32 : (Nat → Int32)) (f33 : (Nat → Int32)) (f34 : (Nat → Int32)) (f35 : (Nat → Int32)) (f36 : (Nat → Int32)) (f37 : (Nat → Int32)) (f38 : (Nat → Int32)) (f39 : (Nat → Int32)) (f40 : (Nat → Int32)) (f43 : (Nat → Int32)) (o : Int32) (hf : q_X5_lane N v1 v2 x5 x7 x9 x10 f8 = some o) : Met l yX5_lane wsX5_lane ({ frames := 2, cells := 0, slots := 0, locals := 43 } : Room) (z_Pre dC dI (z_ty cI cZ cJ cA) [.ref h0, .int v1, .int v2] sz (wX5 cI cZ cJ cA h0 a x1 x3 x4 x5 x6 x7 x9 x10 x14 x15 x16 x19 x20 x21 x22 x23 x24 x41 x42 f0 f2 f8 f11 f12 f13 f17 f18 f25 f26 f27 f28 f29 f30 f31 f32 f33 f34 f35 f36 f37 f38 f39 f40 f43)) (z_Pi dC dI o (wX5 cI cZ cJ cA h0 a x1 x3 x4 x5 x6 x7 x9 x10 x14 x15 x16 x19 x20 x21 x22 x23 x24 x41 x42 f0 f2 f8 f11 f12 f13 f17 f18 f25 f26 f27 f28 f29 f30 f31 f32 f33 f34 f35 f36 f37 f38 f39 f40 f43) sz (wX5 cI cZ cJ cA h0 a x1 x3 x4 x5 x6 x7 x9 x10 x14 x15 x16 x19 x20 x21 x22 x23 x24 x41 x42 f0 f2 f8 f11 f12 f13 f17 f18 f25 f26 f27 f28 f29 f30 f31 f32 f33 f34 f35 f36 f37 f38 f39 f40 f43)) 0 0 (va_A (wX5 cI cZ cJ cA h0 a x1 x3 x4 x5 x6 x7 x9 x10 x14 x15 x16 x19 x20 x21 x22 x23 x24 x41 x42 f0 f2 f8 f11 f12 f13 f17 f18 f25 f26 f27 f28 f29 f30 f31 f32 f33 f34 f35 f36 f37 f38 f39 f40 f43) sz) := by
  refine Met.ofW (cc := cX5_lane) (maxL := 3) (ret := (some .int)) (by decide) rfl ?_
  intro p e s m args below meth c s₁ B hml hv
  obtain ⟨rfl, hsz, hP, hK, hD0, hN⟩ := hv
  subst hsz
  have hl := lv_entry ([.ref h0, .int v1, .int v2]) (n := 3) (Nat.le_of_ble_eq_true rfl)
  rw [lg_entry_eq]
  refine b_X5_lane N ⟨⟨B.exec, B.bytes, hml, findClass_of_methodNamed B.named, atoms_spec (ws := wsX5_lane) B.pre⟩, Nat.le_refl _, Nat.le_refl _, fun q h => Or.inr h, hN, hK⟩ hf hP hD0.self va_S.rf hl (fun pc H locs ls r hd hr hP hD hS => ?_)
  subst hr
  exact W.iret B.exec B.bytes B.returns (fun t ht hW => ⟨⟨_, (), rfl, rfl, by rw [ht]; exact hP, hD⟩, hS.F ht⟩) hS.2.2 hd
def q_X5_open_L4 (N : Nat) (x5 : Int32) (x9 : Int32) (x10 : Int32) (f12 : (Nat → Int32)) : Nat → Int32 → Int32 → Option Int32
  | 0, _, _ => none
  | n + 1, v1, v2 =>
    (Option.bind (q_X5_heats N x5 x9 x10) (fun o1 =>
    (if o1 ≤ v2 then
     (some v1)
    else
     (if z_in v2 24 then
     (if (f12 (Int32.toNatClampNeg v2)) = (-1) then
      (q_X5_open_L4 N x5 x9 x10 f12 n (v1 + 1) (v2 + 1))
     else
      (q_X5_open_L4 N x5 x9 x10 f12 n v1 (v2 + 1)))
     else none))))
set_option maxHeartbeats 4000000 in
set_option maxRecDepth 100000 in
theorem b_X5_open_L4 {p : Program} {l : Launch} {e : Env} {R : Room} {s : State} {m : MethodId} {args : Array Value} {below : List Frame} {meth : Method} {c : Code} {Q : State → Prop} {A : Nat → Prop} {dC : Nat → ClassId} {dI : Nat → Nat → Nat} {cI cZ cJ cA : ClassId} {h0 : Nat} {a : Nat → Nat} (N : Nat) (C0 : z_Cx p s m args c cX5_open 3 wsX5_open RX5 R 1 21 A dC dI (z_ty cI cZ cJ cA)) : ∀ (n : Nat) {v1 : Int32} {v2 : Int32} {x1 : Int32} {x3 : Int32} {x4 : Int32} {x5 : Int32} {x6 : Int32} {x7 : Int32} {x9 : Int32} {x10 : Int32} {x14 : Int32} {x15 : Int32} {x16 : Int32} {x19 : Int32} {x20 : Int32} {x21 : Int32} {x22 : Int32} {x23 : Int32} {x24 : Int32} {x41 : Int32} {x42 : Int32} {f0 : (Nat → Int32)} {f2 : (Nat → Int32)} {f8 : (Nat → Int32)} {f11 : (Nat → Int32)} {f12 : (Nat → Int32)} {f13 : (Nat → Int32)} {f17 : (Nat → Int32)} {f18 : (Nat → Int32)} {f25 : (Nat → Int32)} {f26 : (Nat → Int32)} {f27 : (Nat → Int32)} {f28 : (Nat → Int32)} {f29 : (Nat → Int32)} {f30 : (Nat → Int32)} {f31 : (Nat → Int32)} {f32 : (Nat → Int32)} {f33 : (Nat → Int32)} {f34 : (Nat → Int32)} {f35 : (Nat → Int32)} {f36 : (Nat → Int32)} {f37 : (Nat → Int32)} {f38 : (Nat → Int32)} {f39 : (Nat → Int32)} {f40 : (Nat → Int32)} {f43 : (Nat → Int32)} {o : Int32} {H : Heap} {locs : List Loc} {ls : Array Slot}, q_X5_open_L4 N x5 x9 x10 f12 n v1 v2 = some o → va_P (dC, dI) vwCl (wX5 cI cZ cJ cA h0 a x1 x3 x4 x5 x6 x7 x9 x10 x14 x15 x16 x19 x20 x21 x22 x23 x24 x41 x42 f0 f2 f8 f11 f12 f13 f17 f18 f25 f26 f27 f28 f29 f30 f31 f32 f33 f34 f35 f36 f37 f38 f39 f40 f43) H → va_D A (wX5 cI cZ cJ cA h0 a x1 x3 x4 x5 x6 x7 x9 x10 x14 x15 x16 x19 x20 x21 x22 x23 x24 x41 x42 f0 f2 f8 f11 f12 f13 f17 f18 f25 f26 f27 f28 f29 f30 f31 f32 f33 f34 f35 f36 f37 f38 f39 f40 f43) → va_S A s.heap H locs → lv_has ls 3 [(0, .ref h0), (1, .int v1), (2, .int v2)] →
    (∀ (H : Heap) (locs : List Loc) (ls : Array Slot), va_P (dC, dI) vwCl (wX5 cI cZ cJ cA h0 a x1 x3 x4 x5 x6 x7 x9 x10 x14 x15 x16 x19 x20 x21 x22 x23 x24 x41 x42 f0 f2 f8 f11 f12 f13 f17 f18 f25 f26 f27 f28 f29 f30 f31 f32 f33 f34 f35 f36 f37 f38 f39 f40 f43) H → va_D A (wX5 cI cZ cJ cA h0 a x1 x3 x4 x5 x6 x7 x9 x10 x14 x15 x16 x19 x20 x21 x22 x23 x24 x41 x42 f0 f2 f8 f11 f12 f13 f17 f18 f25 f26 f27 f28 f29 f30 f31 f32 f33 f34 f35 f36 f37 f38 f39 f40 f43) → va_S A s.heap H locs → lv_has ls 3 [(1, .int o)] → W p l e R s m args below meth c H locs 0 0 Q (F0 m 31 ls [])) →
    W p l e R s m args below meth c H locs 0 0 Q (F0 m 4 ls []) := by
  obtain ⟨⟨hx, hb, hml, hown, hts⟩, hRf, hRl, hA, hN, hK⟩ := C0
  intro n
  induction n with
  | zero =>
    intro v1 v2 x1 x3 x4 x5 x6 x7 x9 x10 x14 x15 x16 x19 x20 x21 x22 x23 x24 x41 x42 f0 f2 f8 f11 f12 f13 f17 f18 f25 f26 f27 f28 f29 f30 f31 f32 f33 f34 f35 f36 f37 f38 f39 f40 f43 o H locs ls hf
    cases hf
  | succ n ih =>
    intro v1 v2 x1 x3 x4 x5 x6 x7 x9 x10 x14 x15 x16 x19 x20 x21 x22 x23 x24 x41 x42 f0 f2 f8 f11 f12 f13 f17 f18 f25 f26 f27 f28 f29 f30 f31 f32 f33 f34 f35 f36 f37 f38 f39 f40 f43 o H locs ls hf hP hD hS hl hexit
    rw [q_X5_open_L4] at hf
    refine lv_iload_n hx hb dX5_open_4 rfl (lv_at hl 2 rfl) ?_
    refine lv_aload_n hx hb dX5_open_5 rfl (lv_at hl 0 rfl) ?_
    obtain ⟨o1, ho1, hf1⟩ := z_ib hf
    replace hf := hf1
    clear hf1
    refine z_Vi (As := []) (rest := [.int v2]) (w := (wX5 cI cZ cJ cA h0 a x1 x3 x4 x5 x6 x7 x9 x10 x14 x15 x16 x19 x20 x21 x22 x23 x24 x41 x42 f0 f2 f8 f11 f12 f13 f17 f18 f25 f26 f27 f28 f29 f30 f31 f32 f33 f34 f35 f36 f37 f38 f39 f40 f43)) (w1 := (wX5 cI cZ cJ cA h0 a x1 x3 x4 x5 x6 x7 x9 x10 x14 x15 x16 x19 x20 x21 x22 x23 x24 x41 x42 f0 f2 f8 f11 f12 f13 f17 f18 f25 f26 f27 f28 f29 f30 f31 f32 f33 f34 f35 f36 f37 f38 f39 f40 f43)) ⟨hx, hb, hml, hown, hts⟩ (k_X5_heats l dC dI cI cZ cJ cA h0 a H.size N x1 x3 x4 x5 x6 x7 x9 x10 x14 x15 x16 x19 x20 x21 x22 x23 x24 x41 x42 f0 f2 f8 f11 f12 f13 f17 f18 f25 f26 f27 f28 f29 f30 f31 f32 f33 f34 f35 f36 f37 f38 f39 f40 f43 o1 ho1) (cwV 0 hts gX5_open_X5_heats rfl rfl rfl (by decide +kernel) ⟨Nat.le_trans (Nat.le_of_ble_eq_true rfl) hRf, Nat.le_trans (Nat.le_of_ble_eq_true rfl) hRl⟩) hK hP hD hS hA hN (ci := 5) rfl rfl rfl rfl hl.1 rfl (Nat.le_of_ble_eq_true rfl) dX5_open_6 (fun H locs hP hD hS => ?_)
    refine lv_icmp_ge (tgt := 31) hx hb dX5_open_9 (by decide) (fun c2 => ?_) (fun c2 => ?_)
    · replace hf := z_ip hf c2
      obtain rfl := Option.some.inj hf
      exact hexit _ _ _ hP hD hS (lv_sub hl [1] rfl)
    · replace hf := z_im hf c2
      refine lv_aload_n hx hb dX5_open_12 rfl (lv_at hl 0 rfl) ?_
      refine va_get (D := (dC, dI)) (ci := 5) (v := .ref (a 12)) (C := RX5) (T := TX5) (N := 44) hx hb hts (fun w hw => List.mem_cons_of_mem _ (List.mem_append_right _ hw)) hown hK hP 0 rfl rfl 12 (by decide) (hts (.fieldLink RX5 27 "OldStadiumModel" "won" "[I") (List.mem_of_getElem? (i := 1) rfl)) (fun _ h9 => h9) rfl dX5_open_13 ?_
      refine lv_iload_n hx hb dX5_open_16 rfl (lv_at hl 2 rfl) ?_
      have b3 := z_c1 hf
      replace hf := z_c2 hf
      refine va_iald hx hb hK hP 5 0 rfl rfl b3 dX5_open_17 ?_
      refine lv_iconst (v := (-1)) hx hb dX5_open_18 (by decide) ?_
      refine lv_icmp_ne (tgt := 25) hx hb dX5_open_19 (by decide) (fun c4 => ?_) (fun c4 => ?_)
      · replace hf := z_im hf c4
        refine lv_iinc (v := (v2 + 1)) (lv' := [(2, .int (v2 + 1)), (0, .ref h0), (1, .int v1)]) hx hb dX5_open_25 hl (k := 2) rfl rfl (by decide) rfl (fun ls hl => ?_)
        refine lv_goto (tgt := 4) hx hb dX5_open_28 (by decide) ?_
        exact ih hf hP hD hS (lv_sub hl [1, 2, 0] rfl) hexit
      · replace hf := z_ip hf c4
        refine lv_iinc (v := (v1 + 1)) (lv' := [(1, .int (v1 + 1)), (0, .ref h0), (2, .int v2)]) hx hb dX5_open_22 hl (k := 1) rfl rfl (by decide) rfl (fun ls hl => ?_)
        refine lv_iinc (v := (v2 + 1)) (lv' := [(2, .int (v2 + 1)), (1, .int (v1 + 1)), (0, .ref h0)]) hx hb dX5_open_25 hl (k := 2) rfl rfl (by decide) rfl (fun ls hl => ?_)
        refine lv_goto (tgt := 4) hx hb dX5_open_28 (by decide) ?_
        exact ih hf hP hD hS (lv_sub hl [2, 1, 0] rfl) hexit
def q_X5_open (N : Nat) (x5 : Int32) (x9 : Int32) (x10 : Int32) (f12 : (Nat → Int32)) : Option Int32 :=
  (Option.bind (q_X5_open_L4 N x5 x9 x10 f12 N 0 0) (fun t1 =>
  (some t1)))
set_option maxHeartbeats 4000000 in
set_option maxRecDepth 100000 in
theorem b_X5_open {p : Program} {l : Launch} {e : Env} {R : Room} {s : State} {m : MethodId} {args : Array Value} {below : List Frame} {meth : Method} {c : Code} {Q : State → Prop} {A : Nat → Prop} {dC : Nat → ClassId} {dI : Nat → Nat → Nat} {cI cZ cJ cA : ClassId} {h0 : Nat} {a : Nat → Nat} (N : Nat) (C0 : z_Cx p s m args c cX5_open 3 wsX5_open RX5 R 1 21 A dC dI (z_ty cI cZ cJ cA)) {x1 : Int32} {x3 : Int32} {x4 : Int32} {x5 : Int32} {x6 : Int32} {x7 : Int32} {x9 : Int32} {x10 : Int32} {x14 : Int32} {x15 : Int32} {x16 : Int32} {x19 : Int32} {x20 : Int32} {x21 : Int32} {x22 : Int32} {x23 : Int32} {x24 : Int32} {x41 : Int32} {x42 : Int32} {f0 : (Nat → Int32)} {f2 : (Nat → Int32)} {f8 : (Nat → Int32)} {f11 : (Nat → Int32)} {f12 : (Nat → Int32)} {f13 : (Nat → Int32)} {f17 : (Nat → Int32)} {f18 : (Nat → Int32)} {f25 : (Nat → Int32)} {f26 : (Nat → Int32)} {f27 : (Nat → Int32)} {f28 : (Nat → Int32)} {f29 : (Nat → Int32)} {f30 : (Nat → Int32)} {f31 : (Nat → Int32)} {f32 : (Nat → Int32)} {f33 : (Nat → Int32)} {f34 : (Nat → Int32)} {f35 : (Nat → Int32)} {f36 : (Nat → Int32)} {f37 : (Nat → Int32)} {f38 : (Nat → Int32)} {f39 : (Nat → Int32)} {f40 : (Nat → Int32)} {f43 : (Nat → Int32)} {o : Int32} {H : Heap} {locs : List Loc} {ls : Array Slot} (hf : q_X5_open N x5 x9 x10 f12 = some o) (hP : va_P (dC, dI) vwCl (wX5 cI cZ cJ cA h0 a x1 x3 x4 x5 x6 x7 x9 x10 x14 x15 x16 x19 x20 x21 x22 x23 x24 x41 x42 f0 f2 f8 f11 f12 f13 f17 f18 f25 f26 f27 f28 f29 f30 f31 f32 f33 f34 f35 f36 f37 f38 f39 f40 f43) H) (hD : va_D A (wX5 cI cZ cJ cA h0 a x1 x3 x4 x5 x6 x7 x9 x10 x14 x15 x16 x19 x20 x21 x22 x23 x24 x41 x42 f0 f2 f8 f11 f12 f13 f17 f18 f25 f26 f27 f28 f29 f30 f31 f32 f33 f34 f35 f36 f37 f38 f39 f40 f43)) (hS : va_S A s.heap H locs) (hl : lv_has ls 3 [(0, .ref h0)])
    (hret : ∀ (pc : Nat) (H : Heap) (locs : List Loc) (ls : Array Slot) (r : Int32), decode cX5_open pc = .ok (.ireturn, 1) → r = o → va_P (dC, dI) vwCl (wX5 cI cZ cJ cA h0 a x1 x3 x4 x5 x6 x7 x9 x10 x14 x15 x16 x19 x20 x21 x22 x23 x24 x41 x42 f0 f2 f8 f11 f12 f13 f17 f18 f25 f26 f27 f28 f29 f30 f31 f32 f33 f34 f35 f36 f37 f38 f39 f40 f43) H → va_D A (wX5 cI cZ cJ cA h0 a x1 x3 x4 x5 x6 x7 x9 x10 x14 x15 x16 x19 x20 x21 x22 x23 x24 x41 x42 f0 f2 f8 f11 f12 f13 f17 f18 f25 f26 f27 f28 f29 f30 f31 f32 f33 f34 f35 f36 f37 f38 f39 f40 f43) → va_S A s.heap H locs → W p l e R s m args below meth c H locs 0 0 Q (F0 m pc ls [.int r])) :
    W p l e R s m args below meth c H locs 0 0 Q (F0 m 0 ls []) := by
  obtain ⟨⟨hx, hb, hml, hown, hts⟩, hRf, hRl, hA, hN, hK⟩ := C0
  unfold q_X5_open at hf
  refine lv_iconst (v := 0) hx hb dX5_open_0 (by decide) ?_
  refine lv_istore_n (lv' := [(1, .int 0), (0, .ref h0)]) hx hb dX5_open_1 rfl hl (by decide) rfl (fun ls hl => ?_)
  refine lv_iconst (v := 0) hx hb dX5_open_2 (by decide) ?_
  refine lv_istore_n (lv' := [(2, .int 0), (1, .int 0), (0, .ref h0)]) hx hb dX5_open_3 rfl hl (by decide) rfl (fun ls hl => ?_)
  obtain ⟨t1, ht1, hf1⟩ := z_ib hf
  replace hf := hf1
  clear hf1
  refine b_X5_open_L4 N ⟨⟨hx, hb, hml, hown, hts⟩, hRf, hRl, hA, hN, hK⟩ N ht1 hP hD hS (lv_sub hl [2, 1, 0] rfl) (fun H locs ls hP hD hS hl => ?_)
  refine lv_iload_n hx hb dX5_open_31 rfl (lv_at hl 0 rfl) ?_
  obtain rfl := Option.some.inj hf
  exact hret _ _ _ _ _ dX5_open_32 rfl hP hD hS
set_option maxHeartbeats 4000000 in
set_option maxRecDepth 100000 in
theorem k_X5_open (l : Launch) (dC : Nat → ClassId) (dI : Nat → Nat → Nat) (cI cZ cJ cA : ClassId) (h0 : Nat) (a : Nat → Nat) (sz : Nat) (N : Nat) (x1 : Int32) (x3 : Int32) (x4 : Int32) (x5 : Int32) (x6 : Int32) (x7 : Int32) (x9 : Int32) (x10 : Int32) (x14 : Int32) (x15 : Int32) (x16 : Int32) (x19 : Int32) (x20 : Int32) (x21 : Int32) (x22 : Int32) (x23 : Int32) (x24 : Int32) (x41 : Int32) (x42 : Int32) (f0 : (Nat → Int32)) (f2 : (Nat → Int32)) (f8 : (Nat → Int32)) (f11 : (Nat → Int32)) (f12 : (Nat → Int32)) (f13 : (Nat → Int32)) (f17 : (Nat → Int32)) (f18 : (Nat → Int32)) (f25 : (Nat → Int32)) (f26 : (Nat → Int32)) (f27 : (Nat → Int32)) (f28 : (Nat → Int32)) (f29 : (Nat → Int32)) (f30 : (Nat → Int32)) (f31 : (Nat → Int32)) (f32 : (Nat → Int32)) (f33 : (Nat → Int32)) (f34 : (Nat → Int32)) (f35 : (Nat → Int32)) (f36 : (Nat → Int32)) (f37 : (Nat → Int32)) (f38 : (Nat → Int32)) (f39 : (Nat → Int32)) (f40 : (Nat → Int32)) (f43 : (Nat → Int32)) (o : Int32) (hf : q_X5_open N x5 x9 x10 f12 = some o) : Met l yX5_open wsX5_open ({ frames := 1, cells := 0, slots := 0, locals := 21 } : Room) (z_Pre dC dI (z_ty cI cZ cJ cA) [.ref h0] sz (wX5 cI cZ cJ cA h0 a x1 x3 x4 x5 x6 x7 x9 x10 x14 x15 x16 x19 x20 x21 x22 x23 x24 x41 x42 f0 f2 f8 f11 f12 f13 f17 f18 f25 f26 f27 f28 f29 f30 f31 f32 f33 f34 f35 f36 f37 f38 f39 f40 f43)) (z_Pi dC dI o (wX5 cI cZ cJ cA h0 a x1 x3 x4 x5 x6 x7 x9 x10 x14 x15 x16 x19 x20 x21 x22 x23 x24 x41 x42 f0 f2 f8 f11 f12 f13 f17 f18 f25 f26 f27 f28 f29 f30 f31 f32 f33 f34 f35 f36 f37 f38 f39 f40 f43) sz (wX5 cI cZ cJ cA h0 a x1 x3 x4 x5 x6 x7 x9 x10 x14 x15 x16 x19 x20 x21 x22 x23 x24 x41 x42 f0 f2 f8 f11 f12 f13 f17 f18 f25 f26 f27 f28 f29 f30 f31 f32 f33 f34 f35 f36 f37 f38 f39 f40 f43)) 0 0 (va_A (wX5 cI cZ cJ cA h0 a x1 x3 x4 x5 x6 x7 x9 x10 x14 x15 x16 x19 x20 x21 x22 x23 x24 x41 x42 f0 f2 f8 f11 f12 f13 f17 f18 f25 f26 f27 f28 f29 f30 f31 f32 f33 f34 f35 f36 f37 f38 f39 f40 f43) sz) := by
  refine Met.ofW (cc := cX5_open) (maxL := 3) (ret := (some .int)) (by decide) rfl ?_
  intro p e s m args below meth c s₁ B hml hv
  obtain ⟨rfl, hsz, hP, hK, hD0, hN⟩ := hv
  subst hsz
  have hl := lv_entry ([.ref h0]) (n := 3) (Nat.le_of_ble_eq_true rfl)
  rw [lg_entry_eq]
  refine b_X5_open N ⟨⟨B.exec, B.bytes, hml, findClass_of_methodNamed B.named, atoms_spec (ws := wsX5_open) B.pre⟩, Nat.le_refl _, Nat.le_refl _, fun q h => Or.inr h, hN, hK⟩ hf hP hD0.self va_S.rf hl (fun pc H locs ls r hd hr hP hD hS => ?_)
  subst hr
  exact W.iret B.exec B.bytes B.returns (fun t ht hW => ⟨⟨_, (), rfl, rfl, by rw [ht]; exact hP, hD⟩, hS.F ht⟩) hS.2.2 hd
def q_X5_count (N : Nat) (v1 : Int32) (x1 : Int32) (x3 : Int32) (x5 : Int32) (x6 : Int32) (x7 : Int32) (x9 : Int32) (x10 : Int32) (x14 : Int32) (f12 : (Nat → Int32)) : Option Int32 :=
  (if v1 = 0 then
   (some x1)
  else
  (if v1 = 1 then
   (some x3)
  else
  (if v1 = 2 then
   (some x7)
  else
  (if v1 = 3 then
   (if x7 = 0 then
    (some 0)
   else
    (Option.bind (q_X5_heats N x5 x9 x10) (fun o10 =>
    (some o10))))
  else
  (if v1 = 4 then
   (if x7 = 0 then
    (some (-1))
   else
    (some x10))
  else
  (if v1 = 5 then
   (some x14)
  else
  (if v1 = 6 then
   (some x6)
  else
  (if v1 = 7 then
   (if x7 = 0 then
    (some 0)
   else
    (Option.bind (q_X5_open N x5 x9 x10 f12) (fun o13 =>
    (some o13))))
  else
  (some (-1))))))))))
set_option maxHeartbeats 4000000 in
set_option maxRecDepth 100000 in
theorem b_X5_count {p : Program} {l : Launch} {e : Env} {R : Room} {s : State} {m : MethodId} {args : Array Value} {below : List Frame} {meth : Method} {c : Code} {Q : State → Prop} {A : Nat → Prop} {dC : Nat → ClassId} {dI : Nat → Nat → Nat} {cI cZ cJ cA : ClassId} {h0 : Nat} {a : Nat → Nat} (N : Nat) (C0 : z_Cx p s m args c cX5_count 2 wsX5_count RX5 R 2 43 A dC dI (z_ty cI cZ cJ cA)) {v1 : Int32} {x1 : Int32} {x3 : Int32} {x4 : Int32} {x5 : Int32} {x6 : Int32} {x7 : Int32} {x9 : Int32} {x10 : Int32} {x14 : Int32} {x15 : Int32} {x16 : Int32} {x19 : Int32} {x20 : Int32} {x21 : Int32} {x22 : Int32} {x23 : Int32} {x24 : Int32} {x41 : Int32} {x42 : Int32} {f0 : (Nat → Int32)} {f2 : (Nat → Int32)} {f8 : (Nat → Int32)} {f11 : (Nat → Int32)} {f12 : (Nat → Int32)} {f13 : (Nat → Int32)} {f17 : (Nat → Int32)} {f18 : (Nat → Int32)} {f25 : (Nat → Int32)} {f26 : (Nat → Int32)} {f27 : (Nat → Int32)} {f28 : (Nat → Int32)} {f29 : (Nat → Int32)} {f30 : (Nat → Int32)} {f31 : (Nat → Int32)} {f32 : (Nat → Int32)} {f33 : (Nat → Int32)} {f34 : (Nat → Int32)} {f35 : (Nat → Int32)} {f36 : (Nat → Int32)} {f37 : (Nat → Int32)} {f38 : (Nat → Int32)} {f39 : (Nat → Int32)} {f40 : (Nat → Int32)} {f43 : (Nat → Int32)} {o : Int32} {H : Heap} {locs : List Loc} {ls : Array Slot} (hf : q_X5_count N v1 x1 x3 x5 x6 x7 x9 x10 x14 f12 = some o) (hP : va_P (dC, dI) vwCl (wX5 cI cZ cJ cA h0 a x1 x3 x4 x5 x6 x7 x9 x10 x14 x15 x16 x19 x20 x21 x22 x23 x24 x41 x42 f0 f2 f8 f11 f12 f13 f17 f18 f25 f26 f27 f28 f29 f30 f31 f32 f33 f34 f35 f36 f37 f38 f39 f40 f43) H) (hD : va_D A (wX5 cI cZ cJ cA h0 a x1 x3 x4 x5 x6 x7 x9 x10 x14 x15 x16 x19 x20 x21 x22 x23 x24 x41 x42 f0 f2 f8 f11 f12 f13 f17 f18 f25 f26 f27 f28 f29 f30 f31 f32 f33 f34 f35 f36 f37 f38 f39 f40 f43)) (hS : va_S A s.heap H locs) (hl : lv_has ls 2 [(0, .ref h0), (1, .int v1)])
    (hret : ∀ (pc : Nat) (H : Heap) (locs : List Loc) (ls : Array Slot) (r : Int32), decode cX5_count pc = .ok (.ireturn, 1) → r = o → va_P (dC, dI) vwCl (wX5 cI cZ cJ cA h0 a x1 x3 x4 x5 x6 x7 x9 x10 x14 x15 x16 x19 x20 x21 x22 x23 x24 x41 x42 f0 f2 f8 f11 f12 f13 f17 f18 f25 f26 f27 f28 f29 f30 f31 f32 f33 f34 f35 f36 f37 f38 f39 f40 f43) H → va_D A (wX5 cI cZ cJ cA h0 a x1 x3 x4 x5 x6 x7 x9 x10 x14 x15 x16 x19 x20 x21 x22 x23 x24 x41 x42 f0 f2 f8 f11 f12 f13 f17 f18 f25 f26 f27 f28 f29 f30 f31 f32 f33 f34 f35 f36 f37 f38 f39 f40 f43) → va_S A s.heap H locs → W p l e R s m args below meth c H locs 0 0 Q (F0 m pc ls [.int r])) :
    W p l e R s m args below meth c H locs 0 0 Q (F0 m 0 ls []) := by
  obtain ⟨⟨hx, hb, hml, hown, hts⟩, hRf, hRl, hA, hN, hK⟩ := C0
  unfold q_X5_count at hf
  refine lv_iload_n hx hb dX5_count_0 rfl (lv_at hl 1 rfl) ?_
  by_cases c1 : v1 = 0
  · replace hf := z_ip hf c1
    refine lv_tableIn (tgt := 48) hx hb dX5_count_1 (by rw [z_tin (k := 0) c1 (by omega)]; decide) (by rw [z_tin (k := 0) c1 (by omega)]; decide) (by rw [z_tin (k := 0) c1 (by omega)]; rfl) (by decide) ?_
    refine lv_aload_n hx hb dX5_count_48 rfl (lv_at hl 0 rfl) ?_
    refine va_get (D := (dC, dI)) (ci := 5) (v := .int x1) (C := RX5) (T := TX5) (N := 44) hx hb hts (fun w hw => List.mem_cons_of_mem _ (List.mem_append_right _ hw)) hown hK hP 0 rfl rfl 1 (by decide) (hts (.fieldLink RX5 100 "OldStadiumModel" "runners" "I") (List.mem_of_getElem? (i := 1) rfl)) (fun _ h9 => h9) rfl dX5_count_49 ?_
    obtain rfl := Option.some.inj hf
    exact hret _ _ _ _ _ dX5_count_52 rfl hP hD hS
  replace hf := z_im hf c1
  by_cases c2 : v1 = 1
  · replace hf := z_ip hf c2
    refine lv_tableIn (tgt := 53) hx hb dX5_count_1 (by rw [z_tin (k := 1) c2 (by omega)]; decide) (by rw [z_tin (k := 1) c2 (by omega)]; decide) (by rw [z_tin (k := 1) c2 (by omega)]; rfl) (by decide) ?_
    refine lv_aload_n hx hb dX5_count_53 rfl (lv_at hl 0 rfl) ?_
    refine va_get (D := (dC, dI)) (ci := 5) (v := .int x3) (C := RX5) (T := TX5) (N := 44) hx hb hts (fun w hw => List.mem_cons_of_mem _ (List.mem_append_right _ hw)) hown hK hP 0 rfl rfl 3 (by decide) (hts (.fieldLink RX5 103 "OldStadiumModel" "judges" "I") (List.mem_of_getElem? (i := 2) rfl)) (fun _ h9 => h9) rfl dX5_count_54 ?_
    obtain rfl := Option.some.inj hf
    exact hret _ _ _ _ _ dX5_count_57 rfl hP hD hS
  replace hf := z_im hf c2
  by_cases c3 : v1 = 2
  · replace hf := z_ip hf c3
    refine lv_tableIn (tgt := 58) hx hb dX5_count_1 (by rw [z_tin (k := 2) c3 (by omega)]; decide) (by rw [z_tin (k := 2) c3 (by omega)]; decide) (by rw [z_tin (k := 2) c3 (by omega)]; rfl) (by decide) ?_
    refine lv_aload_n hx hb dX5_count_58 rfl (lv_at hl 0 rfl) ?_
    refine va_get (D := (dC, dI)) (ci := 5) (v := .int x7) (C := RX5) (T := TX5) (N := 44) hx hb hts (fun w hw => List.mem_cons_of_mem _ (List.mem_append_right _ hw)) hown hK hP 0 rfl rfl 7 (by decide) (hts (.fieldLink RX5 120 "OldStadiumModel" "round" "I") (List.mem_of_getElem? (i := 3) rfl)) (fun _ h9 => h9) rfl dX5_count_59 ?_
    obtain rfl := Option.some.inj hf
    exact hret _ _ _ _ _ dX5_count_62 rfl hP hD hS
  replace hf := z_im hf c3
  by_cases c4 : v1 = 3
  · replace hf := z_ip hf c4
    refine lv_tableIn (tgt := 63) hx hb dX5_count_1 (by rw [z_tin (k := 3) c4 (by omega)]; decide) (by rw [z_tin (k := 3) c4 (by omega)]; decide) (by rw [z_tin (k := 3) c4 (by omega)]; rfl) (by decide) ?_
    refine lv_aload_n hx hb dX5_count_63 rfl (lv_at hl 0 rfl) ?_
    refine va_get (D := (dC, dI)) (ci := 5) (v := .int x7) (C := RX5) (T := TX5) (N := 44) hx hb hts (fun w hw => List.mem_cons_of_mem _ (List.mem_append_right _ hw)) hown hK hP 0 rfl rfl 7 (by decide) (hts (.fieldLink RX5 120 "OldStadiumModel" "round" "I") (List.mem_of_getElem? (i := 3) rfl)) (fun _ h9 => h9) rfl dX5_count_64 ?_
    refine lv_if_ne (tgt := 74) hx hb dX5_count_67 (by decide) (fun c9 => ?_) (fun c9 => ?_)
    · replace hf := z_im hf c9
      refine lv_aload_n hx hb dX5_count_74 rfl (lv_at hl 0 rfl) ?_
      obtain ⟨o10, ho10, hf1⟩ := z_ib hf
      replace hf := hf1
      clear hf1
      refine z_Vi (As := []) (rest := []) (w := (wX5 cI cZ cJ cA h0 a x1 x3 x4 x5 x6 x7 x9 x10 x14 x15 x16 x19 x20 x21 x22 x23 x24 x41 x42 f0 f2 f8 f11 f12 f13 f17 f18 f25 f26 f27 f28 f29 f30 f31 f32 f33 f34 f35 f36 f37 f38 f39 f40 f43)) (w1 := (wX5 cI cZ cJ cA h0 a x1 x3 x4 x5 x6 x7 x9 x10 x14 x15 x16 x19 x20 x21 x22 x23 x24 x41 x42 f0 f2 f8 f11 f12 f13 f17 f18 f25 f26 f27 f28 f29 f30 f31 f32 f33 f34 f35 f36 f37 f38 f39 f40 f43)) ⟨hx, hb, hml, hown, hts⟩ (k_X5_heats l dC dI cI cZ cJ cA h0 a H.size N x1 x3 x4 x5 x6 x7 x9 x10 x14 x15 x16 x19 x20 x21 x22 x23 x24 x41 x42 f0 f2 f8 f11 f12 f13 f17 f18 f25 f26 f27 f28 f29 f30 f31 f32 f33 f34 f35 f36 f37 f38 f39 f40 f43 o10 ho10) (cwV 0 hts gX5_count_X5_heats rfl rfl rfl (by decide +kernel) ⟨Nat.le_trans (Nat.le_of_ble_eq_true rfl) hRf, Nat.le_trans (Nat.le_of_ble_eq_true rfl) hRl⟩) hK hP hD hS hA hN (ci := 5) rfl rfl rfl rfl hl.1 rfl (Nat.le_of_ble_eq_true rfl) dX5_count_75 (fun H locs hP hD hS => ?_)
      obtain rfl := Option.some.inj hf
      exact hret _ _ _ _ _ dX5_count_78 rfl hP hD hS
    · replace hf := z_ip hf c9
      refine lv_iconst (v := 0) hx hb dX5_count_70 (by decide) ?_
      refine lv_goto (tgt := 78) hx hb dX5_count_71 (by decide) ?_
      obtain rfl := Option.some.inj hf
      exact hret _ _ _ _ _ dX5_count_78 rfl hP hD hS
  replace hf := z_im hf c4
  by_cases c5 : v1 = 4
  · replace hf := z_ip hf c5
    refine lv_tableIn (tgt := 79) hx hb dX5_count_1 (by rw [z_tin (k := 4) c5 (by omega)]; decide) (by rw [z_tin (k := 4) c5 (by omega)]; decide) (by rw [z_tin (k := 4) c5 (by omega)]; rfl) (by decide) ?_
    refine lv_aload_n hx hb dX5_count_79 rfl (lv_at hl 0 rfl) ?_
    refine va_get (D := (dC, dI)) (ci := 5) (v := .int x7) (C := RX5) (T := TX5) (N := 44) hx hb hts (fun w hw => List.mem_cons_of_mem _ (List.mem_append_right _ hw)) hown hK hP 0 rfl rfl 7 (by decide) (hts (.fieldLink RX5 120 "OldStadiumModel" "round" "I") (List.mem_of_getElem? (i := 3) rfl)) (fun _ h9 => h9) rfl dX5_count_80 ?_
    refine lv_if_ne (tgt := 90) hx hb dX5_count_83 (by decide) (fun c11 => ?_) (fun c11 => ?_)
    · replace hf := z_im hf c11
      refine lv_aload_n hx hb dX5_count_90 rfl (lv_at hl 0 rfl) ?_
      refine va_get (D := (dC, dI)) (ci := 5) (v := .int x10) (C := RX5) (T := TX5) (N := 44) hx hb hts (fun w hw => List.mem_cons_of_mem _ (List.mem_append_right _ hw)) hown hK hP 0 rfl rfl 10 (by decide) (hts (.fieldLink RX5 19 "OldStadiumModel" "bye" "I") (List.mem_of_getElem? (i := 4) rfl)) (fun _ h9 => h9) rfl dX5_count_91 ?_
      obtain rfl := Option.some.inj hf
      exact hret _ _ _ _ _ dX5_count_94 rfl hP hD hS
    · replace hf := z_ip hf c11
      refine lv_iconst (v := (-1)) hx hb dX5_count_86 (by decide) ?_
      refine lv_goto (tgt := 94) hx hb dX5_count_87 (by decide) ?_
      obtain rfl := Option.some.inj hf
      exact hret _ _ _ _ _ dX5_count_94 rfl hP hD hS
  replace hf := z_im hf c5
  by_cases c6 : v1 = 5
  · replace hf := z_ip hf c6
    refine lv_tableIn (tgt := 95) hx hb dX5_count_1 (by rw [z_tin (k := 5) c6 (by omega)]; decide) (by rw [z_tin (k := 5) c6 (by omega)]; decide) (by rw [z_tin (k := 5) c6 (by omega)]; rfl) (by decide) ?_
    refine lv_aload_n hx hb dX5_count_95 rfl (lv_at hl 0 rfl) ?_
    refine va_get (D := (dC, dI)) (ci := 5) (v := .int x14) (C := RX5) (T := TX5) (N := 44) hx hb hts (fun w hw => List.mem_cons_of_mem _ (List.mem_append_right _ hw)) hown hK hP 0 rfl rfl 14 (by decide) (hts (.fieldLink RX5 33 "OldStadiumModel" "victo\x72" "I") (List.mem_of_getElem? (i := 5) rfl)) (fun _ h9 => h9) rfl dX5_count_96 ?_
    obtain rfl := Option.some.inj hf
    exact hret _ _ _ _ _ dX5_count_99 rfl hP hD hS
  replace hf := z_im hf c6
  by_cases c7 : v1 = 6
  · replace hf := z_ip hf c7
    refine lv_tableIn (tgt := 100) hx hb dX5_count_1 (by rw [z_tin (k := 6) c7 (by omega)]; decide) (by rw [z_tin (k := 6) c7 (by omega)]; decide) (by rw [z_tin (k := 6) c7 (by omega)]; rfl) (by decide) ?_
    refine lv_aload_n hx hb dX5_count_100 rfl (lv_at hl 0 rfl) ?_
    refine va_get (D := (dC, dI)) (ci := 5) (v := .int x6) (C := RX5) (T := TX5) (N := 44) hx hb hts (fun w hw => List.mem_cons_of_mem _ (List.mem_append_right _ hw)) hown hK hP 0 rfl rfl 6 (by decide) (hts (.fieldLink RX5 112 "OldStadiumModel" "\x72" "I") (List.mem_of_getElem? (i := 6) rfl)) (fun _ h9 => h9) rfl dX5_count_101 ?_
    obtain rfl := Option.some.inj hf
    exact hret _ _ _ _ _ dX5_count_104 rfl hP hD hS
  replace hf := z_im hf c7
  by_cases c8 : v1 = 7
  · replace hf := z_ip hf c8
    refine lv_tableIn (tgt := 105) hx hb dX5_count_1 (by rw [z_tin (k := 7) c8 (by omega)]; decide) (by rw [z_tin (k := 7) c8 (by omega)]; decide) (by rw [z_tin (k := 7) c8 (by omega)]; rfl) (by decide) ?_
    refine lv_aload_n hx hb dX5_count_105 rfl (lv_at hl 0 rfl) ?_
    refine va_get (D := (dC, dI)) (ci := 5) (v := .int x7) (C := RX5) (T := TX5) (N := 44) hx hb hts (fun w hw => List.mem_cons_of_mem _ (List.mem_append_right _ hw)) hown hK hP 0 rfl rfl 7 (by decide) (hts (.fieldLink RX5 120 "OldStadiumModel" "round" "I") (List.mem_of_getElem? (i := 3) rfl)) (fun _ h9 => h9) rfl dX5_count_106 ?_
    refine lv_if_ne (tgt := 116) hx hb dX5_count_109 (by decide) (fun c12 => ?_) (fun c12 => ?_)
    · replace hf := z_im hf c12
      refine lv_aload_n hx hb dX5_count_116 rfl (lv_at hl 0 rfl) ?_
      obtain ⟨o13, ho13, hf1⟩ := z_ib hf
      replace hf := hf1
      clear hf1
      refine z_Vi (As := []) (rest := []) (w := (wX5 cI cZ cJ cA h0 a x1 x3 x4 x5 x6 x7 x9 x10 x14 x15 x16 x19 x20 x21 x22 x23 x24 x41 x42 f0 f2 f8 f11 f12 f13 f17 f18 f25 f26 f27 f28 f29 f30 f31 f32 f33 f34 f35 f36 f37 f38 f39 f40 f43)) (w1 := (wX5 cI cZ cJ cA h0 a x1 x3 x4 x5 x6 x7 x9 x10 x14 x15 x16 x19 x20 x21 x22 x23 x24 x41 x42 f0 f2 f8 f11 f12 f13 f17 f18 f25 f26 f27 f28 f29 f30 f31 f32 f33 f34 f35 f36 f37 f38 f39 f40 f43)) ⟨hx, hb, hml, hown, hts⟩ (k_X5_open l dC dI cI cZ cJ cA h0 a H.size N x1 x3 x4 x5 x6 x7 x9 x10 x14 x15 x16 x19 x20 x21 x22 x23 x24 x41 x42 f0 f2 f8 f11 f12 f13 f17 f18 f25 f26 f27 f28 f29 f30 f31 f32 f33 f34 f35 f36 f37 f38 f39 f40 f43 o13 ho13) (cwV 0 hts gX5_count_X5_open rfl rfl rfl (by decide +kernel) ⟨Nat.le_trans (Nat.le_of_ble_eq_true rfl) hRf, Nat.le_trans (Nat.le_of_ble_eq_true rfl) hRl⟩) hK hP hD hS hA hN (ci := 5) rfl rfl rfl rfl hl.1 rfl (Nat.le_of_ble_eq_true rfl) dX5_count_117 (fun H locs hP hD hS => ?_)
      obtain rfl := Option.some.inj hf
      exact hret _ _ _ _ _ dX5_count_120 rfl hP hD hS
    · replace hf := z_ip hf c12
      refine lv_iconst (v := 0) hx hb dX5_count_112 (by decide) ?_
      refine lv_goto (tgt := 120) hx hb dX5_count_113 (by decide) ?_
      obtain rfl := Option.some.inj hf
      exact hret _ _ _ _ _ dX5_count_120 rfl hP hD hS
  replace hf := z_im hf c8
  refine lv_tableOut (tgt := 121) hx hb dX5_count_1 (z_tout (n := 7) ⟨⟨⟨⟨⟨⟨⟨⟨trivial, c1⟩, c2⟩, c3⟩, c4⟩, c5⟩, c6⟩, c7⟩, c8⟩ (by omega)) (by decide) ?_
  refine lv_iconst (v := (-1)) hx hb dX5_count_121 (by decide) ?_
  obtain rfl := Option.some.inj hf
  exact hret _ _ _ _ _ dX5_count_122 rfl hP hD hS
set_option maxHeartbeats 4000000 in
set_option maxRecDepth 100000 in
theorem k_X5_count (l : Launch) (dC : Nat → ClassId) (dI : Nat → Nat → Nat) (cI cZ cJ cA : ClassId) (h0 : Nat) (a : Nat → Nat) (sz : Nat) (N : Nat) (v1 : Int32) (x1 : Int32) (x3 : Int32) (x4 : Int32) (x5 : Int32) (x6 : Int32) (x7 : Int32) (x9 : Int32) (x10 : Int32) (x14 : Int32) (x15 : Int32) (x16 : Int32) (x19 : Int32) (x20 : Int32) (x21 : Int32) (x22 : Int32) (x23 : Int32) (x24 : Int32) (x41 : Int32) (x42 : Int32) (f0 : (Nat → Int32)) (f2 : (Nat → Int32)) (f8 : (Nat → Int32)) (f11 : (Nat → Int32)) (f12 : (Nat → Int32)) (f13 : (Nat → Int32)) (f17 : (Nat → Int32)) (f18 : (Nat → Int32)) (f25 : (Nat → Int32)) (f26 : (Nat → Int32)) (f27 : (Nat → Int32)) (f28 : (Nat → Int32)) (f29 : (Nat → Int32)) (f30 : (Nat → Int32)) (f31 : (Nat → Int32)) (f32 : (Nat → Int32)) (f33 : (Nat → Int32)) (f34 : (Nat → Int32)) (f35 : (Nat → Int32)) (f36 : (Nat → Int32)) (f37 : (Nat → Int32)) (f38 : (Nat → Int32)) (f39 : (Nat → Int32)) (f40 : (Nat → Int32)) (f43 : (Nat → Int32)) (o : Int32) (hf : q_X5_count N v1 x1 x3 x5 x6 x7 x9 x10 x14 f12 = some o) : Met l yX5_count wsX5_count ({ frames := 2, cells := 0, slots := 0, locals := 43 } : Room) (z_Pre dC dI (z_ty cI cZ cJ cA) [.ref h0, .int v1] sz (wX5 cI cZ cJ cA h0 a x1 x3 x4 x5 x6 x7 x9 x10 x14 x15 x16 x19 x20 x21 x22 x23 x24 x41 x42 f0 f2 f8 f11 f12 f13 f17 f18 f25 f26 f27 f28 f29 f30 f31 f32 f33 f34 f35 f36 f37 f38 f39 f40 f43)) (z_Pi dC dI o (wX5 cI cZ cJ cA h0 a x1 x3 x4 x5 x6 x7 x9 x10 x14 x15 x16 x19 x20 x21 x22 x23 x24 x41 x42 f0 f2 f8 f11 f12 f13 f17 f18 f25 f26 f27 f28 f29 f30 f31 f32 f33 f34 f35 f36 f37 f38 f39 f40 f43) sz (wX5 cI cZ cJ cA h0 a x1 x3 x4 x5 x6 x7 x9 x10 x14 x15 x16 x19 x20 x21 x22 x23 x24 x41 x42 f0 f2 f8 f11 f12 f13 f17 f18 f25 f26 f27 f28 f29 f30 f31 f32 f33 f34 f35 f36 f37 f38 f39 f40 f43)) 0 0 (va_A (wX5 cI cZ cJ cA h0 a x1 x3 x4 x5 x6 x7 x9 x10 x14 x15 x16 x19 x20 x21 x22 x23 x24 x41 x42 f0 f2 f8 f11 f12 f13 f17 f18 f25 f26 f27 f28 f29 f30 f31 f32 f33 f34 f35 f36 f37 f38 f39 f40 f43) sz) := by
  refine Met.ofW (cc := cX5_count) (maxL := 2) (ret := (some .int)) (by decide) rfl ?_
  intro p e s m args below meth c s₁ B hml hv
  obtain ⟨rfl, hsz, hP, hK, hD0, hN⟩ := hv
  subst hsz
  have hl := lv_entry ([.ref h0, .int v1]) (n := 2) (Nat.le_of_ble_eq_true rfl)
  rw [lg_entry_eq]
  refine b_X5_count N ⟨⟨B.exec, B.bytes, hml, findClass_of_methodNamed B.named, atoms_spec (ws := wsX5_count) B.pre⟩, Nat.le_refl _, Nat.le_refl _, fun q h => Or.inr h, hN, hK⟩ hf hP hD0.self va_S.rf hl (fun pc H locs ls r hd hr hP hD hS => ?_)
  subst hr
  exact W.iret B.exec B.bytes B.returns (fun t ht hW => ⟨⟨_, (), rfl, rfl, by rw [ht]; exact hP, hD⟩, hS.F ht⟩) hS.2.2 hd
def q_X5_isIn_L19 (N : Nat) (v1 : Int32) (v2 : Int32) (x5 : Int32) (x9 : Int32) (x10 : Int32) (f8 : (Nat → Int32)) : Nat → Int32 → Option (Sum Int32 Unit)
  | 0, _ => none
  | n + 1, v3 =>
    (Option.bind (q_X5_inHeat N v1 x5 x9 x10) (fun o1 =>
    (if o1 ≤ v3 then
     (some (Sum.inr ()))
    else
     (if z_in ((v1 * x5) + v3) 24 then
     (if (f8 (Int32.toNatClampNeg ((v1 * x5) + v3))) = v2 then
      (some (Sum.inl 1))
     else
      (q_X5_isIn_L19 N v1 v2 x5 x9 x10 f8 n (v3 + 1)))
     else none))))
set_option maxHeartbeats 4000000 in
set_option maxRecDepth 100000 in
theorem b_X5_isIn_L19 {p : Program} {l : Launch} {e : Env} {R : Room} {s : State} {m : MethodId} {args : Array Value} {below : List Frame} {meth : Method} {c : Code} {Q : State → Prop} {A : Nat → Prop} {dC : Nat → ClassId} {dI : Nat → Nat → Nat} {cI cZ cJ cA : ClassId} {h0 : Nat} {a : Nat → Nat} (N : Nat) (C0 : z_Cx p s m args c cX5_isIn 4 wsX5_isIn RX5 R 2 43 A dC dI (z_ty cI cZ cJ cA)) : ∀ (n : Nat) {v1 : Int32} {v2 : Int32} {v3 : Int32} {x1 : Int32} {x3 : Int32} {x4 : Int32} {x5 : Int32} {x6 : Int32} {x7 : Int32} {x9 : Int32} {x10 : Int32} {x14 : Int32} {x15 : Int32} {x16 : Int32} {x19 : Int32} {x20 : Int32} {x21 : Int32} {x22 : Int32} {x23 : Int32} {x24 : Int32} {x41 : Int32} {x42 : Int32} {f0 : (Nat → Int32)} {f2 : (Nat → Int32)} {f8 : (Nat → Int32)} {f11 : (Nat → Int32)} {f12 : (Nat → Int32)} {f13 : (Nat → Int32)} {f17 : (Nat → Int32)} {f18 : (Nat → Int32)} {f25 : (Nat → Int32)} {f26 : (Nat → Int32)} {f27 : (Nat → Int32)} {f28 : (Nat → Int32)} {f29 : (Nat → Int32)} {f30 : (Nat → Int32)} {f31 : (Nat → Int32)} {f32 : (Nat → Int32)} {f33 : (Nat → Int32)} {f34 : (Nat → Int32)} {f35 : (Nat → Int32)} {f36 : (Nat → Int32)} {f37 : (Nat → Int32)} {f38 : (Nat → Int32)} {f39 : (Nat → Int32)} {f40 : (Nat → Int32)} {f43 : (Nat → Int32)} {o : (Sum Int32 Unit)} {H : Heap} {locs : List Loc} {ls : Array Slot}, q_X5_isIn_L19 N v1 v2 x5 x9 x10 f8 n v3 = some o → va_P (dC, dI) vwCl (wX5 cI cZ cJ cA h0 a x1 x3 x4 x5 x6 x7 x9 x10 x14 x15 x16 x19 x20 x21 x22 x23 x24 x41 x42 f0 f2 f8 f11 f12 f13 f17 f18 f25 f26 f27 f28 f29 f30 f31 f32 f33 f34 f35 f36 f37 f38 f39 f40 f43) H → va_D A (wX5 cI cZ cJ cA h0 a x1 x3 x4 x5 x6 x7 x9 x10 x14 x15 x16 x19 x20 x21 x22 x23 x24 x41 x42 f0 f2 f8 f11 f12 f13 f17 f18 f25 f26 f27 f28 f29 f30 f31 f32 f33 f34 f35 f36 f37 f38 f39 f40 f43) → va_S A s.heap H locs → lv_has ls 4 [(0, .ref h0), (1, .int v1), (2, .int v2), (3, .int v3)] →
    (∀ (t : Int32), o = Sum.inl t → ∀ (pc : Nat) (H : Heap) (locs : List Loc) (ls : Array Slot) (r : Int32), decode cX5_isIn pc = .ok (.ireturn, 1) → r = t → narrow .boolean (.int r) = .int r → va_P (dC, dI) vwCl (wX5 cI cZ cJ cA h0 a x1 x3 x4 x5 x6 x7 x9 x10 x14 x15 x16 x19 x20 x21 x22 x23 x24 x41 x42 f0 f2 f8 f11 f12 f13 f17 f18 f25 f26 f27 f28 f29 f30 f31 f32 f33 f34 f35 f36 f37 f38 f39 f40 f43) H → va_D A (wX5 cI cZ cJ cA h0 a x1 x3 x4 x5 x6 x7 x9 x10 x14 x15 x16 x19 x20 x21 x22 x23 x24 x41 x42 f0 f2 f8 f11 f12 f13 f17 f18 f25 f26 f27 f28 f29 f30 f31 f32 f33 f34 f35 f36 f37 f38 f39 f40 f43) → va_S A s.heap H locs → W p l e R s m args below meth c H locs 0 0 Q (F0 m pc ls [.int r])) →
    (∀ (t : Unit) (H : Heap) (locs : List Loc) (ls : Array Slot), o = Sum.inr t → va_P (dC, dI) vwCl (wX5 cI cZ cJ cA h0 a x1 x3 x4 x5 x6 x7 x9 x10 x14 x15 x16 x19 x20 x21 x22 x23 x24 x41 x42 f0 f2 f8 f11 f12 f13 f17 f18 f25 f26 f27 f28 f29 f30 f31 f32 f33 f34 f35 f36 f37 f38 f39 f40 f43) H → va_D A (wX5 cI cZ cJ cA h0 a x1 x3 x4 x5 x6 x7 x9 x10 x14 x15 x16 x19 x20 x21 x22 x23 x24 x41 x42 f0 f2 f8 f11 f12 f13 f17 f18 f25 f26 f27 f28 f29 f30 f31 f32 f33 f34 f35 f36 f37 f38 f39 f40 f43) → va_S A s.heap H locs → lv_has ls 4 [] → W p l e R s m args below meth c H locs 0 0 Q (F0 m 53 ls [])) →
    W p l e R s m args below meth c H locs 0 0 Q (F0 m 19 ls []) := by
  obtain ⟨⟨hx, hb, hml, hown, hts⟩, hRf, hRl, hA, hN, hK⟩ := C0
  intro n
  induction n with
  | zero =>
    intro v1 v2 v3 x1 x3 x4 x5 x6 x7 x9 x10 x14 x15 x16 x19 x20 x21 x22 x23 x24 x41 x42 f0 f2 f8 f11 f12 f13 f17 f18 f25 f26 f27 f28 f29 f30 f31 f32 f33 f34 f35 f36 f37 f38 f39 f40 f43 o H locs ls hf
    cases hf
  | succ n ih =>
    intro v1 v2 v3 x1 x3 x4 x5 x6 x7 x9 x10 x14 x15 x16 x19 x20 x21 x22 x23 x24 x41 x42 f0 f2 f8 f11 f12 f13 f17 f18 f25 f26 f27 f28 f29 f30 f31 f32 f33 f34 f35 f36 f37 f38 f39 f40 f43 o H locs ls hf hP hD hS hl hret hexit
    rw [q_X5_isIn_L19] at hf
    refine lv_iload_n hx hb dX5_isIn_19 rfl (lv_at hl 3 rfl) ?_
    refine lv_aload_n hx hb dX5_isIn_20 rfl (lv_at hl 0 rfl) ?_
    refine lv_iload_n hx hb dX5_isIn_21 rfl (lv_at hl 1 rfl) ?_
    obtain ⟨o1, ho1, hf1⟩ := z_ib hf
    replace hf := hf1
    clear hf1
    refine z_Vi (As := [.int v1]) (rest := [.int v3]) (w := (wX5 cI cZ cJ cA h0 a x1 x3 x4 x5 x6 x7 x9 x10 x14 x15 x16 x19 x20 x21 x22 x23 x24 x41 x42 f0 f2 f8 f11 f12 f13 f17 f18 f25 f26 f27 f28 f29 f30 f31 f32 f33 f34 f35 f36 f37 f38 f39 f40 f43)) (w1 := (wX5 cI cZ cJ cA h0 a x1 x3 x4 x5 x6 x7 x9 x10 x14 x15 x16 x19 x20 x21 x22 x23 x24 x41 x42 f0 f2 f8 f11 f12 f13 f17 f18 f25 f26 f27 f28 f29 f30 f31 f32 f33 f34 f35 f36 f37 f38 f39 f40 f43)) ⟨hx, hb, hml, hown, hts⟩ (k_X5_inHeat l dC dI cI cZ cJ cA h0 a H.size N v1 x1 x3 x4 x5 x6 x7 x9 x10 x14 x15 x16 x19 x20 x21 x22 x23 x24 x41 x42 f0 f2 f8 f11 f12 f13 f17 f18 f25 f26 f27 f28 f29 f30 f31 f32 f33 f34 f35 f36 f37 f38 f39 f40 f43 o1 ho1) (cwV 1 hts gX5_isIn_X5_inHeat rfl rfl rfl (by decide +kernel) ⟨Nat.le_trans (Nat.le_of_ble_eq_true rfl) hRf, Nat.le_trans (Nat.le_of_ble_eq_true rfl) hRl⟩) hK hP hD hS hA hN (ci := 5) rfl rfl rfl rfl hl.1 rfl (Nat.le_of_ble_eq_true rfl) dX5_isIn_22 (fun H locs hP hD hS => ?_)
    refine lv_icmp_ge (tgt := 53) hx hb dX5_isIn_25 (by decide) (fun c2 => ?_) (fun c2 => ?_)
    · replace hf := z_ip hf c2
      obtain rfl := Option.some.inj hf
      exact hexit _ _ _ _ rfl hP hD hS (lv_sub hl [] rfl)
    · replace hf := z_im hf c2
      refine lv_aload_n hx hb dX5_isIn_28 rfl (lv_at hl 0 rfl) ?_
      refine va_get (D := (dC, dI)) (ci := 5) (v := .ref (a 8)) (C := RX5) (T := TX5) (N := 44) hx hb hts (fun w hw => List.mem_cons_of_mem _ (List.mem_append_right _ hw)) hown hK hP 0 rfl rfl 8 (by decide) (hts (.fieldLink RX5 16 "OldStadiumModel" "row" "[I") (List.mem_of_getElem? (i := 2) rfl)) (fun _ h9 => h9) rfl dX5_isIn_29 ?_
      refine lv_iload_n hx hb dX5_isIn_32 rfl (lv_at hl 1 rfl) ?_
      refine lv_aload_n hx hb dX5_isIn_33 rfl (lv_at hl 0 rfl) ?_
      refine va_get (D := (dC, dI)) (ci := 5) (v := .int x5) (C := RX5) (T := TX5) (N := 44) hx hb hts (fun w hw => List.mem_cons_of_mem _ (List.mem_append_right _ hw)) hown hK hP 0 rfl rfl 5 (by decide) (hts (.fieldLink RX5 109 "OldStadiumModel" "size" "I") (List.mem_of_getElem? (i := 3) rfl)) (fun _ h9 => h9) rfl dX5_isIn_34 ?_
      refine lv_imul hx hb dX5_isIn_37 ?_
      refine lv_iload_n hx hb dX5_isIn_38 rfl (lv_at hl 3 rfl) ?_
      refine lv_iadd hx hb dX5_isIn_39 ?_
      have b3 := z_c1 hf
      replace hf := z_c2 hf
      refine va_iald hx hb hK hP 3 0 rfl rfl b3 dX5_isIn_40 ?_
      refine lv_iload_n hx hb dX5_isIn_41 rfl (lv_at hl 2 rfl) ?_
      refine lv_icmp_ne (tgt := 47) hx hb dX5_isIn_42 (by decide) (fun c4 => ?_) (fun c4 => ?_)
      · replace hf := z_im hf c4
        refine lv_iinc (v := (v3 + 1)) (lv' := [(3, .int (v3 + 1)), (0, .ref h0), (1, .int v1), (2, .int v2)]) hx hb dX5_isIn_47 hl (k := 3) rfl rfl (by decide) rfl (fun ls hl => ?_)
        refine lv_goto (tgt := 19) hx hb dX5_isIn_50 (by decide) ?_
        exact ih hf hP hD hS (lv_sub hl [1, 2, 3, 0] rfl) hret hexit
      · replace hf := z_ip hf c4
        refine lv_iconst (v := 1) hx hb dX5_isIn_45 (by decide) ?_
        obtain rfl := Option.some.inj hf
        exact hret _ rfl _ _ _ _ _ dX5_isIn_46 rfl rfl hP hD hS
def q_X5_isIn (N : Nat) (v1 : Int32) (v2 : Int32) (x4 : Int32) (x5 : Int32) (x7 : Int32) (x9 : Int32) (x10 : Int32) (f8 : (Nat → Int32)) : Option Int32 :=
  (if x4 = 0 then
   (some 0)
  else
   (Option.bind (q_X5_isHeat N v1 x5 x7 x9 x10) (fun o2 =>
   (if o2 = 0 then
    (some 0)
   else
    (Option.bind (q_X5_isIn_L19 N v1 v2 x5 x9 x10 f8 N 0) (Sum.elim (fun r6 => (some r6)) (fun s5 =>
    (some 0))))))))
set_option maxHeartbeats 4000000 in
set_option maxRecDepth 100000 in
theorem b_X5_isIn {p : Program} {l : Launch} {e : Env} {R : Room} {s : State} {m : MethodId} {args : Array Value} {below : List Frame} {meth : Method} {c : Code} {Q : State → Prop} {A : Nat → Prop} {dC : Nat → ClassId} {dI : Nat → Nat → Nat} {cI cZ cJ cA : ClassId} {h0 : Nat} {a : Nat → Nat} (N : Nat) (C0 : z_Cx p s m args c cX5_isIn 4 wsX5_isIn RX5 R 2 43 A dC dI (z_ty cI cZ cJ cA)) {v1 : Int32} {v2 : Int32} {x1 : Int32} {x3 : Int32} {x4 : Int32} {x5 : Int32} {x6 : Int32} {x7 : Int32} {x9 : Int32} {x10 : Int32} {x14 : Int32} {x15 : Int32} {x16 : Int32} {x19 : Int32} {x20 : Int32} {x21 : Int32} {x22 : Int32} {x23 : Int32} {x24 : Int32} {x41 : Int32} {x42 : Int32} {f0 : (Nat → Int32)} {f2 : (Nat → Int32)} {f8 : (Nat → Int32)} {f11 : (Nat → Int32)} {f12 : (Nat → Int32)} {f13 : (Nat → Int32)} {f17 : (Nat → Int32)} {f18 : (Nat → Int32)} {f25 : (Nat → Int32)} {f26 : (Nat → Int32)} {f27 : (Nat → Int32)} {f28 : (Nat → Int32)} {f29 : (Nat → Int32)} {f30 : (Nat → Int32)} {f31 : (Nat → Int32)} {f32 : (Nat → Int32)} {f33 : (Nat → Int32)} {f34 : (Nat → Int32)} {f35 : (Nat → Int32)} {f36 : (Nat → Int32)} {f37 : (Nat → Int32)} {f38 : (Nat → Int32)} {f39 : (Nat → Int32)} {f40 : (Nat → Int32)} {f43 : (Nat → Int32)} {o : Int32} {H : Heap} {locs : List Loc} {ls : Array Slot} (hf : q_X5_isIn N v1 v2 x4 x5 x7 x9 x10 f8 = some o) (hP : va_P (dC, dI) vwCl (wX5 cI cZ cJ cA h0 a x1 x3 x4 x5 x6 x7 x9 x10 x14 x15 x16 x19 x20 x21 x22 x23 x24 x41 x42 f0 f2 f8 f11 f12 f13 f17 f18 f25 f26 f27 f28 f29 f30 f31 f32 f33 f34 f35 f36 f37 f38 f39 f40 f43) H) (hD : va_D A (wX5 cI cZ cJ cA h0 a x1 x3 x4 x5 x6 x7 x9 x10 x14 x15 x16 x19 x20 x21 x22 x23 x24 x41 x42 f0 f2 f8 f11 f12 f13 f17 f18 f25 f26 f27 f28 f29 f30 f31 f32 f33 f34 f35 f36 f37 f38 f39 f40 f43)) (hS : va_S A s.heap H locs) (hl : lv_has ls 4 [(0, .ref h0), (1, .int v1), (2, .int v2)])
    (hret : ∀ (pc : Nat) (H : Heap) (locs : List Loc) (ls : Array Slot) (r : Int32), decode cX5_isIn pc = .ok (.ireturn, 1) → r = o → narrow .boolean (.int r) = .int r → va_P (dC, dI) vwCl (wX5 cI cZ cJ cA h0 a x1 x3 x4 x5 x6 x7 x9 x10 x14 x15 x16 x19 x20 x21 x22 x23 x24 x41 x42 f0 f2 f8 f11 f12 f13 f17 f18 f25 f26 f27 f28 f29 f30 f31 f32 f33 f34 f35 f36 f37 f38 f39 f40 f43) H → va_D A (wX5 cI cZ cJ cA h0 a x1 x3 x4 x5 x6 x7 x9 x10 x14 x15 x16 x19 x20 x21 x22 x23 x24 x41 x42 f0 f2 f8 f11 f12 f13 f17 f18 f25 f26 f27 f28 f29 f30 f31 f32 f33 f34 f35 f36 f37 f38 f39 f40 f43) → va_S A s.heap H locs → W p l e R s m args below meth c H locs 0 0 Q (F0 m pc ls [.int r])) :
    W p l e R s m args below meth c H locs 0 0 Q (F0 m 0 ls []) := by
  obtain ⟨⟨hx, hb, hml, hown, hts⟩, hRf, hRl, hA, hN, hK⟩ := C0
  unfold q_X5_isIn at hf
  refine lv_aload_n hx hb dX5_isIn_0 rfl (lv_at hl 0 rfl) ?_
  refine va_get (D := (dC, dI)) (ci := 5) (v := .int x4) (C := RX5) (T := TX5) (N := 44) hx hb hts (fun w hw => List.mem_cons_of_mem _ (List.mem_append_right _ hw)) hown hK hP 0 rfl rfl 4 (by decide) (hts (.fieldLink RX5 116 "OldStadiumModel" "goes" "Z") (List.mem_of_getElem? (i := 1) rfl)) (fun _ h9 => h9) rfl dX5_isIn_1 ?_
  refine lv_if_eq (tgt := 15) hx hb dX5_isIn_4 (by decide) (fun c1 => ?_) (fun c1 => ?_)
  · replace hf := z_ip hf c1
    refine lv_iconst (v := 0) hx hb dX5_isIn_15 (by decide) ?_
    obtain rfl := Option.some.inj hf
    exact hret _ _ _ _ _ dX5_isIn_16 rfl rfl hP hD hS
  · replace hf := z_im hf c1
    refine lv_aload_n hx hb dX5_isIn_7 rfl (lv_at hl 0 rfl) ?_
    refine lv_iload_n hx hb dX5_isIn_8 rfl (lv_at hl 1 rfl) ?_
    obtain ⟨o2, ho2, hf1⟩ := z_ib hf
    replace hf := hf1
    clear hf1
    refine z_Vi (As := [.int v1]) (rest := []) (w := (wX5 cI cZ cJ cA h0 a x1 x3 x4 x5 x6 x7 x9 x10 x14 x15 x16 x19 x20 x21 x22 x23 x24 x41 x42 f0 f2 f8 f11 f12 f13 f17 f18 f25 f26 f27 f28 f29 f30 f31 f32 f33 f34 f35 f36 f37 f38 f39 f40 f43)) (w1 := (wX5 cI cZ cJ cA h0 a x1 x3 x4 x5 x6 x7 x9 x10 x14 x15 x16 x19 x20 x21 x22 x23 x24 x41 x42 f0 f2 f8 f11 f12 f13 f17 f18 f25 f26 f27 f28 f29 f30 f31 f32 f33 f34 f35 f36 f37 f38 f39 f40 f43)) ⟨hx, hb, hml, hown, hts⟩ (k_X5_isHeat l dC dI cI cZ cJ cA h0 a H.size N v1 x1 x3 x4 x5 x6 x7 x9 x10 x14 x15 x16 x19 x20 x21 x22 x23 x24 x41 x42 f0 f2 f8 f11 f12 f13 f17 f18 f25 f26 f27 f28 f29 f30 f31 f32 f33 f34 f35 f36 f37 f38 f39 f40 f43 o2 ho2) (cwV 1 hts gX5_isIn_X5_isHeat rfl rfl rfl (by decide +kernel) ⟨Nat.le_trans (Nat.le_of_ble_eq_true rfl) hRf, Nat.le_trans (Nat.le_of_ble_eq_true rfl) hRl⟩) hK hP hD hS hA hN (ci := 5) rfl rfl rfl rfl hl.1 rfl (Nat.le_of_ble_eq_true rfl) dX5_isIn_9 (fun H locs hP hD hS => ?_)
    refine lv_if_ne (tgt := 17) hx hb dX5_isIn_12 (by decide) (fun c3 => ?_) (fun c3 => ?_)
    · replace hf := z_im hf c3
      refine lv_iconst (v := 0) hx hb dX5_isIn_17 (by decide) ?_
      refine lv_istore_n (lv' := [(3, .int 0), (0, .ref h0), (1, .int v1), (2, .int v2)]) hx hb dX5_isIn_18 rfl hl (by decide) rfl (fun ls hl => ?_)
      obtain ⟨t4, ht4, hf1⟩ := z_ib hf
      replace hf := hf1
      clear hf1
      refine b_X5_isIn_L19 N ⟨⟨hx, hb, hml, hown, hts⟩, hRf, hRl, hA, hN, hK⟩ N ht4 hP hD hS (lv_sub hl [1, 2, 3, 0] rfl) (fun r6 e1 pc H locs ls r0 hd hr hn hP hD hS => ?_) (fun s5 H locs ls e1 hP hD hS hl => ?_)
      · subst e1
        have hf := z_sl hf
        obtain rfl := Option.some.inj hf
        exact hret pc H locs ls r0 hd hr hn hP hD hS
      subst e1
      replace hf := z_sr hf
      refine lv_iconst (v := 0) hx hb dX5_isIn_53 (by decide) ?_
      obtain rfl := Option.some.inj hf
      exact hret _ _ _ _ _ dX5_isIn_54 rfl rfl hP hD hS
    · replace hf := z_ip hf c3
      refine lv_iconst (v := 0) hx hb dX5_isIn_15 (by decide) ?_
      obtain rfl := Option.some.inj hf
      exact hret _ _ _ _ _ dX5_isIn_16 rfl rfl hP hD hS
set_option maxHeartbeats 4000000 in
set_option maxRecDepth 100000 in
theorem k_X5_isIn (l : Launch) (dC : Nat → ClassId) (dI : Nat → Nat → Nat) (cI cZ cJ cA : ClassId) (h0 : Nat) (a : Nat → Nat) (sz : Nat) (N : Nat) (v1 : Int32) (v2 : Int32) (x1 : Int32) (x3 : Int32) (x4 : Int32) (x5 : Int32) (x6 : Int32) (x7 : Int32) (x9 : Int32) (x10 : Int32) (x14 : Int32) (x15 : Int32) (x16 : Int32) (x19 : Int32) (x20 : Int32) (x21 : Int32) (x22 : Int32) (x23 : Int32) (x24 : Int32) (x41 : Int32) (x42 : Int32) (f0 : (Nat → Int32)) (f2 : (Nat → Int32)) (f8 : (Nat → Int32)) (f11 : (Nat → Int32)) (f12 : (Nat → Int32)) (f13 : (Nat → Int32)) (f17 : (Nat → Int32)) (f18 : (Nat → Int32)) (f25 : (Nat → Int32)) (f26 : (Nat → Int32)) (f27 : (Nat → Int32)) (f28 : (Nat → Int32)) (f29 : (Nat → Int32)) (f30 : (Nat → Int32)) (f31 : (Nat → Int32)) (f32 : (Nat → Int32)) (f33 : (Nat → Int32)) (f34 : (Nat → Int32)) (f35 : (Nat → Int32)) (f36 : (Nat → Int32)) (f37 : (Nat → Int32)) (f38 : (Nat → Int32)) (f39 : (Nat → Int32)) (f40 : (Nat → Int32)) (f43 : (Nat → Int32)) (o : Int32) (hf : q_X5_isIn N v1 v2 x4 x5 x7 x9 x10 f8 = some o) : Met l yX5_isIn wsX5_isIn ({ frames := 2, cells := 0, slots := 0, locals := 43 } : Room) (z_Pre dC dI (z_ty cI cZ cJ cA) [.ref h0, .int v1, .int v2] sz (wX5 cI cZ cJ cA h0 a x1 x3 x4 x5 x6 x7 x9 x10 x14 x15 x16 x19 x20 x21 x22 x23 x24 x41 x42 f0 f2 f8 f11 f12 f13 f17 f18 f25 f26 f27 f28 f29 f30 f31 f32 f33 f34 f35 f36 f37 f38 f39 f40 f43)) (z_Pi dC dI o (wX5 cI cZ cJ cA h0 a x1 x3 x4 x5 x6 x7 x9 x10 x14 x15 x16 x19 x20 x21 x22 x23 x24 x41 x42 f0 f2 f8 f11 f12 f13 f17 f18 f25 f26 f27 f28 f29 f30 f31 f32 f33 f34 f35 f36 f37 f38 f39 f40 f43) sz (wX5 cI cZ cJ cA h0 a x1 x3 x4 x5 x6 x7 x9 x10 x14 x15 x16 x19 x20 x21 x22 x23 x24 x41 x42 f0 f2 f8 f11 f12 f13 f17 f18 f25 f26 f27 f28 f29 f30 f31 f32 f33 f34 f35 f36 f37 f38 f39 f40 f43)) 0 0 (va_A (wX5 cI cZ cJ cA h0 a x1 x3 x4 x5 x6 x7 x9 x10 x14 x15 x16 x19 x20 x21 x22 x23 x24 x41 x42 f0 f2 f8 f11 f12 f13 f17 f18 f25 f26 f27 f28 f29 f30 f31 f32 f33 f34 f35 f36 f37 f38 f39 f40 f43) sz) := by
  refine Met.ofW (cc := cX5_isIn) (maxL := 4) (ret := (some .boolean)) (by decide) rfl ?_
  intro p e s m args below meth c s₁ B hml hv
  obtain ⟨rfl, hsz, hP, hK, hD0, hN⟩ := hv
  subst hsz
  have hl := lv_entry ([.ref h0, .int v1, .int v2]) (n := 4) (Nat.le_of_ble_eq_true rfl)
  rw [lg_entry_eq]
  refine b_X5_isIn N ⟨⟨B.exec, B.bytes, hml, findClass_of_methodNamed B.named, atoms_spec (ws := wsX5_isIn) B.pre⟩, Nat.le_refl _, Nat.le_refl _, fun q h => Or.inr h, hN, hK⟩ hf hP hD0.self va_S.rf hl (fun pc H locs ls r hd hr hn hP hD hS => ?_)
  subst hr
  exact W.zret B.exec B.bytes B.returns hn (fun t ht hW => ⟨⟨_, (), rfl, rfl, by rw [ht]; exact hP, hD⟩, hS.F ht⟩) hS.2.2 hd
def q_X5_winner (N : Nat) (v1 : Int32) (v2 : Int32) (x4 : Int32) (x5 : Int32) (x7 : Int32) (x9 : Int32) (x10 : Int32) (f8 : (Nat → Int32)) (f12 : (Nat → Int32)) : Option (Int32 × (Nat → Int32)) :=
  (Option.bind (q_X5_isIn N v1 v2 x4 x5 x7 x9 x10 f8) (fun o1 =>
  (if o1 = 0 then
   (some (0, f12))
  else
   (if z_in v1 24 then
   (some (1, (upd f12 (Int32.toNatClampNeg v1) v2)))
   else none))))
set_option maxHeartbeats 4000000 in
set_option maxRecDepth 100000 in
theorem b_X5_winner {p : Program} {l : Launch} {e : Env} {R : Room} {s : State} {m : MethodId} {args : Array Value} {below : List Frame} {meth : Method} {c : Code} {Q : State → Prop} {A : Nat → Prop} {dC : Nat → ClassId} {dI : Nat → Nat → Nat} {cI cZ cJ cA : ClassId} {h0 : Nat} {a : Nat → Nat} (N : Nat) (C0 : z_Cx p s m args c cX5_winner 3 wsX5_winner RX5 R 3 66 A dC dI (z_ty cI cZ cJ cA)) {v1 : Int32} {v2 : Int32} {x1 : Int32} {x3 : Int32} {x4 : Int32} {x5 : Int32} {x6 : Int32} {x7 : Int32} {x9 : Int32} {x10 : Int32} {x14 : Int32} {x15 : Int32} {x16 : Int32} {x19 : Int32} {x20 : Int32} {x21 : Int32} {x22 : Int32} {x23 : Int32} {x24 : Int32} {x41 : Int32} {x42 : Int32} {f0 : (Nat → Int32)} {f2 : (Nat → Int32)} {f8 : (Nat → Int32)} {f11 : (Nat → Int32)} {f12 : (Nat → Int32)} {f13 : (Nat → Int32)} {f17 : (Nat → Int32)} {f18 : (Nat → Int32)} {f25 : (Nat → Int32)} {f26 : (Nat → Int32)} {f27 : (Nat → Int32)} {f28 : (Nat → Int32)} {f29 : (Nat → Int32)} {f30 : (Nat → Int32)} {f31 : (Nat → Int32)} {f32 : (Nat → Int32)} {f33 : (Nat → Int32)} {f34 : (Nat → Int32)} {f35 : (Nat → Int32)} {f36 : (Nat → Int32)} {f37 : (Nat → Int32)} {f38 : (Nat → Int32)} {f39 : (Nat → Int32)} {f40 : (Nat → Int32)} {f43 : (Nat → Int32)} {o : (Int32 × (Nat → Int32))} {H : Heap} {locs : List Loc} {ls : Array Slot} (hf : q_X5_winner N v1 v2 x4 x5 x7 x9 x10 f8 f12 = some o) (hP : va_P (dC, dI) vwCl (wX5 cI cZ cJ cA h0 a x1 x3 x4 x5 x6 x7 x9 x10 x14 x15 x16 x19 x20 x21 x22 x23 x24 x41 x42 f0 f2 f8 f11 f12 f13 f17 f18 f25 f26 f27 f28 f29 f30 f31 f32 f33 f34 f35 f36 f37 f38 f39 f40 f43) H) (hD : va_D A (wX5 cI cZ cJ cA h0 a x1 x3 x4 x5 x6 x7 x9 x10 x14 x15 x16 x19 x20 x21 x22 x23 x24 x41 x42 f0 f2 f8 f11 f12 f13 f17 f18 f25 f26 f27 f28 f29 f30 f31 f32 f33 f34 f35 f36 f37 f38 f39 f40 f43)) (hS : va_S A s.heap H locs) (hl : lv_has ls 3 [(0, .ref h0), (1, .int v1), (2, .int v2)])
    (hret : ∀ (pc : Nat) (H : Heap) (locs : List Loc) (ls : Array Slot) (r : Int32), decode cX5_winner pc = .ok (.ireturn, 1) → r = o.1 → narrow .boolean (.int r) = .int r → va_P (dC, dI) vwCl (wX5 cI cZ cJ cA h0 a x1 x3 x4 x5 x6 x7 x9 x10 x14 x15 x16 x19 x20 x21 x22 x23 x24 x41 x42 f0 f2 f8 f11 o.2 f13 f17 f18 f25 f26 f27 f28 f29 f30 f31 f32 f33 f34 f35 f36 f37 f38 f39 f40 f43) H → va_D A (wX5 cI cZ cJ cA h0 a x1 x3 x4 x5 x6 x7 x9 x10 x14 x15 x16 x19 x20 x21 x22 x23 x24 x41 x42 f0 f2 f8 f11 o.2 f13 f17 f18 f25 f26 f27 f28 f29 f30 f31 f32 f33 f34 f35 f36 f37 f38 f39 f40 f43) → va_S A s.heap H locs → W p l e R s m args below meth c H locs 0 0 Q (F0 m pc ls [.int r])) :
    W p l e R s m args below meth c H locs 0 0 Q (F0 m 0 ls []) := by
  obtain ⟨⟨hx, hb, hml, hown, hts⟩, hRf, hRl, hA, hN, hK⟩ := C0
  unfold q_X5_winner at hf
  refine lv_aload_n hx hb dX5_winner_0 rfl (lv_at hl 0 rfl) ?_
  refine lv_iload_n hx hb dX5_winner_1 rfl (lv_at hl 1 rfl) ?_
  refine lv_iload_n hx hb dX5_winner_2 rfl (lv_at hl 2 rfl) ?_
  obtain ⟨o1, ho1, hf1⟩ := z_ib hf
  replace hf := hf1
  clear hf1
  refine z_Vi (As := [.int v1, .int v2]) (rest := []) (w := (wX5 cI cZ cJ cA h0 a x1 x3 x4 x5 x6 x7 x9 x10 x14 x15 x16 x19 x20 x21 x22 x23 x24 x41 x42 f0 f2 f8 f11 f12 f13 f17 f18 f25 f26 f27 f28 f29 f30 f31 f32 f33 f34 f35 f36 f37 f38 f39 f40 f43)) (w1 := (wX5 cI cZ cJ cA h0 a x1 x3 x4 x5 x6 x7 x9 x10 x14 x15 x16 x19 x20 x21 x22 x23 x24 x41 x42 f0 f2 f8 f11 f12 f13 f17 f18 f25 f26 f27 f28 f29 f30 f31 f32 f33 f34 f35 f36 f37 f38 f39 f40 f43)) ⟨hx, hb, hml, hown, hts⟩ (k_X5_isIn l dC dI cI cZ cJ cA h0 a H.size N v1 v2 x1 x3 x4 x5 x6 x7 x9 x10 x14 x15 x16 x19 x20 x21 x22 x23 x24 x41 x42 f0 f2 f8 f11 f12 f13 f17 f18 f25 f26 f27 f28 f29 f30 f31 f32 f33 f34 f35 f36 f37 f38 f39 f40 f43 o1 ho1) (cwV 2 hts gX5_winner_X5_isIn rfl rfl rfl (by decide +kernel) ⟨Nat.le_trans (Nat.le_of_ble_eq_true rfl) hRf, Nat.le_trans (Nat.le_of_ble_eq_true rfl) hRl⟩) hK hP hD hS hA hN (ci := 5) rfl rfl rfl rfl hl.1 rfl (Nat.le_of_ble_eq_true rfl) dX5_winner_3 (fun H locs hP hD hS => ?_)
  refine lv_if_ne (tgt := 11) hx hb dX5_winner_6 (by decide) (fun c2 => ?_) (fun c2 => ?_)
  · replace hf := z_im hf c2
    refine lv_aload_n hx hb dX5_winner_11 rfl (lv_at hl 0 rfl) ?_
    refine va_get (D := (dC, dI)) (ci := 5) (v := .ref (a 12)) (C := RX5) (T := TX5) (N := 44) hx hb hts (fun w hw => List.mem_cons_of_mem _ (List.mem_append_right _ hw)) hown hK hP 0 rfl rfl 12 (by decide) (hts (.fieldLink RX5 27 "OldStadiumModel" "won" "[I") (List.mem_of_getElem? (i := 1) rfl)) (fun _ h9 => h9) rfl dX5_winner_12 ?_
    refine lv_iload_n hx hb dX5_winner_15 rfl (lv_at hl 1 rfl) ?_
    refine lv_iload_n hx hb dX5_winner_16 rfl (lv_at hl 2 rfl) ?_
    have b3 := z_c1 hf
    replace hf := z_c2 hf
    refine va_iast hx hb hK hP hD hS 5 0 rfl rfl b3 dX5_winner_17 (fun H locs hP hD hS => ?_)
    replace hP : va_P (dC, dI) vwCl (wX5 cI cZ cJ cA h0 a x1 x3 x4 x5 x6 x7 x9 x10 x14 x15 x16 x19 x20 x21 x22 x23 x24 x41 x42 f0 f2 f8 f11 (upd f12 (Int32.toNatClampNeg v1) v2) f13 f17 f18 f25 f26 f27 f28 f29 f30 f31 f32 f33 f34 f35 f36 f37 f38 f39 f40 f43) H := hP
    replace hD : va_D A (wX5 cI cZ cJ cA h0 a x1 x3 x4 x5 x6 x7 x9 x10 x14 x15 x16 x19 x20 x21 x22 x23 x24 x41 x42 f0 f2 f8 f11 (upd f12 (Int32.toNatClampNeg v1) v2) f13 f17 f18 f25 f26 f27 f28 f29 f30 f31 f32 f33 f34 f35 f36 f37 f38 f39 f40 f43) := hD
    refine lv_iconst (v := 1) hx hb dX5_winner_18 (by decide) ?_
    obtain rfl := Option.some.inj hf
    exact hret _ _ _ _ _ dX5_winner_19 rfl rfl hP hD hS
  · replace hf := z_ip hf c2
    refine lv_iconst (v := 0) hx hb dX5_winner_9 (by decide) ?_
    obtain rfl := Option.some.inj hf
    exact hret _ _ _ _ _ dX5_winner_10 rfl rfl hP hD hS
set_option maxHeartbeats 4000000 in
set_option maxRecDepth 100000 in
theorem k_X5_winner (l : Launch) (dC : Nat → ClassId) (dI : Nat → Nat → Nat) (cI cZ cJ cA : ClassId) (h0 : Nat) (a : Nat → Nat) (sz : Nat) (N : Nat) (v1 : Int32) (v2 : Int32) (x1 : Int32) (x3 : Int32) (x4 : Int32) (x5 : Int32) (x6 : Int32) (x7 : Int32) (x9 : Int32) (x10 : Int32) (x14 : Int32) (x15 : Int32) (x16 : Int32) (x19 : Int32) (x20 : Int32) (x21 : Int32) (x22 : Int32) (x23 : Int32) (x24 : Int32) (x41 : Int32) (x42 : Int32) (f0 : (Nat → Int32)) (f2 : (Nat → Int32)) (f8 : (Nat → Int32)) (f11 : (Nat → Int32)) (f12 : (Nat → Int32)) (f13 : (Nat → Int32)) (f17 : (Nat → Int32)) (f18 : (Nat → Int32)) (f25 : (Nat → Int32)) (f26 : (Nat → Int32)) (f27 : (Nat → Int32)) (f28 : (Nat → Int32)) (f29 : (Nat → Int32)) (f30 : (Nat → Int32)) (f31 : (Nat → Int32)) (f32 : (Nat → Int32)) (f33 : (Nat → Int32)) (f34 : (Nat → Int32)) (f35 : (Nat → Int32)) (f36 : (Nat → Int32)) (f37 : (Nat → Int32)) (f38 : (Nat → Int32)) (f39 : (Nat → Int32)) (f40 : (Nat → Int32)) (f43 : (Nat → Int32)) (o : (Int32 × (Nat → Int32))) (hf : q_X5_winner N v1 v2 x4 x5 x7 x9 x10 f8 f12 = some o) : Met l yX5_winner wsX5_winner ({ frames := 3, cells := 0, slots := 0, locals := 66 } : Room) (z_Pre dC dI (z_ty cI cZ cJ cA) [.ref h0, .int v1, .int v2] sz (wX5 cI cZ cJ cA h0 a x1 x3 x4 x5 x6 x7 x9 x10 x14 x15 x16 x19 x20 x21 x22 x23 x24 x41 x42 f0 f2 f8 f11 f12 f13 f17 f18 f25 f26 f27 f28 f29 f30 f31 f32 f33 f34 f35 f36 f37 f38 f39 f40 f43)) (z_Pi dC dI o.1 (wX5 cI cZ cJ cA h0 a x1 x3 x4 x5 x6 x7 x9 x10 x14 x15 x16 x19 x20 x21 x22 x23 x24 x41 x42 f0 f2 f8 f11 o.2 f13 f17 f18 f25 f26 f27 f28 f29 f30 f31 f32 f33 f34 f35 f36 f37 f38 f39 f40 f43) sz (wX5 cI cZ cJ cA h0 a x1 x3 x4 x5 x6 x7 x9 x10 x14 x15 x16 x19 x20 x21 x22 x23 x24 x41 x42 f0 f2 f8 f11 f12 f13 f17 f18 f25 f26 f27 f28 f29 f30 f31 f32 f33 f34 f35 f36 f37 f38 f39 f40 f43)) 0 0 (va_A (wX5 cI cZ cJ cA h0 a x1 x3 x4 x5 x6 x7 x9 x10 x14 x15 x16 x19 x20 x21 x22 x23 x24 x41 x42 f0 f2 f8 f11 f12 f13 f17 f18 f25 f26 f27 f28 f29 f30 f31 f32 f33 f34 f35 f36 f37 f38 f39 f40 f43) sz) := by
  refine Met.ofW (cc := cX5_winner) (maxL := 3) (ret := (some .boolean)) (by decide) rfl ?_
  intro p e s m args below meth c s₁ B hml hv
  obtain ⟨rfl, hsz, hP, hK, hD0, hN⟩ := hv
  subst hsz
  have hl := lv_entry ([.ref h0, .int v1, .int v2]) (n := 3) (Nat.le_of_ble_eq_true rfl)
  rw [lg_entry_eq]
  refine b_X5_winner N ⟨⟨B.exec, B.bytes, hml, findClass_of_methodNamed B.named, atoms_spec (ws := wsX5_winner) B.pre⟩, Nat.le_refl _, Nat.le_refl _, fun q h => Or.inr h, hN, hK⟩ hf hP hD0.self va_S.rf hl (fun pc H locs ls r hd hr hn hP hD hS => ?_)
  subst hr
  exact W.zret B.exec B.bytes B.returns hn (fun t ht hW => ⟨⟨_, (), rfl, rfl, by rw [ht]; exact hP, hD⟩, hS.F ht⟩) hS.2.2 hd
def q_X5_vote (N : Nat) (v1 : Int32) (v2 : Int32) (v3 : Int32) (x3 : Int32) (x4 : Int32) (x5 : Int32) (x7 : Int32) (x9 : Int32) (x10 : Int32) (f8 : (Nat → Int32)) (f13 : (Nat → Int32)) : Option (Int32 × (Nat → Int32)) :=
  (Option.bind (q_X5_in N v1 0 (x3 - 1)) (fun o1 =>
  (if o1 = 0 then
   (some (0, f13))
  else
   (Option.bind (q_X5_isIn N v2 v3 x4 x5 x7 x9 x10 f8) (fun o3 =>
   (if o3 = 0 then
    (some (0, f13))
   else
    (if z_in ((24 * v1) + v2) 216 then
    (some (1, (upd f13 (Int32.toNatClampNeg ((24 * v1) + v2)) v3)))
    else none)))))))
set_option maxHeartbeats 4000000 in
set_option maxRecDepth 100000 in
theorem b_X5_vote {p : Program} {l : Launch} {e : Env} {R : Room} {s : State} {m : MethodId} {args : Array Value} {below : List Frame} {meth : Method} {c : Code} {Q : State → Prop} {A : Nat → Prop} {dC : Nat → ClassId} {dI : Nat → Nat → Nat} {cI cZ cJ cA : ClassId} {h0 : Nat} {a : Nat → Nat} (N : Nat) (C0 : z_Cx p s m args c cX5_vote 4 wsX5_vote RX5 R 3 66 A dC dI (z_ty cI cZ cJ cA)) {v1 : Int32} {v2 : Int32} {v3 : Int32} {x1 : Int32} {x3 : Int32} {x4 : Int32} {x5 : Int32} {x6 : Int32} {x7 : Int32} {x9 : Int32} {x10 : Int32} {x14 : Int32} {x15 : Int32} {x16 : Int32} {x19 : Int32} {x20 : Int32} {x21 : Int32} {x22 : Int32} {x23 : Int32} {x24 : Int32} {x41 : Int32} {x42 : Int32} {f0 : (Nat → Int32)} {f2 : (Nat → Int32)} {f8 : (Nat → Int32)} {f11 : (Nat → Int32)} {f12 : (Nat → Int32)} {f13 : (Nat → Int32)} {f17 : (Nat → Int32)} {f18 : (Nat → Int32)} {f25 : (Nat → Int32)} {f26 : (Nat → Int32)} {f27 : (Nat → Int32)} {f28 : (Nat → Int32)} {f29 : (Nat → Int32)} {f30 : (Nat → Int32)} {f31 : (Nat → Int32)} {f32 : (Nat → Int32)} {f33 : (Nat → Int32)} {f34 : (Nat → Int32)} {f35 : (Nat → Int32)} {f36 : (Nat → Int32)} {f37 : (Nat → Int32)} {f38 : (Nat → Int32)} {f39 : (Nat → Int32)} {f40 : (Nat → Int32)} {f43 : (Nat → Int32)} {o : (Int32 × (Nat → Int32))} {H : Heap} {locs : List Loc} {ls : Array Slot} (hf : q_X5_vote N v1 v2 v3 x3 x4 x5 x7 x9 x10 f8 f13 = some o) (hP : va_P (dC, dI) vwCl (wX5 cI cZ cJ cA h0 a x1 x3 x4 x5 x6 x7 x9 x10 x14 x15 x16 x19 x20 x21 x22 x23 x24 x41 x42 f0 f2 f8 f11 f12 f13 f17 f18 f25 f26 f27 f28 f29 f30 f31 f32 f33 f34 f35 f36 f37 f38 f39 f40 f43) H) (hD : va_D A (wX5 cI cZ cJ cA h0 a x1 x3 x4 x5 x6 x7 x9 x10 x14 x15 x16 x19 x20 x21 x22 x23 x24 x41 x42 f0 f2 f8 f11 f12 f13 f17 f18 f25 f26 f27 f28 f29 f30 f31 f32 f33 f34 f35 f36 f37 f38 f39 f40 f43)) (hS : va_S A s.heap H locs) (hl : lv_has ls 4 [(0, .ref h0), (1, .int v1), (2, .int v2), (3, .int v3)])
    (hret : ∀ (pc : Nat) (H : Heap) (locs : List Loc) (ls : Array Slot) (r : Int32), decode cX5_vote pc = .ok (.ireturn, 1) → r = o.1 → narrow .boolean (.int r) = .int r → va_P (dC, dI) vwCl (wX5 cI cZ cJ cA h0 a x1 x3 x4 x5 x6 x7 x9 x10 x14 x15 x16 x19 x20 x21 x22 x23 x24 x41 x42 f0 f2 f8 f11 f12 o.2 f17 f18 f25 f26 f27 f28 f29 f30 f31 f32 f33 f34 f35 f36 f37 f38 f39 f40 f43) H → va_D A (wX5 cI cZ cJ cA h0 a x1 x3 x4 x5 x6 x7 x9 x10 x14 x15 x16 x19 x20 x21 x22 x23 x24 x41 x42 f0 f2 f8 f11 f12 o.2 f17 f18 f25 f26 f27 f28 f29 f30 f31 f32 f33 f34 f35 f36 f37 f38 f39 f40 f43) → va_S A s.heap H locs → W p l e R s m args below meth c H locs 0 0 Q (F0 m pc ls [.int r])) :
    W p l e R s m args below meth c H locs 0 0 Q (F0 m 0 ls []) := by
  obtain ⟨⟨hx, hb, hml, hown, hts⟩, hRf, hRl, hA, hN, hK⟩ := C0
  unfold q_X5_vote at hf
  refine lv_iload_n hx hb dX5_vote_0 rfl (lv_at hl 1 rfl) ?_
  refine lv_iconst (v := 0) hx hb dX5_vote_1 (by decide) ?_
  refine lv_aload_n hx hb dX5_vote_2 rfl (lv_at hl 0 rfl) ?_
  refine va_get (D := (dC, dI)) (ci := 5) (v := .int x3) (C := RX5) (T := TX5) (N := 44) hx hb hts (fun w hw => List.mem_cons_of_mem _ (List.mem_append_right _ hw)) hown hK hP 0 rfl rfl 3 (by decide) (hts (.fieldLink RX5 103 "OldStadiumModel" "judges" "I") (List.mem_of_getElem? (i := 1) rfl)) (fun _ h9 => h9) rfl dX5_vote_3 ?_
  refine lv_iconst (v := 1) hx hb dX5_vote_6 (by decide) ?_
  refine lv_isub hx hb dX5_vote_7 ?_
  obtain ⟨o1, ho1, hf1⟩ := z_ib hf
  replace hf := hf1
  clear hf1
  refine z_S0 (As := [.int v1, .int 0, .int (x3 - 1)]) (rest := []) ⟨hx, hb, hml, hown, hts⟩ (k_X5_in l dC dI cI cZ cJ cA H.size N v1 0 (x3 - 1) o1 ho1) (va_cwS 3 hts gX5_vote_X5_in rfl rfl rfl (by decide +kernel) ⟨Nat.le_trans (Nat.le_of_ble_eq_true rfl) hRf, Nat.le_trans (Nat.le_of_ble_eq_true rfl) hRl⟩) hK hP hS hA hN rfl hl.1 rfl (Nat.le_of_ble_eq_true rfl) dX5_vote_8 (fun H locs hP hS => ?_)
  refine lv_if_eq (tgt := 23) hx hb dX5_vote_11 (by decide) (fun c2 => ?_) (fun c2 => ?_)
  · replace hf := z_ip hf c2
    refine lv_iconst (v := 0) hx hb dX5_vote_23 (by decide) ?_
    obtain rfl := Option.some.inj hf
    exact hret _ _ _ _ _ dX5_vote_24 rfl rfl hP hD hS
  · replace hf := z_im hf c2
    refine lv_aload_n hx hb dX5_vote_14 rfl (lv_at hl 0 rfl) ?_
    refine lv_iload_n hx hb dX5_vote_15 rfl (lv_at hl 2 rfl) ?_
    refine lv_iload_n hx hb dX5_vote_16 rfl (lv_at hl 3 rfl) ?_
    obtain ⟨o3, ho3, hf1⟩ := z_ib hf
    replace hf := hf1
    clear hf1
    refine z_Vi (As := [.int v2, .int v3]) (rest := []) (w := (wX5 cI cZ cJ cA h0 a x1 x3 x4 x5 x6 x7 x9 x10 x14 x15 x16 x19 x20 x21 x22 x23 x24 x41 x42 f0 f2 f8 f11 f12 f13 f17 f18 f25 f26 f27 f28 f29 f30 f31 f32 f33 f34 f35 f36 f37 f38 f39 f40 f43)) (w1 := (wX5 cI cZ cJ cA h0 a x1 x3 x4 x5 x6 x7 x9 x10 x14 x15 x16 x19 x20 x21 x22 x23 x24 x41 x42 f0 f2 f8 f11 f12 f13 f17 f18 f25 f26 f27 f28 f29 f30 f31 f32 f33 f34 f35 f36 f37 f38 f39 f40 f43)) ⟨hx, hb, hml, hown, hts⟩ (k_X5_isIn l dC dI cI cZ cJ cA h0 a H.size N v2 v3 x1 x3 x4 x5 x6 x7 x9 x10 x14 x15 x16 x19 x20 x21 x22 x23 x24 x41 x42 f0 f2 f8 f11 f12 f13 f17 f18 f25 f26 f27 f28 f29 f30 f31 f32 f33 f34 f35 f36 f37 f38 f39 f40 f43 o3 ho3) (cwV 2 hts gX5_vote_X5_isIn rfl rfl rfl (by decide +kernel) ⟨Nat.le_trans (Nat.le_of_ble_eq_true rfl) hRf, Nat.le_trans (Nat.le_of_ble_eq_true rfl) hRl⟩) hK hP hD hS hA hN (ci := 5) rfl rfl rfl rfl hl.1 rfl (Nat.le_of_ble_eq_true rfl) dX5_vote_17 (fun H locs hP hD hS => ?_)
    refine lv_if_ne (tgt := 25) hx hb dX5_vote_20 (by decide) (fun c4 => ?_) (fun c4 => ?_)
    · replace hf := z_im hf c4
      refine lv_aload_n hx hb dX5_vote_25 rfl (lv_at hl 0 rfl) ?_
      refine va_get (D := (dC, dI)) (ci := 5) (v := .ref (a 13)) (C := RX5) (T := TX5) (N := 44) hx hb hts (fun w hw => List.mem_cons_of_mem _ (List.mem_append_right _ hw)) hown hK hP 0 rfl rfl 13 (by decide) (hts (.fieldLink RX5 30 "OldStadiumModel" "votes" "[I") (List.mem_of_getElem? (i := 2) rfl)) (fun _ h9 => h9) rfl dX5_vote_26 ?_
      refine lv_bipush (v := 24) hx hb dX5_vote_29 (by decide) ?_
      refine lv_iload_n hx hb dX5_vote_31 rfl (lv_at hl 1 rfl) ?_
      refine lv_imul hx hb dX5_vote_32 ?_
      refine lv_iload_n hx hb dX5_vote_33 rfl (lv_at hl 2 rfl) ?_
      refine lv_iadd hx hb dX5_vote_34 ?_
      refine lv_iload_n hx hb dX5_vote_35 rfl (lv_at hl 3 rfl) ?_
      have b5 := z_c1 hf
      replace hf := z_c2 hf
      refine va_iast hx hb hK hP hD hS 6 0 rfl rfl b5 dX5_vote_36 (fun H locs hP hD hS => ?_)
      replace hP : va_P (dC, dI) vwCl (wX5 cI cZ cJ cA h0 a x1 x3 x4 x5 x6 x7 x9 x10 x14 x15 x16 x19 x20 x21 x22 x23 x24 x41 x42 f0 f2 f8 f11 f12 (upd f13 (Int32.toNatClampNeg ((24 * v1) + v2)) v3) f17 f18 f25 f26 f27 f28 f29 f30 f31 f32 f33 f34 f35 f36 f37 f38 f39 f40 f43) H := hP
      replace hD : va_D A (wX5 cI cZ cJ cA h0 a x1 x3 x4 x5 x6 x7 x9 x10 x14 x15 x16 x19 x20 x21 x22 x23 x24 x41 x42 f0 f2 f8 f11 f12 (upd f13 (Int32.toNatClampNeg ((24 * v1) + v2)) v3) f17 f18 f25 f26 f27 f28 f29 f30 f31 f32 f33 f34 f35 f36 f37 f38 f39 f40 f43) := hD
      refine lv_iconst (v := 1) hx hb dX5_vote_37 (by decide) ?_
      obtain rfl := Option.some.inj hf
      exact hret _ _ _ _ _ dX5_vote_38 rfl rfl hP hD hS
    · replace hf := z_ip hf c4
      refine lv_iconst (v := 0) hx hb dX5_vote_23 (by decide) ?_
      obtain rfl := Option.some.inj hf
      exact hret _ _ _ _ _ dX5_vote_24 rfl rfl hP hD hS
set_option maxHeartbeats 4000000 in
set_option maxRecDepth 100000 in
theorem k_X5_vote (l : Launch) (dC : Nat → ClassId) (dI : Nat → Nat → Nat) (cI cZ cJ cA : ClassId) (h0 : Nat) (a : Nat → Nat) (sz : Nat) (N : Nat) (v1 : Int32) (v2 : Int32) (v3 : Int32) (x1 : Int32) (x3 : Int32) (x4 : Int32) (x5 : Int32) (x6 : Int32) (x7 : Int32) (x9 : Int32) (x10 : Int32) (x14 : Int32) (x15 : Int32) (x16 : Int32) (x19 : Int32) (x20 : Int32) (x21 : Int32) (x22 : Int32) (x23 : Int32) (x24 : Int32) (x41 : Int32) (x42 : Int32) (f0 : (Nat → Int32)) (f2 : (Nat → Int32)) (f8 : (Nat → Int32)) (f11 : (Nat → Int32)) (f12 : (Nat → Int32)) (f13 : (Nat → Int32)) (f17 : (Nat → Int32)) (f18 : (Nat → Int32)) (f25 : (Nat → Int32)) (f26 : (Nat → Int32)) (f27 : (Nat → Int32)) (f28 : (Nat → Int32)) (f29 : (Nat → Int32)) (f30 : (Nat → Int32)) (f31 : (Nat → Int32)) (f32 : (Nat → Int32)) (f33 : (Nat → Int32)) (f34 : (Nat → Int32)) (f35 : (Nat → Int32)) (f36 : (Nat → Int32)) (f37 : (Nat → Int32)) (f38 : (Nat → Int32)) (f39 : (Nat → Int32)) (f40 : (Nat → Int32)) (f43 : (Nat → Int32)) (o : (Int32 × (Nat → Int32))) (hf : q_X5_vote N v1 v2 v3 x3 x4 x5 x7 x9 x10 f8 f13 = some o) : Met l yX5_vote wsX5_vote ({ frames := 3, cells := 0, slots := 0, locals := 66 } : Room) (z_Pre dC dI (z_ty cI cZ cJ cA) [.ref h0, .int v1, .int v2, .int v3] sz (wX5 cI cZ cJ cA h0 a x1 x3 x4 x5 x6 x7 x9 x10 x14 x15 x16 x19 x20 x21 x22 x23 x24 x41 x42 f0 f2 f8 f11 f12 f13 f17 f18 f25 f26 f27 f28 f29 f30 f31 f32 f33 f34 f35 f36 f37 f38 f39 f40 f43)) (z_Pi dC dI o.1 (wX5 cI cZ cJ cA h0 a x1 x3 x4 x5 x6 x7 x9 x10 x14 x15 x16 x19 x20 x21 x22 x23 x24 x41 x42 f0 f2 f8 f11 f12 o.2 f17 f18 f25 f26 f27 f28 f29 f30 f31 f32 f33 f34 f35 f36 f37 f38 f39 f40 f43) sz (wX5 cI cZ cJ cA h0 a x1 x3 x4 x5 x6 x7 x9 x10 x14 x15 x16 x19 x20 x21 x22 x23 x24 x41 x42 f0 f2 f8 f11 f12 f13 f17 f18 f25 f26 f27 f28 f29 f30 f31 f32 f33 f34 f35 f36 f37 f38 f39 f40 f43)) 0 0 (va_A (wX5 cI cZ cJ cA h0 a x1 x3 x4 x5 x6 x7 x9 x10 x14 x15 x16 x19 x20 x21 x22 x23 x24 x41 x42 f0 f2 f8 f11 f12 f13 f17 f18 f25 f26 f27 f28 f29 f30 f31 f32 f33 f34 f35 f36 f37 f38 f39 f40 f43) sz) := by
  refine Met.ofW (cc := cX5_vote) (maxL := 4) (ret := (some .boolean)) (by decide) rfl ?_
  intro p e s m args below meth c s₁ B hml hv
  obtain ⟨rfl, hsz, hP, hK, hD0, hN⟩ := hv
  subst hsz
  have hl := lv_entry ([.ref h0, .int v1, .int v2, .int v3]) (n := 4) (Nat.le_of_ble_eq_true rfl)
  rw [lg_entry_eq]
  refine b_X5_vote N ⟨⟨B.exec, B.bytes, hml, findClass_of_methodNamed B.named, atoms_spec (ws := wsX5_vote) B.pre⟩, Nat.le_refl _, Nat.le_refl _, fun q h => Or.inr h, hN, hK⟩ hf hP hD0.self va_S.rf hl (fun pc H locs ls r hd hr hn hP hD hS => ?_)
  subst hr
  exact W.zret B.exec B.bytes B.returns hn (fun t ht hW => ⟨⟨_, (), rfl, rfl, by rw [ht]; exact hP, hD⟩, hS.F ht⟩) hS.2.2 hd
def q_X5_counts_L2 (N : Nat) (v1 : Int32) (v2 : Int32) (x5 : Int32) (x9 : Int32) (x10 : Int32) (f0 : (Nat → Int32)) (f2 : (Nat → Int32)) (f8 : (Nat → Int32)) : Nat → Int32 → Option (Sum Int32 Unit)
  | 0, _ => none
  | n + 1, v3 =>
    (Option.bind (q_X5_inHeat N v2 x5 x9 x10) (fun o1 =>
    (if o1 ≤ v3 then
     (some (Sum.inr ()))
    else
     (if z_in ((v2 * x5) + v3) 24 then
     (if z_in (f8 (Int32.toNatClampNeg ((v2 * x5) + v3))) 24 then
     (if z_in v1 9 then
     (if (f0 (Int32.toNatClampNeg (f8 (Int32.toNatClampNeg ((v2 * x5) + v3))))) = (f2 (Int32.toNatClampNeg v1)) then
      (some (Sum.inl 0))
     else
      (q_X5_counts_L2 N v1 v2 x5 x9 x10 f0 f2 f8 n (v3 + 1)))
     else none)
     else none)
     else none))))
set_option maxHeartbeats 4000000 in
set_option maxRecDepth 100000 in
theorem b_X5_counts_L2 {p : Program} {l : Launch} {e : Env} {R : Room} {s : State} {m : MethodId} {args : Array Value} {below : List Frame} {meth : Method} {c : Code} {Q : State → Prop} {A : Nat → Prop} {dC : Nat → ClassId} {dI : Nat → Nat → Nat} {cI cZ cJ cA : ClassId} {h0 : Nat} {a : Nat → Nat} (N : Nat) (C0 : z_Cx p s m args c cX5_counts 4 wsX5_counts RX5 R 1 22 A dC dI (z_ty cI cZ cJ cA)) : ∀ (n : Nat) {v1 : Int32} {v2 : Int32} {v3 : Int32} {x1 : Int32} {x3 : Int32} {x4 : Int32} {x5 : Int32} {x6 : Int32} {x7 : Int32} {x9 : Int32} {x10 : Int32} {x14 : Int32} {x15 : Int32} {x16 : Int32} {x19 : Int32} {x20 : Int32} {x21 : Int32} {x22 : Int32} {x23 : Int32} {x24 : Int32} {x41 : Int32} {x42 : Int32} {f0 : (Nat → Int32)} {f2 : (Nat → Int32)} {f8 : (Nat → Int32)} {f11 : (Nat → Int32)} {f12 : (Nat → Int32)} {f13 : (Nat → Int32)} {f17 : (Nat → Int32)} {f18 : (Nat → Int32)} {f25 : (Nat → Int32)} {f26 : (Nat → Int32)} {f27 : (Nat → Int32)} {f28 : (Nat → Int32)} {f29 : (Nat → Int32)} {f30 : (Nat → Int32)} {f31 : (Nat → Int32)} {f32 : (Nat → Int32)} {f33 : (Nat → Int32)} {f34 : (Nat → Int32)} {f35 : (Nat → Int32)} {f36 : (Nat → Int32)} {f37 : (Nat → Int32)} {f38 : (Nat → Int32)} {f39 : (Nat → Int32)} {f40 : (Nat → Int32)} {f43 : (Nat → Int32)} {o : (Sum Int32 Unit)} {H : Heap} {locs : List Loc} {ls : Array Slot}, q_X5_counts_L2 N v1 v2 x5 x9 x10 f0 f2 f8 n v3 = some o → va_P (dC, dI) vwCl (wX5 cI cZ cJ cA h0 a x1 x3 x4 x5 x6 x7 x9 x10 x14 x15 x16 x19 x20 x21 x22 x23 x24 x41 x42 f0 f2 f8 f11 f12 f13 f17 f18 f25 f26 f27 f28 f29 f30 f31 f32 f33 f34 f35 f36 f37 f38 f39 f40 f43) H → va_D A (wX5 cI cZ cJ cA h0 a x1 x3 x4 x5 x6 x7 x9 x10 x14 x15 x16 x19 x20 x21 x22 x23 x24 x41 x42 f0 f2 f8 f11 f12 f13 f17 f18 f25 f26 f27 f28 f29 f30 f31 f32 f33 f34 f35 f36 f37 f38 f39 f40 f43) → va_S A s.heap H locs → lv_has ls 4 [(0, .ref h0), (1, .int v1), (2, .int v2), (3, .int v3)] →
    (∀ (t : Int32), o = Sum.inl t → ∀ (pc : Nat) (H : Heap) (locs : List Loc) (ls : Array Slot) (r : Int32), decode cX5_counts pc = .ok (.ireturn, 1) → r = t → narrow .boolean (.int r) = .int r → va_P (dC, dI) vwCl (wX5 cI cZ cJ cA h0 a x1 x3 x4 x5 x6 x7 x9 x10 x14 x15 x16 x19 x20 x21 x22 x23 x24 x41 x42 f0 f2 f8 f11 f12 f13 f17 f18 f25 f26 f27 f28 f29 f30 f31 f32 f33 f34 f35 f36 f37 f38 f39 f40 f43) H → va_D A (wX5 cI cZ cJ cA h0 a x1 x3 x4 x5 x6 x7 x9 x10 x14 x15 x16 x19 x20 x21 x22 x23 x24 x41 x42 f0 f2 f8 f11 f12 f13 f17 f18 f25 f26 f27 f28 f29 f30 f31 f32 f33 f34 f35 f36 f37 f38 f39 f40 f43) → va_S A s.heap H locs → W p l e R s m args below meth c H locs 0 0 Q (F0 m pc ls [.int r])) →
    (∀ (t : Unit) (H : Heap) (locs : List Loc) (ls : Array Slot), o = Sum.inr t → va_P (dC, dI) vwCl (wX5 cI cZ cJ cA h0 a x1 x3 x4 x5 x6 x7 x9 x10 x14 x15 x16 x19 x20 x21 x22 x23 x24 x41 x42 f0 f2 f8 f11 f12 f13 f17 f18 f25 f26 f27 f28 f29 f30 f31 f32 f33 f34 f35 f36 f37 f38 f39 f40 f43) H → va_D A (wX5 cI cZ cJ cA h0 a x1 x3 x4 x5 x6 x7 x9 x10 x14 x15 x16 x19 x20 x21 x22 x23 x24 x41 x42 f0 f2 f8 f11 f12 f13 f17 f18 f25 f26 f27 f28 f29 f30 f31 f32 f33 f34 f35 f36 f37 f38 f39 f40 f43) → va_S A s.heap H locs → lv_has ls 4 [(0, .ref h0), (1, .int v1), (2, .int v2)] → W p l e R s m args below meth c H locs 0 0 Q (F0 m 46 ls [])) →
    W p l e R s m args below meth c H locs 0 0 Q (F0 m 2 ls []) := by
  obtain ⟨⟨hx, hb, hml, hown, hts⟩, hRf, hRl, hA, hN, hK⟩ := C0
  intro n
  induction n with
  | zero =>
    intro v1 v2 v3 x1 x3 x4 x5 x6 x7 x9 x10 x14 x15 x16 x19 x20 x21 x22 x23 x24 x41 x42 f0 f2 f8 f11 f12 f13 f17 f18 f25 f26 f27 f28 f29 f30 f31 f32 f33 f34 f35 f36 f37 f38 f39 f40 f43 o H locs ls hf
    cases hf
  | succ n ih =>
    intro v1 v2 v3 x1 x3 x4 x5 x6 x7 x9 x10 x14 x15 x16 x19 x20 x21 x22 x23 x24 x41 x42 f0 f2 f8 f11 f12 f13 f17 f18 f25 f26 f27 f28 f29 f30 f31 f32 f33 f34 f35 f36 f37 f38 f39 f40 f43 o H locs ls hf hP hD hS hl hret hexit
    rw [q_X5_counts_L2] at hf
    refine lv_iload_n hx hb dX5_counts_2 rfl (lv_at hl 3 rfl) ?_
    refine lv_aload_n hx hb dX5_counts_3 rfl (lv_at hl 0 rfl) ?_
    refine lv_iload_n hx hb dX5_counts_4 rfl (lv_at hl 2 rfl) ?_
    obtain ⟨o1, ho1, hf1⟩ := z_ib hf
    replace hf := hf1
    clear hf1
    refine z_Vi (As := [.int v2]) (rest := [.int v3]) (w := (wX5 cI cZ cJ cA h0 a x1 x3 x4 x5 x6 x7 x9 x10 x14 x15 x16 x19 x20 x21 x22 x23 x24 x41 x42 f0 f2 f8 f11 f12 f13 f17 f18 f25 f26 f27 f28 f29 f30 f31 f32 f33 f34 f35 f36 f37 f38 f39 f40 f43)) (w1 := (wX5 cI cZ cJ cA h0 a x1 x3 x4 x5 x6 x7 x9 x10 x14 x15 x16 x19 x20 x21 x22 x23 x24 x41 x42 f0 f2 f8 f11 f12 f13 f17 f18 f25 f26 f27 f28 f29 f30 f31 f32 f33 f34 f35 f36 f37 f38 f39 f40 f43)) ⟨hx, hb, hml, hown, hts⟩ (k_X5_inHeat l dC dI cI cZ cJ cA h0 a H.size N v2 x1 x3 x4 x5 x6 x7 x9 x10 x14 x15 x16 x19 x20 x21 x22 x23 x24 x41 x42 f0 f2 f8 f11 f12 f13 f17 f18 f25 f26 f27 f28 f29 f30 f31 f32 f33 f34 f35 f36 f37 f38 f39 f40 f43 o1 ho1) (cwV 1 hts gX5_counts_X5_inHeat rfl rfl rfl (by decide +kernel) ⟨Nat.le_trans (Nat.le_of_ble_eq_true rfl) hRf, Nat.le_trans (Nat.le_of_ble_eq_true rfl) hRl⟩) hK hP hD hS hA hN (ci := 5) rfl rfl rfl rfl hl.1 rfl (Nat.le_of_ble_eq_true rfl) dX5_counts_5 (fun H locs hP hD hS => ?_)
    refine lv_icmp_ge (tgt := 46) hx hb dX5_counts_8 (by decide) (fun c2 => ?_) (fun c2 => ?_)
    · replace hf := z_ip hf c2
      obtain rfl := Option.some.inj hf
      exact hexit _ _ _ _ rfl hP hD hS (lv_sub hl [0, 1, 2] rfl)
    · replace hf := z_im hf c2
      refine lv_aload_n hx hb dX5_counts_11 rfl (lv_at hl 0 rfl) ?_
      refine va_get (D := (dC, dI)) (ci := 5) (v := .ref (a 0)) (C := RX5) (T := TX5) (N := 44) hx hb hts (fun w hw => List.mem_cons_of_mem _ (List.mem_append_right _ hw)) hown hK hP 0 rfl rfl 0 (by decide) (hts (.fieldLink RX5 9 "OldStadiumModel" "town" "[I") (List.mem_of_getElem? (i := 1) rfl)) (fun _ h9 => h9) rfl dX5_counts_12 ?_
      refine lv_aload_n hx hb dX5_counts_15 rfl (lv_at hl 0 rfl) ?_
      refine va_get (D := (dC, dI)) (ci := 5) (v := .ref (a 8)) (C := RX5) (T := TX5) (N := 44) hx hb hts (fun w hw => List.mem_cons_of_mem _ (List.mem_append_right _ hw)) hown hK hP 0 rfl rfl 8 (by decide) (hts (.fieldLink RX5 16 "OldStadiumModel" "row" "[I") (List.mem_of_getElem? (i := 2) rfl)) (fun _ h9 => h9) rfl dX5_counts_16 ?_
      refine lv_iload_n hx hb dX5_counts_19 rfl (lv_at hl 2 rfl) ?_
      refine lv_aload_n hx hb dX5_counts_20 rfl (lv_at hl 0 rfl) ?_
      refine va_get (D := (dC, dI)) (ci := 5) (v := .int x5) (C := RX5) (T := TX5) (N := 44) hx hb hts (fun w hw => List.mem_cons_of_mem _ (List.mem_append_right _ hw)) hown hK hP 0 rfl rfl 5 (by decide) (hts (.fieldLink RX5 109 "OldStadiumModel" "size" "I") (List.mem_of_getElem? (i := 3) rfl)) (fun _ h9 => h9) rfl dX5_counts_21 ?_
      refine lv_imul hx hb dX5_counts_24 ?_
      refine lv_iload_n hx hb dX5_counts_25 rfl (lv_at hl 3 rfl) ?_
      refine lv_iadd hx hb dX5_counts_26 ?_
      have b3 := z_c1 hf
      replace hf := z_c2 hf
      refine va_iald hx hb hK hP 3 0 rfl rfl b3 dX5_counts_27 ?_
      have b4 := z_c1 hf
      replace hf := z_c2 hf
      refine va_iald hx hb hK hP 1 0 rfl rfl b4 dX5_counts_28 ?_
      refine lv_aload_n hx hb dX5_counts_29 rfl (lv_at hl 0 rfl) ?_
      refine va_get (D := (dC, dI)) (ci := 5) (v := .ref (a 2)) (C := RX5) (T := TX5) (N := 44) hx hb hts (fun w hw => List.mem_cons_of_mem _ (List.mem_append_right _ hw)) hown hK hP 0 rfl rfl 2 (by decide) (hts (.fieldLink RX5 13 "OldStadiumModel" "judgeTown" "[I") (List.mem_of_getElem? (i := 4) rfl)) (fun _ h9 => h9) rfl dX5_counts_30 ?_
      refine lv_iload_n hx hb dX5_counts_33 rfl (lv_at hl 1 rfl) ?_
      have b5 := z_c1 hf
      replace hf := z_c2 hf
      refine va_iald hx hb hK hP 2 0 rfl rfl b5 dX5_counts_34 ?_
      refine lv_icmp_ne (tgt := 40) hx hb dX5_counts_35 (by decide) (fun c6 => ?_) (fun c6 => ?_)
      · replace hf := z_im hf c6
        refine lv_iinc (v := (v3 + 1)) (lv' := [(3, .int (v3 + 1)), (0, .ref h0), (1, .int v1), (2, .int v2)]) hx hb dX5_counts_40 hl (k := 3) rfl rfl (by decide) rfl (fun ls hl => ?_)
        refine lv_goto (tgt := 2) hx hb dX5_counts_43 (by decide) ?_
        exact ih hf hP hD hS (lv_sub hl [1, 2, 3, 0] rfl) hret hexit
      · replace hf := z_ip hf c6
        refine lv_iconst (v := 0) hx hb dX5_counts_38 (by decide) ?_
        obtain rfl := Option.some.inj hf
        exact hret _ rfl _ _ _ _ _ dX5_counts_39 rfl rfl hP hD hS
def q_X5_counts (N : Nat) (v1 : Int32) (v2 : Int32) (x5 : Int32) (x9 : Int32) (x10 : Int32) (f0 : (Nat → Int32)) (f2 : (Nat → Int32)) (f8 : (Nat → Int32)) (f13 : (Nat → Int32)) : Option Int32 :=
  (Option.bind (q_X5_counts_L2 N v1 v2 x5 x9 x10 f0 f2 f8 N 0) (Sum.elim (fun r3 => (some r3)) (fun s2 =>
  (if z_in ((24 * v1) + v2) 216 then
  (if (f13 (Int32.toNatClampNeg ((24 * v1) + v2))) = (-1) then
   (some 0)
  else
   (some 1))
  else none))))
set_option maxHeartbeats 4000000 in
set_option maxRecDepth 100000 in
theorem b_X5_counts {p : Program} {l : Launch} {e : Env} {R : Room} {s : State} {m : MethodId} {args : Array Value} {below : List Frame} {meth : Method} {c : Code} {Q : State → Prop} {A : Nat → Prop} {dC : Nat → ClassId} {dI : Nat → Nat → Nat} {cI cZ cJ cA : ClassId} {h0 : Nat} {a : Nat → Nat} (N : Nat) (C0 : z_Cx p s m args c cX5_counts 4 wsX5_counts RX5 R 1 22 A dC dI (z_ty cI cZ cJ cA)) {v1 : Int32} {v2 : Int32} {x1 : Int32} {x3 : Int32} {x4 : Int32} {x5 : Int32} {x6 : Int32} {x7 : Int32} {x9 : Int32} {x10 : Int32} {x14 : Int32} {x15 : Int32} {x16 : Int32} {x19 : Int32} {x20 : Int32} {x21 : Int32} {x22 : Int32} {x23 : Int32} {x24 : Int32} {x41 : Int32} {x42 : Int32} {f0 : (Nat → Int32)} {f2 : (Nat → Int32)} {f8 : (Nat → Int32)} {f11 : (Nat → Int32)} {f12 : (Nat → Int32)} {f13 : (Nat → Int32)} {f17 : (Nat → Int32)} {f18 : (Nat → Int32)} {f25 : (Nat → Int32)} {f26 : (Nat → Int32)} {f27 : (Nat → Int32)} {f28 : (Nat → Int32)} {f29 : (Nat → Int32)} {f30 : (Nat → Int32)} {f31 : (Nat → Int32)} {f32 : (Nat → Int32)} {f33 : (Nat → Int32)} {f34 : (Nat → Int32)} {f35 : (Nat → Int32)} {f36 : (Nat → Int32)} {f37 : (Nat → Int32)} {f38 : (Nat → Int32)} {f39 : (Nat → Int32)} {f40 : (Nat → Int32)} {f43 : (Nat → Int32)} {o : Int32} {H : Heap} {locs : List Loc} {ls : Array Slot} (hf : q_X5_counts N v1 v2 x5 x9 x10 f0 f2 f8 f13 = some o) (hP : va_P (dC, dI) vwCl (wX5 cI cZ cJ cA h0 a x1 x3 x4 x5 x6 x7 x9 x10 x14 x15 x16 x19 x20 x21 x22 x23 x24 x41 x42 f0 f2 f8 f11 f12 f13 f17 f18 f25 f26 f27 f28 f29 f30 f31 f32 f33 f34 f35 f36 f37 f38 f39 f40 f43) H) (hD : va_D A (wX5 cI cZ cJ cA h0 a x1 x3 x4 x5 x6 x7 x9 x10 x14 x15 x16 x19 x20 x21 x22 x23 x24 x41 x42 f0 f2 f8 f11 f12 f13 f17 f18 f25 f26 f27 f28 f29 f30 f31 f32 f33 f34 f35 f36 f37 f38 f39 f40 f43)) (hS : va_S A s.heap H locs) (hl : lv_has ls 4 [(0, .ref h0), (1, .int v1), (2, .int v2)])
    (hret : ∀ (pc : Nat) (H : Heap) (locs : List Loc) (ls : Array Slot) (r : Int32), decode cX5_counts pc = .ok (.ireturn, 1) → r = o → narrow .boolean (.int r) = .int r → va_P (dC, dI) vwCl (wX5 cI cZ cJ cA h0 a x1 x3 x4 x5 x6 x7 x9 x10 x14 x15 x16 x19 x20 x21 x22 x23 x24 x41 x42 f0 f2 f8 f11 f12 f13 f17 f18 f25 f26 f27 f28 f29 f30 f31 f32 f33 f34 f35 f36 f37 f38 f39 f40 f43) H → va_D A (wX5 cI cZ cJ cA h0 a x1 x3 x4 x5 x6 x7 x9 x10 x14 x15 x16 x19 x20 x21 x22 x23 x24 x41 x42 f0 f2 f8 f11 f12 f13 f17 f18 f25 f26 f27 f28 f29 f30 f31 f32 f33 f34 f35 f36 f37 f38 f39 f40 f43) → va_S A s.heap H locs → W p l e R s m args below meth c H locs 0 0 Q (F0 m pc ls [.int r])) :
    W p l e R s m args below meth c H locs 0 0 Q (F0 m 0 ls []) := by
  obtain ⟨⟨hx, hb, hml, hown, hts⟩, hRf, hRl, hA, hN, hK⟩ := C0
  unfold q_X5_counts at hf
  refine lv_iconst (v := 0) hx hb dX5_counts_0 (by decide) ?_
  refine lv_istore_n (lv' := [(3, .int 0), (0, .ref h0), (1, .int v1), (2, .int v2)]) hx hb dX5_counts_1 rfl hl (by decide) rfl (fun ls hl => ?_)
  obtain ⟨t1, ht1, hf1⟩ := z_ib hf
  replace hf := hf1
  clear hf1
  refine b_X5_counts_L2 N ⟨⟨hx, hb, hml, hown, hts⟩, hRf, hRl, hA, hN, hK⟩ N ht1 hP hD hS (lv_sub hl [1, 2, 3, 0] rfl) (fun r3 e1 pc H locs ls r0 hd hr hn hP hD hS => ?_) (fun s2 H locs ls e1 hP hD hS hl => ?_)
  · subst e1
    have hf := z_sl hf
    obtain rfl := Option.some.inj hf
    exact hret pc H locs ls r0 hd hr hn hP hD hS
  subst e1
  replace hf := z_sr hf
  refine lv_aload_n hx hb dX5_counts_46 rfl (lv_at hl 0 rfl) ?_
  refine va_get (D := (dC, dI)) (ci := 5) (v := .ref (a 13)) (C := RX5) (T := TX5) (N := 44) hx hb hts (fun w hw => List.mem_cons_of_mem _ (List.mem_append_right _ hw)) hown hK hP 0 rfl rfl 13 (by decide) (hts (.fieldLink RX5 30 "OldStadiumModel" "votes" "[I") (List.mem_of_getElem? (i := 5) rfl)) (fun _ h9 => h9) rfl dX5_counts_47 ?_
  refine lv_bipush (v := 24) hx hb dX5_counts_50 (by decide) ?_
  refine lv_iload_n hx hb dX5_counts_52 rfl (lv_at hl 1 rfl) ?_
  refine lv_imul hx hb dX5_counts_53 ?_
  refine lv_iload_n hx hb dX5_counts_54 rfl (lv_at hl 2 rfl) ?_
  refine lv_iadd hx hb dX5_counts_55 ?_
  have b4 := z_c1 hf
  replace hf := z_c2 hf
  refine va_iald hx hb hK hP 6 0 rfl rfl b4 dX5_counts_56 ?_
  refine lv_iconst (v := (-1)) hx hb dX5_counts_57 (by decide) ?_
  refine lv_icmp_eq (tgt := 65) hx hb dX5_counts_58 (by decide) (fun c5 => ?_) (fun c5 => ?_)
  · replace hf := z_ip hf c5
    refine lv_iconst (v := 0) hx hb dX5_counts_65 (by decide) ?_
    obtain rfl := Option.some.inj hf
    exact hret _ _ _ _ _ dX5_counts_66 rfl rfl hP hD hS
  · replace hf := z_im hf c5
    refine lv_iconst (v := 1) hx hb dX5_counts_61 (by decide) ?_
    refine lv_goto (tgt := 66) hx hb dX5_counts_62 (by decide) ?_
    obtain rfl := Option.some.inj hf
    exact hret _ _ _ _ _ dX5_counts_66 rfl rfl hP hD hS
set_option maxHeartbeats 4000000 in
set_option maxRecDepth 100000 in
theorem k_X5_counts (l : Launch) (dC : Nat → ClassId) (dI : Nat → Nat → Nat) (cI cZ cJ cA : ClassId) (h0 : Nat) (a : Nat → Nat) (sz : Nat) (N : Nat) (v1 : Int32) (v2 : Int32) (x1 : Int32) (x3 : Int32) (x4 : Int32) (x5 : Int32) (x6 : Int32) (x7 : Int32) (x9 : Int32) (x10 : Int32) (x14 : Int32) (x15 : Int32) (x16 : Int32) (x19 : Int32) (x20 : Int32) (x21 : Int32) (x22 : Int32) (x23 : Int32) (x24 : Int32) (x41 : Int32) (x42 : Int32) (f0 : (Nat → Int32)) (f2 : (Nat → Int32)) (f8 : (Nat → Int32)) (f11 : (Nat → Int32)) (f12 : (Nat → Int32)) (f13 : (Nat → Int32)) (f17 : (Nat → Int32)) (f18 : (Nat → Int32)) (f25 : (Nat → Int32)) (f26 : (Nat → Int32)) (f27 : (Nat → Int32)) (f28 : (Nat → Int32)) (f29 : (Nat → Int32)) (f30 : (Nat → Int32)) (f31 : (Nat → Int32)) (f32 : (Nat → Int32)) (f33 : (Nat → Int32)) (f34 : (Nat → Int32)) (f35 : (Nat → Int32)) (f36 : (Nat → Int32)) (f37 : (Nat → Int32)) (f38 : (Nat → Int32)) (f39 : (Nat → Int32)) (f40 : (Nat → Int32)) (f43 : (Nat → Int32)) (o : Int32) (hf : q_X5_counts N v1 v2 x5 x9 x10 f0 f2 f8 f13 = some o) : Met l yX5_counts wsX5_counts ({ frames := 1, cells := 0, slots := 0, locals := 22 } : Room) (z_Pre dC dI (z_ty cI cZ cJ cA) [.ref h0, .int v1, .int v2] sz (wX5 cI cZ cJ cA h0 a x1 x3 x4 x5 x6 x7 x9 x10 x14 x15 x16 x19 x20 x21 x22 x23 x24 x41 x42 f0 f2 f8 f11 f12 f13 f17 f18 f25 f26 f27 f28 f29 f30 f31 f32 f33 f34 f35 f36 f37 f38 f39 f40 f43)) (z_Pi dC dI o (wX5 cI cZ cJ cA h0 a x1 x3 x4 x5 x6 x7 x9 x10 x14 x15 x16 x19 x20 x21 x22 x23 x24 x41 x42 f0 f2 f8 f11 f12 f13 f17 f18 f25 f26 f27 f28 f29 f30 f31 f32 f33 f34 f35 f36 f37 f38 f39 f40 f43) sz (wX5 cI cZ cJ cA h0 a x1 x3 x4 x5 x6 x7 x9 x10 x14 x15 x16 x19 x20 x21 x22 x23 x24 x41 x42 f0 f2 f8 f11 f12 f13 f17 f18 f25 f26 f27 f28 f29 f30 f31 f32 f33 f34 f35 f36 f37 f38 f39 f40 f43)) 0 0 (va_A (wX5 cI cZ cJ cA h0 a x1 x3 x4 x5 x6 x7 x9 x10 x14 x15 x16 x19 x20 x21 x22 x23 x24 x41 x42 f0 f2 f8 f11 f12 f13 f17 f18 f25 f26 f27 f28 f29 f30 f31 f32 f33 f34 f35 f36 f37 f38 f39 f40 f43) sz) := by
  refine Met.ofW (cc := cX5_counts) (maxL := 4) (ret := (some .boolean)) (by decide) rfl ?_
  intro p e s m args below meth c s₁ B hml hv
  obtain ⟨rfl, hsz, hP, hK, hD0, hN⟩ := hv
  subst hsz
  have hl := lv_entry ([.ref h0, .int v1, .int v2]) (n := 4) (Nat.le_of_ble_eq_true rfl)
  rw [lg_entry_eq]
  refine b_X5_counts N ⟨⟨B.exec, B.bytes, hml, findClass_of_methodNamed B.named, atoms_spec (ws := wsX5_counts) B.pre⟩, Nat.le_refl _, Nat.le_refl _, fun q h => Or.inr h, hN, hK⟩ hf hP hD0.self va_S.rf hl (fun pc H locs ls r hd hr hn hP hD hS => ?_)
  subst hr
  exact W.zret B.exec B.bytes B.returns hn (fun t ht hW => ⟨⟨_, (), rfl, rfl, by rw [ht]; exact hP, hD⟩, hS.F ht⟩) hS.2.2 hd
def q_X5_decide_L21 (N : Nat) (v1 : Int32) (x3 : Int32) (x5 : Int32) (x9 : Int32) (x10 : Int32) (f0 : (Nat → Int32)) (f2 : (Nat → Int32)) (f8 : (Nat → Int32)) (f13 : (Nat → Int32)) : Nat → Int32 → Int32 → Option Int32
  | 0, _, _ => none
  | n + 1, v2, v3 =>
    (if x3 ≤ v3 then
     (some v2)
    else
     (Option.bind (q_X5_counts N v3 v1 x5 x9 x10 f0 f2 f8 f13) (fun o2 =>
     (if o2 = 0 then
      (q_X5_decide_L21 N v1 x3 x5 x9 x10 f0 f2 f8 f13 n v2 (v3 + 1))
     else
      (q_X5_decide_L21 N v1 x3 x5 x9 x10 f0 f2 f8 f13 n (v2 + 1) (v3 + 1))))))
set_option maxHeartbeats 4000000 in
set_option maxRecDepth 100000 in
theorem b_X5_decide_L21 {p : Program} {l : Launch} {e : Env} {R : Room} {s : State} {m : MethodId} {args : Array Value} {below : List Frame} {meth : Method} {c : Code} {Q : State → Prop} {A : Nat → Prop} {dC : Nat → ClassId} {dI : Nat → Nat → Nat} {cI cZ cJ cA : ClassId} {h0 : Nat} {a : Nat → Nat} (N : Nat) (C0 : z_Cx p s m args c cX5_decide 7 wsX5_decide RX5 R 2 45 A dC dI (z_ty cI cZ cJ cA)) : ∀ (n : Nat) {v1 : Int32} {v2 : Int32} {v3 : Int32} {x1 : Int32} {x3 : Int32} {x4 : Int32} {x5 : Int32} {x6 : Int32} {x7 : Int32} {x9 : Int32} {x10 : Int32} {x14 : Int32} {x15 : Int32} {x16 : Int32} {x19 : Int32} {x20 : Int32} {x21 : Int32} {x22 : Int32} {x23 : Int32} {x24 : Int32} {x41 : Int32} {x42 : Int32} {f0 : (Nat → Int32)} {f2 : (Nat → Int32)} {f8 : (Nat → Int32)} {f11 : (Nat → Int32)} {f12 : (Nat → Int32)} {f13 : (Nat → Int32)} {f17 : (Nat → Int32)} {f18 : (Nat → Int32)} {f25 : (Nat → Int32)} {f26 : (Nat → Int32)} {f27 : (Nat → Int32)} {f28 : (Nat → Int32)} {f29 : (Nat → Int32)} {f30 : (Nat → Int32)} {f31 : (Nat → Int32)} {f32 : (Nat → Int32)} {f33 : (Nat → Int32)} {f34 : (Nat → Int32)} {f35 : (Nat → Int32)} {f36 : (Nat → Int32)} {f37 : (Nat → Int32)} {f38 : (Nat → Int32)} {f39 : (Nat → Int32)} {f40 : (Nat → Int32)} {f43 : (Nat → Int32)} {o : Int32} {H : Heap} {locs : List Loc} {ls : Array Slot}, q_X5_decide_L21 N v1 x3 x5 x9 x10 f0 f2 f8 f13 n v2 v3 = some o → va_P (dC, dI) vwCl (wX5 cI cZ cJ cA h0 a x1 x3 x4 x5 x6 x7 x9 x10 x14 x15 x16 x19 x20 x21 x22 x23 x24 x41 x42 f0 f2 f8 f11 f12 f13 f17 f18 f25 f26 f27 f28 f29 f30 f31 f32 f33 f34 f35 f36 f37 f38 f39 f40 f43) H → va_D A (wX5 cI cZ cJ cA h0 a x1 x3 x4 x5 x6 x7 x9 x10 x14 x15 x16 x19 x20 x21 x22 x23 x24 x41 x42 f0 f2 f8 f11 f12 f13 f17 f18 f25 f26 f27 f28 f29 f30 f31 f32 f33 f34 f35 f36 f37 f38 f39 f40 f43) → va_S A s.heap H locs → lv_has ls 7 [(0, .ref h0), (1, .int v1), (2, .int v2), (3, .int v3)] →
    (∀ (H : Heap) (locs : List Loc) (ls : Array Slot), va_P (dC, dI) vwCl (wX5 cI cZ cJ cA h0 a x1 x3 x4 x5 x6 x7 x9 x10 x14 x15 x16 x19 x20 x21 x22 x23 x24 x41 x42 f0 f2 f8 f11 f12 f13 f17 f18 f25 f26 f27 f28 f29 f30 f31 f32 f33 f34 f35 f36 f37 f38 f39 f40 f43) H → va_D A (wX5 cI cZ cJ cA h0 a x1 x3 x4 x5 x6 x7 x9 x10 x14 x15 x16 x19 x20 x21 x22 x23 x24 x41 x42 f0 f2 f8 f11 f12 f13 f17 f18 f25 f26 f27 f28 f29 f30 f31 f32 f33 f34 f35 f36 f37 f38 f39 f40 f43) → va_S A s.heap H locs → lv_has ls 7 [(0, .ref h0), (1, .int v1), (2, .int o)] → W p l e R s m args below meth c H locs 0 0 Q (F0 m 47 ls [])) →
    W p l e R s m args below meth c H locs 0 0 Q (F0 m 21 ls []) := by
  obtain ⟨⟨hx, hb, hml, hown, hts⟩, hRf, hRl, hA, hN, hK⟩ := C0
  intro n
  induction n with
  | zero =>
    intro v1 v2 v3 x1 x3 x4 x5 x6 x7 x9 x10 x14 x15 x16 x19 x20 x21 x22 x23 x24 x41 x42 f0 f2 f8 f11 f12 f13 f17 f18 f25 f26 f27 f28 f29 f30 f31 f32 f33 f34 f35 f36 f37 f38 f39 f40 f43 o H locs ls hf
    cases hf
  | succ n ih =>
    intro v1 v2 v3 x1 x3 x4 x5 x6 x7 x9 x10 x14 x15 x16 x19 x20 x21 x22 x23 x24 x41 x42 f0 f2 f8 f11 f12 f13 f17 f18 f25 f26 f27 f28 f29 f30 f31 f32 f33 f34 f35 f36 f37 f38 f39 f40 f43 o H locs ls hf hP hD hS hl hexit
    rw [q_X5_decide_L21] at hf
    refine lv_iload_n hx hb dX5_decide_21 rfl (lv_at hl 3 rfl) ?_
    refine lv_aload_n hx hb dX5_decide_22 rfl (lv_at hl 0 rfl) ?_
    refine va_get (D := (dC, dI)) (ci := 5) (v := .int x3) (C := RX5) (T := TX5) (N := 44) hx hb hts (fun w hw => List.mem_cons_of_mem _ (List.mem_append_right _ hw)) hown hK hP 0 rfl rfl 3 (by decide) (hts (.fieldLink RX5 103 "OldStadiumModel" "judges" "I") (List.mem_of_getElem? (i := 2) rfl)) (fun _ h9 => h9) rfl dX5_decide_23 ?_
    refine lv_icmp_ge (tgt := 47) hx hb dX5_decide_26 (by decide) (fun c1 => ?_) (fun c1 => ?_)
    · replace hf := z_ip hf c1
      obtain rfl := Option.some.inj hf
      exact hexit _ _ _ hP hD hS (lv_sub hl [0, 1, 2] rfl)
    · replace hf := z_im hf c1
      refine lv_aload_n hx hb dX5_decide_29 rfl (lv_at hl 0 rfl) ?_
      refine lv_iload_n hx hb dX5_decide_30 rfl (lv_at hl 3 rfl) ?_
      refine lv_iload_n hx hb dX5_decide_31 rfl (lv_at hl 1 rfl) ?_
      obtain ⟨o2, ho2, hf1⟩ := z_ib hf
      replace hf := hf1
      clear hf1
      refine z_Vi (As := [.int v3, .int v1]) (rest := []) (w := (wX5 cI cZ cJ cA h0 a x1 x3 x4 x5 x6 x7 x9 x10 x14 x15 x16 x19 x20 x21 x22 x23 x24 x41 x42 f0 f2 f8 f11 f12 f13 f17 f18 f25 f26 f27 f28 f29 f30 f31 f32 f33 f34 f35 f36 f37 f38 f39 f40 f43)) (w1 := (wX5 cI cZ cJ cA h0 a x1 x3 x4 x5 x6 x7 x9 x10 x14 x15 x16 x19 x20 x21 x22 x23 x24 x41 x42 f0 f2 f8 f11 f12 f13 f17 f18 f25 f26 f27 f28 f29 f30 f31 f32 f33 f34 f35 f36 f37 f38 f39 f40 f43)) ⟨hx, hb, hml, hown, hts⟩ (k_X5_counts l dC dI cI cZ cJ cA h0 a H.size N v3 v1 x1 x3 x4 x5 x6 x7 x9 x10 x14 x15 x16 x19 x20 x21 x22 x23 x24 x41 x42 f0 f2 f8 f11 f12 f13 f17 f18 f25 f26 f27 f28 f29 f30 f31 f32 f33 f34 f35 f36 f37 f38 f39 f40 f43 o2 ho2) (cwV 2 hts gX5_decide_X5_counts rfl rfl rfl (by decide +kernel) ⟨Nat.le_trans (Nat.le_of_ble_eq_true rfl) hRf, Nat.le_trans (Nat.le_of_ble_eq_true rfl) hRl⟩) hK hP hD hS hA hN (ci := 5) rfl rfl rfl rfl hl.1 rfl (Nat.le_of_ble_eq_true rfl) dX5_decide_32 (fun H locs hP hD hS => ?_)
      refine lv_if_eq (tgt := 41) hx hb dX5_decide_35 (by decide) (fun c3 => ?_) (fun c3 => ?_)
      · replace hf := z_ip hf c3
        refine lv_iinc (v := (v3 + 1)) (lv' := [(3, .int (v3 + 1)), (0, .ref h0), (1, .int v1), (2, .int v2)]) hx hb dX5_decide_41 hl (k := 3) rfl rfl (by decide) rfl (fun ls hl => ?_)
        refine lv_goto (tgt := 21) hx hb dX5_decide_44 (by decide) ?_
        exact ih hf hP hD hS (lv_sub hl [1, 2, 3, 0] rfl) hexit
      · replace hf := z_im hf c3
        refine lv_iinc (v := (v2 + 1)) (lv' := [(2, .int (v2 + 1)), (0, .ref h0), (1, .int v1), (3, .int v3)]) hx hb dX5_decide_38 hl (k := 2) rfl rfl (by decide) rfl (fun ls hl => ?_)
        refine lv_iinc (v := (v3 + 1)) (lv' := [(3, .int (v3 + 1)), (2, .int (v2 + 1)), (0, .ref h0), (1, .int v1)]) hx hb dX5_decide_41 hl (k := 3) rfl rfl (by decide) rfl (fun ls hl => ?_)
        refine lv_goto (tgt := 21) hx hb dX5_decide_44 (by decide) ?_
        exact ih hf hP hD hS (lv_sub hl [2, 3, 1, 0] rfl) hexit
def q_X5_decide_L79 (N : Nat) (v1 : Int32) (v4 : Int32) (x3 : Int32) (x5 : Int32) (x9 : Int32) (x10 : Int32) (f0 : (Nat → Int32)) (f2 : (Nat → Int32)) (f8 : (Nat → Int32)) (f13 : (Nat → Int32)) : Nat → Int32 → Int32 → Option Int32
  | 0, _, _ => none
  | n + 1, v5, v6 =>
    (if x3 ≤ v6 then
     (some v5)
    else
     (Option.bind (q_X5_counts N v6 v1 x5 x9 x10 f0 f2 f8 f13) (fun o2 =>
     (if o2 = 0 then
      (q_X5_decide_L79 N v1 v4 x3 x5 x9 x10 f0 f2 f8 f13 n v5 (v6 + 1))
     else
      (if z_in ((24 * v6) + v1) 216 then
      (if (f13 (Int32.toNatClampNeg ((24 * v6) + v1))) = v4 then
       (q_X5_decide_L79 N v1 v4 x3 x5 x9 x10 f0 f2 f8 f13 n (v5 + 1) (v6 + 1))
      else
       (q_X5_decide_L79 N v1 v4 x3 x5 x9 x10 f0 f2 f8 f13 n v5 (v6 + 1)))
      else none)))))
set_option maxHeartbeats 4000000 in
set_option maxRecDepth 100000 in
theorem b_X5_decide_L79 {p : Program} {l : Launch} {e : Env} {R : Room} {s : State} {m : MethodId} {args : Array Value} {below : List Frame} {meth : Method} {c : Code} {Q : State → Prop} {A : Nat → Prop} {dC : Nat → ClassId} {dI : Nat → Nat → Nat} {cI cZ cJ cA : ClassId} {h0 : Nat} {a : Nat → Nat} (N : Nat) (C0 : z_Cx p s m args c cX5_decide 7 wsX5_decide RX5 R 2 45 A dC dI (z_ty cI cZ cJ cA)) : ∀ (n : Nat) {v1 : Int32} {v2 : Int32} {v3 : Int32} {v4 : Int32} {v5 : Int32} {v6 : Int32} {x1 : Int32} {x3 : Int32} {x4 : Int32} {x5 : Int32} {x6 : Int32} {x7 : Int32} {x9 : Int32} {x10 : Int32} {x14 : Int32} {x15 : Int32} {x16 : Int32} {x19 : Int32} {x20 : Int32} {x21 : Int32} {x22 : Int32} {x23 : Int32} {x24 : Int32} {x41 : Int32} {x42 : Int32} {f0 : (Nat → Int32)} {f2 : (Nat → Int32)} {f8 : (Nat → Int32)} {f11 : (Nat → Int32)} {f12 : (Nat → Int32)} {f13 : (Nat → Int32)} {f17 : (Nat → Int32)} {f18 : (Nat → Int32)} {f25 : (Nat → Int32)} {f26 : (Nat → Int32)} {f27 : (Nat → Int32)} {f28 : (Nat → Int32)} {f29 : (Nat → Int32)} {f30 : (Nat → Int32)} {f31 : (Nat → Int32)} {f32 : (Nat → Int32)} {f33 : (Nat → Int32)} {f34 : (Nat → Int32)} {f35 : (Nat → Int32)} {f36 : (Nat → Int32)} {f37 : (Nat → Int32)} {f38 : (Nat → Int32)} {f39 : (Nat → Int32)} {f40 : (Nat → Int32)} {f43 : (Nat → Int32)} {o : Int32} {H : Heap} {locs : List Loc} {ls : Array Slot}, q_X5_decide_L79 N v1 v4 x3 x5 x9 x10 f0 f2 f8 f13 n v5 v6 = some o → va_P (dC, dI) vwCl (wX5 cI cZ cJ cA h0 a x1 x3 x4 x5 x6 x7 x9 x10 x14 x15 x16 x19 x20 x21 x22 x23 x24 x41 x42 f0 f2 f8 f11 f12 f13 f17 f18 f25 f26 f27 f28 f29 f30 f31 f32 f33 f34 f35 f36 f37 f38 f39 f40 f43) H → va_D A (wX5 cI cZ cJ cA h0 a x1 x3 x4 x5 x6 x7 x9 x10 x14 x15 x16 x19 x20 x21 x22 x23 x24 x41 x42 f0 f2 f8 f11 f12 f13 f17 f18 f25 f26 f27 f28 f29 f30 f31 f32 f33 f34 f35 f36 f37 f38 f39 f40 f43) → va_S A s.heap H locs → lv_has ls 7 [(0, .ref h0), (1, .int v1), (2, .int v2), (3, .int v3), (4, .int v4), (5, .int v5), (6, .int v6)] →
    (∀ (H : Heap) (locs : List Loc) (ls : Array Slot), va_P (dC, dI) vwCl (wX5 cI cZ cJ cA h0 a x1 x3 x4 x5 x6 x7 x9 x10 x14 x15 x16 x19 x20 x21 x22 x23 x24 x41 x42 f0 f2 f8 f11 f12 f13 f17 f18 f25 f26 f27 f28 f29 f30 f31 f32 f33 f34 f35 f36 f37 f38 f39 f40 f43) H → va_D A (wX5 cI cZ cJ cA h0 a x1 x3 x4 x5 x6 x7 x9 x10 x14 x15 x16 x19 x20 x21 x22 x23 x24 x41 x42 f0 f2 f8 f11 f12 f13 f17 f18 f25 f26 f27 f28 f29 f30 f31 f32 f33 f34 f35 f36 f37 f38 f39 f40 f43) → va_S A s.heap H locs → lv_has ls 7 [(0, .ref h0), (1, .int v1), (2, .int v2), (3, .int v3), (4, .int v4), (5, .int o)] → W p l e R s m args below meth c H locs 0 0 Q (F0 m 124 ls [])) →
    W p l e R s m args below meth c H locs 0 0 Q (F0 m 79 ls []) := by
  obtain ⟨⟨hx, hb, hml, hown, hts⟩, hRf, hRl, hA, hN, hK⟩ := C0
  intro n
  induction n with
  | zero =>
    intro v1 v2 v3 v4 v5 v6 x1 x3 x4 x5 x6 x7 x9 x10 x14 x15 x16 x19 x20 x21 x22 x23 x24 x41 x42 f0 f2 f8 f11 f12 f13 f17 f18 f25 f26 f27 f28 f29 f30 f31 f32 f33 f34 f35 f36 f37 f38 f39 f40 f43 o H locs ls hf
    cases hf
  | succ n ih =>
    intro v1 v2 v3 v4 v5 v6 x1 x3 x4 x5 x6 x7 x9 x10 x14 x15 x16 x19 x20 x21 x22 x23 x24 x41 x42 f0 f2 f8 f11 f12 f13 f17 f18 f25 f26 f27 f28 f29 f30 f31 f32 f33 f34 f35 f36 f37 f38 f39 f40 f43 o H locs ls hf hP hD hS hl hexit
    rw [q_X5_decide_L79] at hf
    refine lv_iload hx hb dX5_decide_79 (lv_at hl 6 rfl) ?_
    refine lv_aload_n hx hb dX5_decide_81 rfl (lv_at hl 0 rfl) ?_
    refine va_get (D := (dC, dI)) (ci := 5) (v := .int x3) (C := RX5) (T := TX5) (N := 44) hx hb hts (fun w hw => List.mem_cons_of_mem _ (List.mem_append_right _ hw)) hown hK hP 0 rfl rfl 3 (by decide) (hts (.fieldLink RX5 103 "OldStadiumModel" "judges" "I") (List.mem_of_getElem? (i := 2) rfl)) (fun _ h9 => h9) rfl dX5_decide_82 ?_
    refine lv_icmp_ge (tgt := 124) hx hb dX5_decide_85 (by decide) (fun c1 => ?_) (fun c1 => ?_)
    · replace hf := z_ip hf c1
      obtain rfl := Option.some.inj hf
      exact hexit _ _ _ hP hD hS (lv_sub hl [0, 1, 2, 3, 4, 5] rfl)
    · replace hf := z_im hf c1
      refine lv_aload_n hx hb dX5_decide_88 rfl (lv_at hl 0 rfl) ?_
      refine lv_iload hx hb dX5_decide_89 (lv_at hl 6 rfl) ?_
      refine lv_iload_n hx hb dX5_decide_91 rfl (lv_at hl 1 rfl) ?_
      obtain ⟨o2, ho2, hf1⟩ := z_ib hf
      replace hf := hf1
      clear hf1
      refine z_Vi (As := [.int v6, .int v1]) (rest := []) (w := (wX5 cI cZ cJ cA h0 a x1 x3 x4 x5 x6 x7 x9 x10 x14 x15 x16 x19 x20 x21 x22 x23 x24 x41 x42 f0 f2 f8 f11 f12 f13 f17 f18 f25 f26 f27 f28 f29 f30 f31 f32 f33 f34 f35 f36 f37 f38 f39 f40 f43)) (w1 := (wX5 cI cZ cJ cA h0 a x1 x3 x4 x5 x6 x7 x9 x10 x14 x15 x16 x19 x20 x21 x22 x23 x24 x41 x42 f0 f2 f8 f11 f12 f13 f17 f18 f25 f26 f27 f28 f29 f30 f31 f32 f33 f34 f35 f36 f37 f38 f39 f40 f43)) ⟨hx, hb, hml, hown, hts⟩ (k_X5_counts l dC dI cI cZ cJ cA h0 a H.size N v6 v1 x1 x3 x4 x5 x6 x7 x9 x10 x14 x15 x16 x19 x20 x21 x22 x23 x24 x41 x42 f0 f2 f8 f11 f12 f13 f17 f18 f25 f26 f27 f28 f29 f30 f31 f32 f33 f34 f35 f36 f37 f38 f39 f40 f43 o2 ho2) (cwV 2 hts gX5_decide_X5_counts rfl rfl rfl (by decide +kernel) ⟨Nat.le_trans (Nat.le_of_ble_eq_true rfl) hRf, Nat.le_trans (Nat.le_of_ble_eq_true rfl) hRl⟩) hK hP hD hS hA hN (ci := 5) rfl rfl rfl rfl hl.1 rfl (Nat.le_of_ble_eq_true rfl) dX5_decide_92 (fun H locs hP hD hS => ?_)
      refine lv_if_eq (tgt := 118) hx hb dX5_decide_95 (by decide) (fun c3 => ?_) (fun c3 => ?_)
      · replace hf := z_ip hf c3
        refine lv_iinc (v := (v6 + 1)) (lv' := [(6, .int (v6 + 1)), (0, .ref h0), (1, .int v1), (2, .int v2), (3, .int v3), (4, .int v4), (5, .int v5)]) hx hb dX5_decide_118 hl (k := 6) rfl rfl (by decide) rfl (fun ls hl => ?_)
        refine lv_goto (tgt := 79) hx hb dX5_decide_121 (by decide) ?_
        exact ih hf hP hD hS (lv_sub hl [1, 2, 3, 4, 5, 6, 0] rfl) hexit
      · replace hf := z_im hf c3
        refine lv_aload_n hx hb dX5_decide_98 rfl (lv_at hl 0 rfl) ?_
        refine va_get (D := (dC, dI)) (ci := 5) (v := .ref (a 13)) (C := RX5) (T := TX5) (N := 44) hx hb hts (fun w hw => List.mem_cons_of_mem _ (List.mem_append_right _ hw)) hown hK hP 0 rfl rfl 13 (by decide) (hts (.fieldLink RX5 30 "OldStadiumModel" "votes" "[I") (List.mem_of_getElem? (i := 5) rfl)) (fun _ h9 => h9) rfl dX5_decide_99 ?_
        refine lv_bipush (v := 24) hx hb dX5_decide_102 (by decide) ?_
        refine lv_iload hx hb dX5_decide_104 (lv_at hl 6 rfl) ?_
        refine lv_imul hx hb dX5_decide_106 ?_
        refine lv_iload_n hx hb dX5_decide_107 rfl (lv_at hl 1 rfl) ?_
        refine lv_iadd hx hb dX5_decide_108 ?_
        have b4 := z_c1 hf
        replace hf := z_c2 hf
        refine va_iald hx hb hK hP 6 0 rfl rfl b4 dX5_decide_109 ?_
        refine lv_iload hx hb dX5_decide_110 (lv_at hl 4 rfl) ?_
        refine lv_icmp_ne (tgt := 118) hx hb dX5_decide_112 (by decide) (fun c5 => ?_) (fun c5 => ?_)
        · replace hf := z_im hf c5
          refine lv_iinc (v := (v6 + 1)) (lv' := [(6, .int (v6 + 1)), (0, .ref h0), (1, .int v1), (2, .int v2), (3, .int v3), (4, .int v4), (5, .int v5)]) hx hb dX5_decide_118 hl (k := 6) rfl rfl (by decide) rfl (fun ls hl => ?_)
          refine lv_goto (tgt := 79) hx hb dX5_decide_121 (by decide) ?_
          exact ih hf hP hD hS (lv_sub hl [1, 2, 3, 4, 5, 6, 0] rfl) hexit
        · replace hf := z_ip hf c5
          refine lv_iinc (v := (v5 + 1)) (lv' := [(5, .int (v5 + 1)), (0, .ref h0), (1, .int v1), (2, .int v2), (3, .int v3), (4, .int v4), (6, .int v6)]) hx hb dX5_decide_115 hl (k := 5) rfl rfl (by decide) rfl (fun ls hl => ?_)
          refine lv_iinc (v := (v6 + 1)) (lv' := [(6, .int (v6 + 1)), (5, .int (v5 + 1)), (0, .ref h0), (1, .int v1), (2, .int v2), (3, .int v3), (4, .int v4)]) hx hb dX5_decide_118 hl (k := 6) rfl rfl (by decide) rfl (fun ls hl => ?_)
          refine lv_goto (tgt := 79) hx hb dX5_decide_121 (by decide) ?_
          exact ih hf hP hD hS (lv_sub hl [2, 3, 4, 5, 6, 1, 0] rfl) hexit
def q_X5_decide_L49 (N : Nat) (v1 : Int32) (v2 : Int32) (x3 : Int32) (x5 : Int32) (x9 : Int32) (x10 : Int32) (f0 : (Nat → Int32)) (f2 : (Nat → Int32)) (f8 : (Nat → Int32)) (f12 : (Nat → Int32)) (f13 : (Nat → Int32)) : Nat → Int32 → Option (Sum (Int32 × (Nat → Int32)) Unit)
  | 0, _ => none
  | n + 1, v3 =>
    (Option.bind (q_X5_inHeat N v1 x5 x9 x10) (fun o1 =>
    (if o1 ≤ v3 then
     (some (Sum.inr ()))
    else
     (if z_in ((v1 * x5) + v3) 24 then
     (Option.bind (some ((f8 (Int32.toNatClampNeg ((v1 * x5) + v3))) : Int32)) (fun n4 =>
     (Option.bind (q_X5_decide_L79 N v1 n4 x3 x5 x9 x10 f0 f2 f8 f13 N 0 0) (fun t5 =>
     (if v2 < (2 * t5) then
      (if z_in v1 24 then
      (some (Sum.inl (n4, (upd f12 (Int32.toNatClampNeg v1) n4))))
      else none)
     else
      (q_X5_decide_L49 N v1 v2 x3 x5 x9 x10 f0 f2 f8 f12 f13 n (v3 + 1)))))))
     else none))))
set_option maxHeartbeats 4000000 in
set_option maxRecDepth 100000 in
theorem b_X5_decide_L49 {p : Program} {l : Launch} {e : Env} {R : Room} {s : State} {m : MethodId} {args : Array Value} {below : List Frame} {meth : Method} {c : Code} {Q : State → Prop} {A : Nat → Prop} {dC : Nat → ClassId} {dI : Nat → Nat → Nat} {cI cZ cJ cA : ClassId} {h0 : Nat} {a : Nat → Nat} (N : Nat) (C0 : z_Cx p s m args c cX5_decide 7 wsX5_decide RX5 R 2 45 A dC dI (z_ty cI cZ cJ cA)) : ∀ (n : Nat) {v1 : Int32} {v2 : Int32} {v3 : Int32} {x1 : Int32} {x3 : Int32} {x4 : Int32} {x5 : Int32} {x6 : Int32} {x7 : Int32} {x9 : Int32} {x10 : Int32} {x14 : Int32} {x15 : Int32} {x16 : Int32} {x19 : Int32} {x20 : Int32} {x21 : Int32} {x22 : Int32} {x23 : Int32} {x24 : Int32} {x41 : Int32} {x42 : Int32} {f0 : (Nat → Int32)} {f2 : (Nat → Int32)} {f8 : (Nat → Int32)} {f11 : (Nat → Int32)} {f12 : (Nat → Int32)} {f13 : (Nat → Int32)} {f17 : (Nat → Int32)} {f18 : (Nat → Int32)} {f25 : (Nat → Int32)} {f26 : (Nat → Int32)} {f27 : (Nat → Int32)} {f28 : (Nat → Int32)} {f29 : (Nat → Int32)} {f30 : (Nat → Int32)} {f31 : (Nat → Int32)} {f32 : (Nat → Int32)} {f33 : (Nat → Int32)} {f34 : (Nat → Int32)} {f35 : (Nat → Int32)} {f36 : (Nat → Int32)} {f37 : (Nat → Int32)} {f38 : (Nat → Int32)} {f39 : (Nat → Int32)} {f40 : (Nat → Int32)} {f43 : (Nat → Int32)} {o : (Sum (Int32 × (Nat → Int32)) Unit)} {H : Heap} {locs : List Loc} {ls : Array Slot}, q_X5_decide_L49 N v1 v2 x3 x5 x9 x10 f0 f2 f8 f12 f13 n v3 = some o → va_P (dC, dI) vwCl (wX5 cI cZ cJ cA h0 a x1 x3 x4 x5 x6 x7 x9 x10 x14 x15 x16 x19 x20 x21 x22 x23 x24 x41 x42 f0 f2 f8 f11 f12 f13 f17 f18 f25 f26 f27 f28 f29 f30 f31 f32 f33 f34 f35 f36 f37 f38 f39 f40 f43) H → va_D A (wX5 cI cZ cJ cA h0 a x1 x3 x4 x5 x6 x7 x9 x10 x14 x15 x16 x19 x20 x21 x22 x23 x24 x41 x42 f0 f2 f8 f11 f12 f13 f17 f18 f25 f26 f27 f28 f29 f30 f31 f32 f33 f34 f35 f36 f37 f38 f39 f40 f43) → va_S A s.heap H locs → lv_has ls 7 [(0, .ref h0), (1, .int v1), (2, .int v2), (3, .int v3)] →
    (∀ (t : (Int32 × (Nat → Int32))), o = Sum.inl t → ∀ (pc : Nat) (H : Heap) (locs : List Loc) (ls : Array Slot) (r : Int32), decode cX5_decide pc = .ok (.ireturn, 1) → r = t.1 → va_P (dC, dI) vwCl (wX5 cI cZ cJ cA h0 a x1 x3 x4 x5 x6 x7 x9 x10 x14 x15 x16 x19 x20 x21 x22 x23 x24 x41 x42 f0 f2 f8 f11 t.2 f13 f17 f18 f25 f26 f27 f28 f29 f30 f31 f32 f33 f34 f35 f36 f37 f38 f39 f40 f43) H → va_D A (wX5 cI cZ cJ cA h0 a x1 x3 x4 x5 x6 x7 x9 x10 x14 x15 x16 x19 x20 x21 x22 x23 x24 x41 x42 f0 f2 f8 f11 t.2 f13 f17 f18 f25 f26 f27 f28 f29 f30 f31 f32 f33 f34 f35 f36 f37 f38 f39 f40 f43) → va_S A s.heap H locs → W p l e R s m args below meth c H locs 0 0 Q (F0 m pc ls [.int r])) →
    (∀ (t : Unit) (H : Heap) (locs : List Loc) (ls : Array Slot), o = Sum.inr t → va_P (dC, dI) vwCl (wX5 cI cZ cJ cA h0 a x1 x3 x4 x5 x6 x7 x9 x10 x14 x15 x16 x19 x20 x21 x22 x23 x24 x41 x42 f0 f2 f8 f11 f12 f13 f17 f18 f25 f26 f27 f28 f29 f30 f31 f32 f33 f34 f35 f36 f37 f38 f39 f40 f43) H → va_D A (wX5 cI cZ cJ cA h0 a x1 x3 x4 x5 x6 x7 x9 x10 x14 x15 x16 x19 x20 x21 x22 x23 x24 x41 x42 f0 f2 f8 f11 f12 f13 f17 f18 f25 f26 f27 f28 f29 f30 f31 f32 f33 f34 f35 f36 f37 f38 f39 f40 f43) → va_S A s.heap H locs → lv_has ls 7 [] → W p l e R s m args below meth c H locs 0 0 Q (F0 m 152 ls [])) →
    W p l e R s m args below meth c H locs 0 0 Q (F0 m 49 ls []) := by
  obtain ⟨⟨hx, hb, hml, hown, hts⟩, hRf, hRl, hA, hN, hK⟩ := C0
  intro n
  induction n with
  | zero =>
    intro v1 v2 v3 x1 x3 x4 x5 x6 x7 x9 x10 x14 x15 x16 x19 x20 x21 x22 x23 x24 x41 x42 f0 f2 f8 f11 f12 f13 f17 f18 f25 f26 f27 f28 f29 f30 f31 f32 f33 f34 f35 f36 f37 f38 f39 f40 f43 o H locs ls hf
    cases hf
  | succ n ih =>
    intro v1 v2 v3 x1 x3 x4 x5 x6 x7 x9 x10 x14 x15 x16 x19 x20 x21 x22 x23 x24 x41 x42 f0 f2 f8 f11 f12 f13 f17 f18 f25 f26 f27 f28 f29 f30 f31 f32 f33 f34 f35 f36 f37 f38 f39 f40 f43 o H locs ls hf hP hD hS hl hret hexit
    rw [q_X5_decide_L49] at hf
    refine lv_iload_n hx hb dX5_decide_49 rfl (lv_at hl 3 rfl) ?_
    refine lv_aload_n hx hb dX5_decide_50 rfl (lv_at hl 0 rfl) ?_
    refine lv_iload_n hx hb dX5_decide_51 rfl (lv_at hl 1 rfl) ?_
    obtain ⟨o1, ho1, hf1⟩ := z_ib hf
    replace hf := hf1
    clear hf1
    refine z_Vi (As := [.int v1]) (rest := [.int v3]) (w := (wX5 cI cZ cJ cA h0 a x1 x3 x4 x5 x6 x7 x9 x10 x14 x15 x16 x19 x20 x21 x22 x23 x24 x41 x42 f0 f2 f8 f11 f12 f13 f17 f18 f25 f26 f27 f28 f29 f30 f31 f32 f33 f34 f35 f36 f37 f38 f39 f40 f43)) (w1 := (wX5 cI cZ cJ cA h0 a x1 x3 x4 x5 x6 x7 x9 x10 x14 x15 x16 x19 x20 x21 x22 x23 x24 x41 x42 f0 f2 f8 f11 f12 f13 f17 f18 f25 f26 f27 f28 f29 f30 f31 f32 f33 f34 f35 f36 f37 f38 f39 f40 f43)) ⟨hx, hb, hml, hown, hts⟩ (k_X5_inHeat l dC dI cI cZ cJ cA h0 a H.size N v1 x1 x3 x4 x5 x6 x7 x9 x10 x14 x15 x16 x19 x20 x21 x22 x23 x24 x41 x42 f0 f2 f8 f11 f12 f13 f17 f18 f25 f26 f27 f28 f29 f30 f31 f32 f33 f34 f35 f36 f37 f38 f39 f40 f43 o1 ho1) (cwV 1 hts gX5_decide_X5_inHeat rfl rfl rfl (by decide +kernel) ⟨Nat.le_trans (Nat.le_of_ble_eq_true rfl) hRf, Nat.le_trans (Nat.le_of_ble_eq_true rfl) hRl⟩) hK hP hD hS hA hN (ci := 5) rfl rfl rfl rfl hl.1 rfl (Nat.le_of_ble_eq_true rfl) dX5_decide_52 (fun H locs hP hD hS => ?_)
    refine lv_icmp_ge (tgt := 152) hx hb dX5_decide_55 (by decide) (fun c2 => ?_) (fun c2 => ?_)
    · replace hf := z_ip hf c2
      obtain rfl := Option.some.inj hf
      exact hexit _ _ _ _ rfl hP hD hS (lv_sub hl [] rfl)
    · replace hf := z_im hf c2
      refine lv_aload_n hx hb dX5_decide_58 rfl (lv_at hl 0 rfl) ?_
      refine va_get (D := (dC, dI)) (ci := 5) (v := .ref (a 8)) (C := RX5) (T := TX5) (N := 44) hx hb hts (fun w hw => List.mem_cons_of_mem _ (List.mem_append_right _ hw)) hown hK hP 0 rfl rfl 8 (by decide) (hts (.fieldLink RX5 16 "OldStadiumModel" "row" "[I") (List.mem_of_getElem? (i := 3) rfl)) (fun _ h9 => h9) rfl dX5_decide_59 ?_
      refine lv_iload_n hx hb dX5_decide_62 rfl (lv_at hl 1 rfl) ?_
      refine lv_aload_n hx hb dX5_decide_63 rfl (lv_at hl 0 rfl) ?_
      refine va_get (D := (dC, dI)) (ci := 5) (v := .int x5) (C := RX5) (T := TX5) (N := 44) hx hb hts (fun w hw => List.mem_cons_of_mem _ (List.mem_append_right _ hw)) hown hK hP 0 rfl rfl 5 (by decide) (hts (.fieldLink RX5 109 "OldStadiumModel" "size" "I") (List.mem_of_getElem? (i := 4) rfl)) (fun _ h9 => h9) rfl dX5_decide_64 ?_
      refine lv_imul hx hb dX5_decide_67 ?_
      refine lv_iload_n hx hb dX5_decide_68 rfl (lv_at hl 3 rfl) ?_
      refine lv_iadd hx hb dX5_decide_69 ?_
      have b3 := z_c1 hf
      replace hf := z_c2 hf
      refine va_iald hx hb hK hP 3 0 rfl rfl b3 dX5_decide_70 ?_
      obtain ⟨n4, hn4, hf1⟩ := z_ib hf
      replace hf := hf1
      clear hf1
      refine lv_topi (fun y9 ey9 => ?_)
      obtain rfl : n4 = y9 := (Option.some.inj hn4).symm.trans ey9.symm
      refine lv_istore (lv' := [(4, .int n4), (0, .ref h0), (1, .int v1), (2, .int v2), (3, .int v3)]) hx hb dX5_decide_71 hl (by decide) rfl (fun ls hl => ?_)
      refine lv_iconst (v := 0) hx hb dX5_decide_73 (by decide) ?_
      refine lv_istore (lv' := [(5, .int 0), (4, .int n4), (0, .ref h0), (1, .int v1), (2, .int v2), (3, .int v3)]) hx hb dX5_decide_74 hl (by decide) rfl (fun ls hl => ?_)
      refine lv_iconst (v := 0) hx hb dX5_decide_76 (by decide) ?_
      refine lv_istore (lv' := [(6, .int 0), (5, .int 0), (4, .int n4), (0, .ref h0), (1, .int v1), (2, .int v2), (3, .int v3)]) hx hb dX5_decide_77 hl (by decide) rfl (fun ls hl => ?_)
      obtain ⟨t5, ht5, hf1⟩ := z_ib hf
      replace hf := hf1
      clear hf1
      refine b_X5_decide_L79 N ⟨⟨hx, hb, hml, hown, hts⟩, hRf, hRl, hA, hN, hK⟩ N ht5 hP hD hS (lv_sub hl [3, 4, 5, 6, 2, 1, 0] rfl) (fun H locs ls hP hD hS hl => ?_)
      refine lv_iconst (v := 2) hx hb dX5_decide_124 (by decide) ?_
      refine lv_iload hx hb dX5_decide_125 (lv_at hl 5 rfl) ?_
      refine lv_imul hx hb dX5_decide_127 ?_
      refine lv_iload_n hx hb dX5_decide_128 rfl (lv_at hl 2 rfl) ?_
      refine lv_icmp_gt (tgt := 135) hx hb dX5_decide_129 (by decide) (fun c6 => ?_) (fun c6 => ?_)
      · replace hf := z_ip hf c6
        refine lv_aload_n hx hb dX5_decide_135 rfl (lv_at hl 0 rfl) ?_
        refine va_get (D := (dC, dI)) (ci := 5) (v := .ref (a 12)) (C := RX5) (T := TX5) (N := 44) hx hb hts (fun w hw => List.mem_cons_of_mem _ (List.mem_append_right _ hw)) hown hK hP 0 rfl rfl 12 (by decide) (hts (.fieldLink RX5 27 "OldStadiumModel" "won" "[I") (List.mem_of_getElem? (i := 6) rfl)) (fun _ h9 => h9) rfl dX5_decide_136 ?_
        refine lv_iload_n hx hb dX5_decide_139 rfl (lv_at hl 1 rfl) ?_
        refine lv_iload hx hb dX5_decide_140 (lv_at hl 4 rfl) ?_
        have b7 := z_c1 hf
        replace hf := z_c2 hf
        refine va_iast hx hb hK hP hD hS 5 0 rfl rfl b7 dX5_decide_142 (fun H locs hP hD hS => ?_)
        replace hP : va_P (dC, dI) vwCl (wX5 cI cZ cJ cA h0 a x1 x3 x4 x5 x6 x7 x9 x10 x14 x15 x16 x19 x20 x21 x22 x23 x24 x41 x42 f0 f2 f8 f11 (upd f12 (Int32.toNatClampNeg v1) n4) f13 f17 f18 f25 f26 f27 f28 f29 f30 f31 f32 f33 f34 f35 f36 f37 f38 f39 f40 f43) H := hP
        replace hD : va_D A (wX5 cI cZ cJ cA h0 a x1 x3 x4 x5 x6 x7 x9 x10 x14 x15 x16 x19 x20 x21 x22 x23 x24 x41 x42 f0 f2 f8 f11 (upd f12 (Int32.toNatClampNeg v1) n4) f13 f17 f18 f25 f26 f27 f28 f29 f30 f31 f32 f33 f34 f35 f36 f37 f38 f39 f40 f43) := hD
        refine lv_iload hx hb dX5_decide_143 (lv_at hl 4 rfl) ?_
        obtain rfl := Option.some.inj hf
        exact hret _ rfl _ _ _ _ _ dX5_decide_145 rfl hP hD hS
      · replace hf := z_im hf c6
        refine lv_goto (tgt := 146) hx hb dX5_decide_132 (by decide) ?_
        refine lv_iinc (v := (v3 + 1)) (lv' := [(3, .int (v3 + 1)), (0, .ref h0), (1, .int v1), (2, .int v2), (4, .int n4), (5, .int t5)]) hx hb dX5_decide_146 hl (k := 3) rfl rfl (by decide) rfl (fun ls hl => ?_)
        refine lv_goto (tgt := 49) hx hb dX5_decide_149 (by decide) ?_
        exact ih hf hP hD hS (lv_sub hl [1, 2, 3, 0] rfl) hret hexit
def q_X5_decide (N : Nat) (v1 : Int32) (x3 : Int32) (x4 : Int32) (x5 : Int32) (x7 : Int32) (x9 : Int32) (x10 : Int32) (f0 : (Nat → Int32)) (f2 : (Nat → Int32)) (f8 : (Nat → Int32)) (f12 : (Nat → Int32)) (f13 : (Nat → Int32)) : Option (Int32 × (Nat → Int32)) :=
  (if x4 = 0 then
   (some ((-1), f12))
  else
   (Option.bind (q_X5_isHeat N v1 x5 x7 x9 x10) (fun o2 =>
   (if o2 = 0 then
    (some ((-1), f12))
   else
    (Option.bind (q_X5_decide_L21 N v1 x3 x5 x9 x10 f0 f2 f8 f13 N 0 0) (fun t4 =>
    (Option.bind (q_X5_decide_L49 N v1 t4 x3 x5 x9 x10 f0 f2 f8 f12 f13 N 0) (Sum.elim (fun r7 => (some r7)) (fun s6 =>
    (some ((-2), f12)))))))))))
set_option maxHeartbeats 4000000 in
set_option maxRecDepth 100000 in
theorem b_X5_decide {p : Program} {l : Launch} {e : Env} {R : Room} {s : State} {m : MethodId} {args : Array Value} {below : List Frame} {meth : Method} {c : Code} {Q : State → Prop} {A : Nat → Prop} {dC : Nat → ClassId} {dI : Nat → Nat → Nat} {cI cZ cJ cA : ClassId} {h0 : Nat} {a : Nat → Nat} (N : Nat) (C0 : z_Cx p s m args c cX5_decide 7 wsX5_decide RX5 R 2 45 A dC dI (z_ty cI cZ cJ cA)) {v1 : Int32} {x1 : Int32} {x3 : Int32} {x4 : Int32} {x5 : Int32} {x6 : Int32} {x7 : Int32} {x9 : Int32} {x10 : Int32} {x14 : Int32} {x15 : Int32} {x16 : Int32} {x19 : Int32} {x20 : Int32} {x21 : Int32} {x22 : Int32} {x23 : Int32} {x24 : Int32} {x41 : Int32} {x42 : Int32} {f0 : (Nat → Int32)} {f2 : (Nat → Int32)} {f8 : (Nat → Int32)} {f11 : (Nat → Int32)} {f12 : (Nat → Int32)} {f13 : (Nat → Int32)} {f17 : (Nat → Int32)} {f18 : (Nat → Int32)} {f25 : (Nat → Int32)} {f26 : (Nat → Int32)} {f27 : (Nat → Int32)} {f28 : (Nat → Int32)} {f29 : (Nat → Int32)} {f30 : (Nat → Int32)} {f31 : (Nat → Int32)} {f32 : (Nat → Int32)} {f33 : (Nat → Int32)} {f34 : (Nat → Int32)} {f35 : (Nat → Int32)} {f36 : (Nat → Int32)} {f37 : (Nat → Int32)} {f38 : (Nat → Int32)} {f39 : (Nat → Int32)} {f40 : (Nat → Int32)} {f43 : (Nat → Int32)} {o : (Int32 × (Nat → Int32))} {H : Heap} {locs : List Loc} {ls : Array Slot} (hf : q_X5_decide N v1 x3 x4 x5 x7 x9 x10 f0 f2 f8 f12 f13 = some o) (hP : va_P (dC, dI) vwCl (wX5 cI cZ cJ cA h0 a x1 x3 x4 x5 x6 x7 x9 x10 x14 x15 x16 x19 x20 x21 x22 x23 x24 x41 x42 f0 f2 f8 f11 f12 f13 f17 f18 f25 f26 f27 f28 f29 f30 f31 f32 f33 f34 f35 f36 f37 f38 f39 f40 f43) H) (hD : va_D A (wX5 cI cZ cJ cA h0 a x1 x3 x4 x5 x6 x7 x9 x10 x14 x15 x16 x19 x20 x21 x22 x23 x24 x41 x42 f0 f2 f8 f11 f12 f13 f17 f18 f25 f26 f27 f28 f29 f30 f31 f32 f33 f34 f35 f36 f37 f38 f39 f40 f43)) (hS : va_S A s.heap H locs) (hl : lv_has ls 7 [(0, .ref h0), (1, .int v1)])
    (hret : ∀ (pc : Nat) (H : Heap) (locs : List Loc) (ls : Array Slot) (r : Int32), decode cX5_decide pc = .ok (.ireturn, 1) → r = o.1 → va_P (dC, dI) vwCl (wX5 cI cZ cJ cA h0 a x1 x3 x4 x5 x6 x7 x9 x10 x14 x15 x16 x19 x20 x21 x22 x23 x24 x41 x42 f0 f2 f8 f11 o.2 f13 f17 f18 f25 f26 f27 f28 f29 f30 f31 f32 f33 f34 f35 f36 f37 f38 f39 f40 f43) H → va_D A (wX5 cI cZ cJ cA h0 a x1 x3 x4 x5 x6 x7 x9 x10 x14 x15 x16 x19 x20 x21 x22 x23 x24 x41 x42 f0 f2 f8 f11 o.2 f13 f17 f18 f25 f26 f27 f28 f29 f30 f31 f32 f33 f34 f35 f36 f37 f38 f39 f40 f43) → va_S A s.heap H locs → W p l e R s m args below meth c H locs 0 0 Q (F0 m pc ls [.int r])) :
    W p l e R s m args below meth c H locs 0 0 Q (F0 m 0 ls []) := by
  obtain ⟨⟨hx, hb, hml, hown, hts⟩, hRf, hRl, hA, hN, hK⟩ := C0
  unfold q_X5_decide at hf
  refine lv_aload_n hx hb dX5_decide_0 rfl (lv_at hl 0 rfl) ?_
  refine va_get (D := (dC, dI)) (ci := 5) (v := .int x4) (C := RX5) (T := TX5) (N := 44) hx hb hts (fun w hw => List.mem_cons_of_mem _ (List.mem_append_right _ hw)) hown hK hP 0 rfl rfl 4 (by decide) (hts (.fieldLink RX5 116 "OldStadiumModel" "goes" "Z") (List.mem_of_getElem? (i := 1) rfl)) (fun _ h9 => h9) rfl dX5_decide_1 ?_
  refine lv_if_eq (tgt := 15) hx hb dX5_decide_4 (by decide) (fun c1 => ?_) (fun c1 => ?_)
  · replace hf := z_ip hf c1
    refine lv_iconst (v := (-1)) hx hb dX5_decide_15 (by decide) ?_
    obtain rfl := Option.some.inj hf
    exact hret _ _ _ _ _ dX5_decide_16 rfl hP hD hS
  · replace hf := z_im hf c1
    refine lv_aload_n hx hb dX5_decide_7 rfl (lv_at hl 0 rfl) ?_
    refine lv_iload_n hx hb dX5_decide_8 rfl (lv_at hl 1 rfl) ?_
    obtain ⟨o2, ho2, hf1⟩ := z_ib hf
    replace hf := hf1
    clear hf1
    refine z_Vi (As := [.int v1]) (rest := []) (w := (wX5 cI cZ cJ cA h0 a x1 x3 x4 x5 x6 x7 x9 x10 x14 x15 x16 x19 x20 x21 x22 x23 x24 x41 x42 f0 f2 f8 f11 f12 f13 f17 f18 f25 f26 f27 f28 f29 f30 f31 f32 f33 f34 f35 f36 f37 f38 f39 f40 f43)) (w1 := (wX5 cI cZ cJ cA h0 a x1 x3 x4 x5 x6 x7 x9 x10 x14 x15 x16 x19 x20 x21 x22 x23 x24 x41 x42 f0 f2 f8 f11 f12 f13 f17 f18 f25 f26 f27 f28 f29 f30 f31 f32 f33 f34 f35 f36 f37 f38 f39 f40 f43)) ⟨hx, hb, hml, hown, hts⟩ (k_X5_isHeat l dC dI cI cZ cJ cA h0 a H.size N v1 x1 x3 x4 x5 x6 x7 x9 x10 x14 x15 x16 x19 x20 x21 x22 x23 x24 x41 x42 f0 f2 f8 f11 f12 f13 f17 f18 f25 f26 f27 f28 f29 f30 f31 f32 f33 f34 f35 f36 f37 f38 f39 f40 f43 o2 ho2) (cwV 1 hts gX5_decide_X5_isHeat rfl rfl rfl (by decide +kernel) ⟨Nat.le_trans (Nat.le_of_ble_eq_true rfl) hRf, Nat.le_trans (Nat.le_of_ble_eq_true rfl) hRl⟩) hK hP hD hS hA hN (ci := 5) rfl rfl rfl rfl hl.1 rfl (Nat.le_of_ble_eq_true rfl) dX5_decide_9 (fun H locs hP hD hS => ?_)
    refine lv_if_ne (tgt := 17) hx hb dX5_decide_12 (by decide) (fun c3 => ?_) (fun c3 => ?_)
    · replace hf := z_im hf c3
      refine lv_iconst (v := 0) hx hb dX5_decide_17 (by decide) ?_
      refine lv_istore_n (lv' := [(2, .int 0), (0, .ref h0), (1, .int v1)]) hx hb dX5_decide_18 rfl hl (by decide) rfl (fun ls hl => ?_)
      refine lv_iconst (v := 0) hx hb dX5_decide_19 (by decide) ?_
      refine lv_istore_n (lv' := [(3, .int 0), (2, .int 0), (0, .ref h0), (1, .int v1)]) hx hb dX5_decide_20 rfl hl (by decide) rfl (fun ls hl => ?_)
      obtain ⟨t4, ht4, hf1⟩ := z_ib hf
      replace hf := hf1
      clear hf1
      refine b_X5_decide_L21 N ⟨⟨hx, hb, hml, hown, hts⟩, hRf, hRl, hA, hN, hK⟩ N ht4 hP hD hS (lv_sub hl [2, 3, 1, 0] rfl) (fun H locs ls hP hD hS hl => ?_)
      refine lv_iconst (v := 0) hx hb dX5_decide_47 (by decide) ?_
      refine lv_istore_n (lv' := [(3, .int 0), (0, .ref h0), (1, .int v1), (2, .int t4)]) hx hb dX5_decide_48 rfl hl (by decide) rfl (fun ls hl => ?_)
      obtain ⟨t5, ht5, hf1⟩ := z_ib hf
      replace hf := hf1
      clear hf1
      refine b_X5_decide_L49 N ⟨⟨hx, hb, hml, hown, hts⟩, hRf, hRl, hA, hN, hK⟩ N ht5 hP hD hS (lv_sub hl [1, 2, 3, 0] rfl) (fun r7 e1 pc H locs ls r0 hd hr hP hD hS => ?_) (fun s6 H locs ls e1 hP hD hS hl => ?_)
      · subst e1
        have hf := z_sl hf
        obtain rfl := Option.some.inj hf
        exact hret pc H locs ls r0 hd hr hP hD hS
      subst e1
      replace hf := z_sr hf
      refine lv_bipush (v := (-2)) hx hb dX5_decide_152 (by decide) ?_
      obtain rfl := Option.some.inj hf
      exact hret _ _ _ _ _ dX5_decide_154 rfl hP hD hS
    · replace hf := z_ip hf c3
      refine lv_iconst (v := (-1)) hx hb dX5_decide_15 (by decide) ?_
      obtain rfl := Option.some.inj hf
      exact hret _ _ _ _ _ dX5_decide_16 rfl hP hD hS
set_option maxHeartbeats 4000000 in
set_option maxRecDepth 100000 in
theorem k_X5_decide (l : Launch) (dC : Nat → ClassId) (dI : Nat → Nat → Nat) (cI cZ cJ cA : ClassId) (h0 : Nat) (a : Nat → Nat) (sz : Nat) (N : Nat) (v1 : Int32) (x1 : Int32) (x3 : Int32) (x4 : Int32) (x5 : Int32) (x6 : Int32) (x7 : Int32) (x9 : Int32) (x10 : Int32) (x14 : Int32) (x15 : Int32) (x16 : Int32) (x19 : Int32) (x20 : Int32) (x21 : Int32) (x22 : Int32) (x23 : Int32) (x24 : Int32) (x41 : Int32) (x42 : Int32) (f0 : (Nat → Int32)) (f2 : (Nat → Int32)) (f8 : (Nat → Int32)) (f11 : (Nat → Int32)) (f12 : (Nat → Int32)) (f13 : (Nat → Int32)) (f17 : (Nat → Int32)) (f18 : (Nat → Int32)) (f25 : (Nat → Int32)) (f26 : (Nat → Int32)) (f27 : (Nat → Int32)) (f28 : (Nat → Int32)) (f29 : (Nat → Int32)) (f30 : (Nat → Int32)) (f31 : (Nat → Int32)) (f32 : (Nat → Int32)) (f33 : (Nat → Int32)) (f34 : (Nat → Int32)) (f35 : (Nat → Int32)) (f36 : (Nat → Int32)) (f37 : (Nat → Int32)) (f38 : (Nat → Int32)) (f39 : (Nat → Int32)) (f40 : (Nat → Int32)) (f43 : (Nat → Int32)) (o : (Int32 × (Nat → Int32))) (hf : q_X5_decide N v1 x3 x4 x5 x7 x9 x10 f0 f2 f8 f12 f13 = some o) : Met l yX5_decide wsX5_decide ({ frames := 2, cells := 0, slots := 0, locals := 45 } : Room) (z_Pre dC dI (z_ty cI cZ cJ cA) [.ref h0, .int v1] sz (wX5 cI cZ cJ cA h0 a x1 x3 x4 x5 x6 x7 x9 x10 x14 x15 x16 x19 x20 x21 x22 x23 x24 x41 x42 f0 f2 f8 f11 f12 f13 f17 f18 f25 f26 f27 f28 f29 f30 f31 f32 f33 f34 f35 f36 f37 f38 f39 f40 f43)) (z_Pi dC dI o.1 (wX5 cI cZ cJ cA h0 a x1 x3 x4 x5 x6 x7 x9 x10 x14 x15 x16 x19 x20 x21 x22 x23 x24 x41 x42 f0 f2 f8 f11 o.2 f13 f17 f18 f25 f26 f27 f28 f29 f30 f31 f32 f33 f34 f35 f36 f37 f38 f39 f40 f43) sz (wX5 cI cZ cJ cA h0 a x1 x3 x4 x5 x6 x7 x9 x10 x14 x15 x16 x19 x20 x21 x22 x23 x24 x41 x42 f0 f2 f8 f11 f12 f13 f17 f18 f25 f26 f27 f28 f29 f30 f31 f32 f33 f34 f35 f36 f37 f38 f39 f40 f43)) 0 0 (va_A (wX5 cI cZ cJ cA h0 a x1 x3 x4 x5 x6 x7 x9 x10 x14 x15 x16 x19 x20 x21 x22 x23 x24 x41 x42 f0 f2 f8 f11 f12 f13 f17 f18 f25 f26 f27 f28 f29 f30 f31 f32 f33 f34 f35 f36 f37 f38 f39 f40 f43) sz) := by
  refine Met.ofW (cc := cX5_decide) (maxL := 7) (ret := (some .int)) (by decide) rfl ?_
  intro p e s m args below meth c s₁ B hml hv
  obtain ⟨rfl, hsz, hP, hK, hD0, hN⟩ := hv
  subst hsz
  have hl := lv_entry ([.ref h0, .int v1]) (n := 7) (Nat.le_of_ble_eq_true rfl)
  rw [lg_entry_eq]
  refine b_X5_decide N ⟨⟨B.exec, B.bytes, hml, findClass_of_methodNamed B.named, atoms_spec (ws := wsX5_decide) B.pre⟩, Nat.le_refl _, Nat.le_refl _, fun q h => Or.inr h, hN, hK⟩ hf hP hD0.self va_S.rf hl (fun pc H locs ls r hd hr hP hD hS => ?_)
  subst hr
  exact W.iret B.exec B.bytes B.returns (fun t ht hW => ⟨⟨_, (), rfl, rfl, by rw [ht]; exact hP, hD⟩, hS.F ht⟩) hS.2.2 hd
def q_X5_next_L85 (N : Nat) (v3 : Int32) : Nat → Int32 → (Nat → Int32) → Option (Nat → Int32)
  | 0, _, _ => none
  | n + 1, v5, f43 =>
    (if 24 ≤ v5 then
     (some f43)
    else
     (if v5 = v3 then
      (if z_in v5 24 then
      (q_X5_next_L85 N v3 n (v5 + 1) (upd f43 (Int32.toNatClampNeg v5) (vp_nar .boolean 1)))
      else none)
     else
      (if z_in v5 24 then
      (q_X5_next_L85 N v3 n (v5 + 1) (upd f43 (Int32.toNatClampNeg v5) (vp_nar .boolean 0)))
      else none)))
set_option maxHeartbeats 4000000 in
set_option maxRecDepth 100000 in
theorem b_X5_next_L85 {p : Program} {l : Launch} {e : Env} {R : Room} {s : State} {m : MethodId} {args : Array Value} {below : List Frame} {meth : Method} {c : Code} {Q : State → Prop} {A : Nat → Prop} {dC : Nat → ClassId} {dI : Nat → Nat → Nat} {cI cZ cJ cA : ClassId} {h0 : Nat} {a : Nat → Nat} (N : Nat) (C0 : z_Cx p s m args c cX5_next 6 wsX5_next RX5 R 2 43 A dC dI (z_ty cI cZ cJ cA)) : ∀ (n : Nat) {v1 : Int32} {v2 : Int32} {v3 : Int32} {v5 : Int32} {x1 : Int32} {x3 : Int32} {x4 : Int32} {x5 : Int32} {x6 : Int32} {x7 : Int32} {x9 : Int32} {x10 : Int32} {x14 : Int32} {x15 : Int32} {x16 : Int32} {x19 : Int32} {x20 : Int32} {x21 : Int32} {x22 : Int32} {x23 : Int32} {x24 : Int32} {x41 : Int32} {x42 : Int32} {f0 : (Nat → Int32)} {f2 : (Nat → Int32)} {f8 : (Nat → Int32)} {f11 : (Nat → Int32)} {f12 : (Nat → Int32)} {f13 : (Nat → Int32)} {f17 : (Nat → Int32)} {f18 : (Nat → Int32)} {f25 : (Nat → Int32)} {f26 : (Nat → Int32)} {f27 : (Nat → Int32)} {f28 : (Nat → Int32)} {f29 : (Nat → Int32)} {f30 : (Nat → Int32)} {f31 : (Nat → Int32)} {f32 : (Nat → Int32)} {f33 : (Nat → Int32)} {f34 : (Nat → Int32)} {f35 : (Nat → Int32)} {f36 : (Nat → Int32)} {f37 : (Nat → Int32)} {f38 : (Nat → Int32)} {f39 : (Nat → Int32)} {f40 : (Nat → Int32)} {f43 : (Nat → Int32)} {o : (Nat → Int32)} {H : Heap} {locs : List Loc} {ls : Array Slot}, q_X5_next_L85 N v3 n v5 f43 = some o → va_P (dC, dI) vwCl (wX5 cI cZ cJ cA h0 a x1 x3 x4 x5 x6 x7 x9 x10 x14 x15 x16 x19 x20 x21 x22 x23 x24 x41 x42 f0 f2 f8 f11 f12 f13 f17 f18 f25 f26 f27 f28 f29 f30 f31 f32 f33 f34 f35 f36 f37 f38 f39 f40 f43) H → va_D A (wX5 cI cZ cJ cA h0 a x1 x3 x4 x5 x6 x7 x9 x10 x14 x15 x16 x19 x20 x21 x22 x23 x24 x41 x42 f0 f2 f8 f11 f12 f13 f17 f18 f25 f26 f27 f28 f29 f30 f31 f32 f33 f34 f35 f36 f37 f38 f39 f40 f43) → va_S A s.heap H locs → lv_has ls 6 [(0, .ref h0), (1, .int v1), (2, .int v2), (3, .int v3), (4, .ref (a 43)), (5, .int v5)] →
    (∀ (H : Heap) (locs : List Loc) (ls : Array Slot), va_P (dC, dI) vwCl (wX5 cI cZ cJ cA h0 a x1 x3 x4 x5 x6 x7 x9 x10 x14 x15 x16 x19 x20 x21 x22 x23 x24 x41 x42 f0 f2 f8 f11 f12 f13 f17 f18 f25 f26 f27 f28 f29 f30 f31 f32 f33 f34 f35 f36 f37 f38 f39 f40 o) H → va_D A (wX5 cI cZ cJ cA h0 a x1 x3 x4 x5 x6 x7 x9 x10 x14 x15 x16 x19 x20 x21 x22 x23 x24 x41 x42 f0 f2 f8 f11 f12 f13 f17 f18 f25 f26 f27 f28 f29 f30 f31 f32 f33 f34 f35 f36 f37 f38 f39 f40 o) → va_S A s.heap H locs → lv_has ls 6 [(0, .ref h0), (1, .int v1), (2, .int v2), (4, .ref (a 43))] → W p l e R s m args below meth c H locs 0 0 Q (F0 m 114 ls [])) →
    W p l e R s m args below meth c H locs 0 0 Q (F0 m 85 ls []) := by
  obtain ⟨⟨hx, hb, hml, hown, hts⟩, hRf, hRl, hA, hN, hK⟩ := C0
  intro n
  induction n with
  | zero =>
    intro v1 v2 v3 v5 x1 x3 x4 x5 x6 x7 x9 x10 x14 x15 x16 x19 x20 x21 x22 x23 x24 x41 x42 f0 f2 f8 f11 f12 f13 f17 f18 f25 f26 f27 f28 f29 f30 f31 f32 f33 f34 f35 f36 f37 f38 f39 f40 f43 o H locs ls hf
    cases hf
  | succ n ih =>
    intro v1 v2 v3 v5 x1 x3 x4 x5 x6 x7 x9 x10 x14 x15 x16 x19 x20 x21 x22 x23 x24 x41 x42 f0 f2 f8 f11 f12 f13 f17 f18 f25 f26 f27 f28 f29 f30 f31 f32 f33 f34 f35 f36 f37 f38 f39 f40 f43 o H locs ls hf hP hD hS hl hexit
    rw [q_X5_next_L85] at hf
    refine lv_iload hx hb dX5_next_85 (lv_at hl 5 rfl) ?_
    refine lv_bipush (v := 24) hx hb dX5_next_87 (by decide) ?_
    refine lv_icmp_ge (tgt := 114) hx hb dX5_next_89 (by decide) (fun c1 => ?_) (fun c1 => ?_)
    · replace hf := z_ip hf c1
      obtain rfl := Option.some.inj hf
      exact hexit _ _ _ hP hD hS (lv_sub hl [0, 1, 2, 4] rfl)
    · replace hf := z_im hf c1
      refine lv_aload hx hb dX5_next_92 (lv_at hl 4 rfl) ?_
      refine lv_iload hx hb dX5_next_94 (lv_at hl 5 rfl) ?_
      refine lv_iload hx hb dX5_next_96 (lv_at hl 5 rfl) ?_
      refine lv_iload_n hx hb dX5_next_98 rfl (lv_at hl 3 rfl) ?_
      refine lv_icmp_ne (tgt := 106) hx hb dX5_next_99 (by decide) (fun c2 => ?_) (fun c2 => ?_)
      · replace hf := z_im hf c2
        refine lv_iconst (v := 0) hx hb dX5_next_106 (by decide) ?_
        have b3 := z_c1 hf
        replace hf := z_c2 hf
        refine va_zast hx hb hK hP hD hS 25 1 rfl rfl b3 dX5_next_107 (fun H locs hP hD hS => ?_)
        replace hP : va_P (dC, dI) vwCl (wX5 cI cZ cJ cA h0 a x1 x3 x4 x5 x6 x7 x9 x10 x14 x15 x16 x19 x20 x21 x22 x23 x24 x41 x42 f0 f2 f8 f11 f12 f13 f17 f18 f25 f26 f27 f28 f29 f30 f31 f32 f33 f34 f35 f36 f37 f38 f39 f40 (upd f43 (Int32.toNatClampNeg v5) (vp_nar .boolean 0))) H := hP
        replace hD : va_D A (wX5 cI cZ cJ cA h0 a x1 x3 x4 x5 x6 x7 x9 x10 x14 x15 x16 x19 x20 x21 x22 x23 x24 x41 x42 f0 f2 f8 f11 f12 f13 f17 f18 f25 f26 f27 f28 f29 f30 f31 f32 f33 f34 f35 f36 f37 f38 f39 f40 (upd f43 (Int32.toNatClampNeg v5) (vp_nar .boolean 0))) := hD
        refine lv_iinc (v := (v5 + 1)) (lv' := [(5, .int (v5 + 1)), (0, .ref h0), (1, .int v1), (2, .int v2), (3, .int v3), (4, .ref (a 43))]) hx hb dX5_next_108 hl (k := 5) rfl rfl (by decide) rfl (fun ls hl => ?_)
        refine lv_goto (tgt := 85) hx hb dX5_next_111 (by decide) ?_
        exact ih hf hP hD hS (lv_sub hl [1, 2, 3, 4, 5, 0] rfl) hexit
      · replace hf := z_ip hf c2
        refine lv_iconst (v := 1) hx hb dX5_next_102 (by decide) ?_
        refine lv_goto (tgt := 107) hx hb dX5_next_103 (by decide) ?_
        have b4 := z_c1 hf
        replace hf := z_c2 hf
        refine va_zast hx hb hK hP hD hS 25 1 rfl rfl b4 dX5_next_107 (fun H locs hP hD hS => ?_)
        replace hP : va_P (dC, dI) vwCl (wX5 cI cZ cJ cA h0 a x1 x3 x4 x5 x6 x7 x9 x10 x14 x15 x16 x19 x20 x21 x22 x23 x24 x41 x42 f0 f2 f8 f11 f12 f13 f17 f18 f25 f26 f27 f28 f29 f30 f31 f32 f33 f34 f35 f36 f37 f38 f39 f40 (upd f43 (Int32.toNatClampNeg v5) (vp_nar .boolean 1))) H := hP
        replace hD : va_D A (wX5 cI cZ cJ cA h0 a x1 x3 x4 x5 x6 x7 x9 x10 x14 x15 x16 x19 x20 x21 x22 x23 x24 x41 x42 f0 f2 f8 f11 f12 f13 f17 f18 f25 f26 f27 f28 f29 f30 f31 f32 f33 f34 f35 f36 f37 f38 f39 f40 (upd f43 (Int32.toNatClampNeg v5) (vp_nar .boolean 1))) := hD
        refine lv_iinc (v := (v5 + 1)) (lv' := [(5, .int (v5 + 1)), (0, .ref h0), (1, .int v1), (2, .int v2), (3, .int v3), (4, .ref (a 43))]) hx hb dX5_next_108 hl (k := 5) rfl rfl (by decide) rfl (fun ls hl => ?_)
        refine lv_goto (tgt := 85) hx hb dX5_next_111 (by decide) ?_
        exact ih hf hP hD hS (lv_sub hl [1, 2, 3, 4, 5, 0] rfl) hexit
def q_X5_next_L117 (N : Nat) (v1 : Int32) (f12 : (Nat → Int32)) : Nat → Int32 → (Nat → Int32) → Option (Nat → Int32)
  | 0, _, _ => none
  | n + 1, v5, f43 =>
    (if v1 ≤ v5 then
     (some f43)
    else
     (if z_in v5 24 then
     (if z_in (f12 (Int32.toNatClampNeg v5)) 24 then
     (q_X5_next_L117 N v1 f12 n (v5 + 1) (upd f43 (Int32.toNatClampNeg (f12 (Int32.toNatClampNeg v5))) (vp_nar .boolean 1)))
     else none)
     else none))
set_option maxHeartbeats 4000000 in
set_option maxRecDepth 100000 in
theorem b_X5_next_L117 {p : Program} {l : Launch} {e : Env} {R : Room} {s : State} {m : MethodId} {args : Array Value} {below : List Frame} {meth : Method} {c : Code} {Q : State → Prop} {A : Nat → Prop} {dC : Nat → ClassId} {dI : Nat → Nat → Nat} {cI cZ cJ cA : ClassId} {h0 : Nat} {a : Nat → Nat} (N : Nat) (C0 : z_Cx p s m args c cX5_next 6 wsX5_next RX5 R 2 43 A dC dI (z_ty cI cZ cJ cA)) : ∀ (n : Nat) {v1 : Int32} {v2 : Int32} {v5 : Int32} {x1 : Int32} {x3 : Int32} {x4 : Int32} {x5 : Int32} {x6 : Int32} {x7 : Int32} {x9 : Int32} {x10 : Int32} {x14 : Int32} {x15 : Int32} {x16 : Int32} {x19 : Int32} {x20 : Int32} {x21 : Int32} {x22 : Int32} {x23 : Int32} {x24 : Int32} {x41 : Int32} {x42 : Int32} {f0 : (Nat → Int32)} {f2 : (Nat → Int32)} {f8 : (Nat → Int32)} {f11 : (Nat → Int32)} {f12 : (Nat → Int32)} {f13 : (Nat → Int32)} {f17 : (Nat → Int32)} {f18 : (Nat → Int32)} {f25 : (Nat → Int32)} {f26 : (Nat → Int32)} {f27 : (Nat → Int32)} {f28 : (Nat → Int32)} {f29 : (Nat → Int32)} {f30 : (Nat → Int32)} {f31 : (Nat → Int32)} {f32 : (Nat → Int32)} {f33 : (Nat → Int32)} {f34 : (Nat → Int32)} {f35 : (Nat → Int32)} {f36 : (Nat → Int32)} {f37 : (Nat → Int32)} {f38 : (Nat → Int32)} {f39 : (Nat → Int32)} {f40 : (Nat → Int32)} {f43 : (Nat → Int32)} {o : (Nat → Int32)} {H : Heap} {locs : List Loc} {ls : Array Slot}, q_X5_next_L117 N v1 f12 n v5 f43 = some o → va_P (dC, dI) vwCl (wX5 cI cZ cJ cA h0 a x1 x3 x4 x5 x6 x7 x9 x10 x14 x15 x16 x19 x20 x21 x22 x23 x24 x41 x42 f0 f2 f8 f11 f12 f13 f17 f18 f25 f26 f27 f28 f29 f30 f31 f32 f33 f34 f35 f36 f37 f38 f39 f40 f43) H → va_D A (wX5 cI cZ cJ cA h0 a x1 x3 x4 x5 x6 x7 x9 x10 x14 x15 x16 x19 x20 x21 x22 x23 x24 x41 x42 f0 f2 f8 f11 f12 f13 f17 f18 f25 f26 f27 f28 f29 f30 f31 f32 f33 f34 f35 f36 f37 f38 f39 f40 f43) → va_S A s.heap H locs → lv_has ls 6 [(0, .ref h0), (1, .int v1), (2, .int v2), (4, .ref (a 43)), (5, .int v5)] →
    (∀ (H : Heap) (locs : List Loc) (ls : Array Slot), va_P (dC, dI) vwCl (wX5 cI cZ cJ cA h0 a x1 x3 x4 x5 x6 x7 x9 x10 x14 x15 x16 x19 x20 x21 x22 x23 x24 x41 x42 f0 f2 f8 f11 f12 f13 f17 f18 f25 f26 f27 f28 f29 f30 f31 f32 f33 f34 f35 f36 f37 f38 f39 f40 o) H → va_D A (wX5 cI cZ cJ cA h0 a x1 x3 x4 x5 x6 x7 x9 x10 x14 x15 x16 x19 x20 x21 x22 x23 x24 x41 x42 f0 f2 f8 f11 f12 f13 f17 f18 f25 f26 f27 f28 f29 f30 f31 f32 f33 f34 f35 f36 f37 f38 f39 f40 o) → va_S A s.heap H locs → lv_has ls 6 [(0, .ref h0), (2, .int v2), (4, .ref (a 43))] → W p l e R s m args below meth c H locs 0 0 Q (F0 m 140 ls [])) →
    W p l e R s m args below meth c H locs 0 0 Q (F0 m 117 ls []) := by
  obtain ⟨⟨hx, hb, hml, hown, hts⟩, hRf, hRl, hA, hN, hK⟩ := C0
  intro n
  induction n with
  | zero =>
    intro v1 v2 v5 x1 x3 x4 x5 x6 x7 x9 x10 x14 x15 x16 x19 x20 x21 x22 x23 x24 x41 x42 f0 f2 f8 f11 f12 f13 f17 f18 f25 f26 f27 f28 f29 f30 f31 f32 f33 f34 f35 f36 f37 f38 f39 f40 f43 o H locs ls hf
    cases hf
  | succ n ih =>
    intro v1 v2 v5 x1 x3 x4 x5 x6 x7 x9 x10 x14 x15 x16 x19 x20 x21 x22 x23 x24 x41 x42 f0 f2 f8 f11 f12 f13 f17 f18 f25 f26 f27 f28 f29 f30 f31 f32 f33 f34 f35 f36 f37 f38 f39 f40 f43 o H locs ls hf hP hD hS hl hexit
    rw [q_X5_next_L117] at hf
    refine lv_iload hx hb dX5_next_117 (lv_at hl 4 rfl) ?_
    refine lv_iload_n hx hb dX5_next_119 rfl (lv_at hl 1 rfl) ?_
    refine lv_icmp_ge (tgt := 140) hx hb dX5_next_120 (by decide) (fun c1 => ?_) (fun c1 => ?_)
    · replace hf := z_ip hf c1
      obtain rfl := Option.some.inj hf
      exact hexit _ _ _ hP hD hS (lv_sub hl [0, 2, 3] rfl)
    · replace hf := z_im hf c1
      refine lv_aload hx hb dX5_next_123 (lv_at hl 3 rfl) ?_
      refine lv_aload_n hx hb dX5_next_125 rfl (lv_at hl 0 rfl) ?_
      refine va_get (D := (dC, dI)) (ci := 5) (v := .ref (a 12)) (C := RX5) (T := TX5) (N := 44) hx hb hts (fun w hw => List.mem_cons_of_mem _ (List.mem_append_right _ hw)) hown hK hP 0 rfl rfl 12 (by decide) (hts (.fieldLink RX5 27 "OldStadiumModel" "won" "[I") (List.mem_of_getElem? (i := 3) rfl)) (fun _ h9 => h9) rfl dX5_next_126 ?_
      refine lv_iload hx hb dX5_next_129 (lv_at hl 4 rfl) ?_
      have b2 := z_c1 hf
      replace hf := z_c2 hf
      refine va_iald hx hb hK hP 5 0 rfl rfl b2 dX5_next_131 ?_
      refine lv_iconst (v := 1) hx hb dX5_next_132 (by decide) ?_
      have b3 := z_c1 hf
      replace hf := z_c2 hf
      refine va_zast hx hb hK hP hD hS 25 1 rfl rfl b3 dX5_next_133 (fun H locs hP hD hS => ?_)
      replace hP : va_P (dC, dI) vwCl (wX5 cI cZ cJ cA h0 a x1 x3 x4 x5 x6 x7 x9 x10 x14 x15 x16 x19 x20 x21 x22 x23 x24 x41 x42 f0 f2 f8 f11 f12 f13 f17 f18 f25 f26 f27 f28 f29 f30 f31 f32 f33 f34 f35 f36 f37 f38 f39 f40 (upd f43 (Int32.toNatClampNeg (f12 (Int32.toNatClampNeg v5))) (vp_nar .boolean 1))) H := hP
      replace hD : va_D A (wX5 cI cZ cJ cA h0 a x1 x3 x4 x5 x6 x7 x9 x10 x14 x15 x16 x19 x20 x21 x22 x23 x24 x41 x42 f0 f2 f8 f11 f12 f13 f17 f18 f25 f26 f27 f28 f29 f30 f31 f32 f33 f34 f35 f36 f37 f38 f39 f40 (upd f43 (Int32.toNatClampNeg (f12 (Int32.toNatClampNeg v5))) (vp_nar .boolean 1))) := hD
      refine lv_iinc (v := (v5 + 1)) (lv' := [(5, .int (v5 + 1)), (0, .ref h0), (1, .int v1), (2, .int v2), (4, .ref (a 43))]) hx hb dX5_next_134 hl (k := 4) rfl rfl (by decide) rfl (fun ls hl => ?_)
      refine lv_goto (tgt := 117) hx hb dX5_next_137 (by decide) ?_
      exact ih hf hP hD hS (lv_sub hl [1, 2, 3, 4, 0] rfl) hexit
def q_X5_next_L143 (N : Nat) (f43 : (Nat → Int32)) : Nat → Int32 → Int32 → (Nat → Int32) → Option (Int32 × (Nat → Int32))
  | 0, _, _, _ => none
  | n + 1, v2, v5, f8 =>
    (if 24 ≤ v5 then
     (some (v2, f8))
    else
     (if z_in v5 24 then
     (if (f43 (Int32.toNatClampNeg v5)) = 0 then
      (q_X5_next_L143 N f43 n v2 (v5 + 1) f8)
     else
      (if z_in v2 24 then
      (q_X5_next_L143 N f43 n (v2 + 1) (v5 + 1) (upd f8 (Int32.toNatClampNeg v2) v5))
      else none))
     else none))
set_option maxHeartbeats 4000000 in
set_option maxRecDepth 100000 in
theorem b_X5_next_L143 {p : Program} {l : Launch} {e : Env} {R : Room} {s : State} {m : MethodId} {args : Array Value} {below : List Frame} {meth : Method} {c : Code} {Q : State → Prop} {A : Nat → Prop} {dC : Nat → ClassId} {dI : Nat → Nat → Nat} {cI cZ cJ cA : ClassId} {h0 : Nat} {a : Nat → Nat} (N : Nat) (C0 : z_Cx p s m args c cX5_next 6 wsX5_next RX5 R 2 43 A dC dI (z_ty cI cZ cJ cA)) : ∀ (n : Nat) {v2 : Int32} {v5 : Int32} {x1 : Int32} {x3 : Int32} {x4 : Int32} {x5 : Int32} {x6 : Int32} {x7 : Int32} {x9 : Int32} {x10 : Int32} {x14 : Int32} {x15 : Int32} {x16 : Int32} {x19 : Int32} {x20 : Int32} {x21 : Int32} {x22 : Int32} {x23 : Int32} {x24 : Int32} {x41 : Int32} {x42 : Int32} {f0 : (Nat → Int32)} {f2 : (Nat → Int32)} {f8 : (Nat → Int32)} {f11 : (Nat → Int32)} {f12 : (Nat → Int32)} {f13 : (Nat → Int32)} {f17 : (Nat → Int32)} {f18 : (Nat → Int32)} {f25 : (Nat → Int32)} {f26 : (Nat → Int32)} {f27 : (Nat → Int32)} {f28 : (Nat → Int32)} {f29 : (Nat → Int32)} {f30 : (Nat → Int32)} {f31 : (Nat → Int32)} {f32 : (Nat → Int32)} {f33 : (Nat → Int32)} {f34 : (Nat → Int32)} {f35 : (Nat → Int32)} {f36 : (Nat → Int32)} {f37 : (Nat → Int32)} {f38 : (Nat → Int32)} {f39 : (Nat → Int32)} {f40 : (Nat → Int32)} {f43 : (Nat → Int32)} {o : (Int32 × (Nat → Int32))} {H : Heap} {locs : List Loc} {ls : Array Slot}, q_X5_next_L143 N f43 n v2 v5 f8 = some o → va_P (dC, dI) vwCl (wX5 cI cZ cJ cA h0 a x1 x3 x4 x5 x6 x7 x9 x10 x14 x15 x16 x19 x20 x21 x22 x23 x24 x41 x42 f0 f2 f8 f11 f12 f13 f17 f18 f25 f26 f27 f28 f29 f30 f31 f32 f33 f34 f35 f36 f37 f38 f39 f40 f43) H → va_D A (wX5 cI cZ cJ cA h0 a x1 x3 x4 x5 x6 x7 x9 x10 x14 x15 x16 x19 x20 x21 x22 x23 x24 x41 x42 f0 f2 f8 f11 f12 f13 f17 f18 f25 f26 f27 f28 f29 f30 f31 f32 f33 f34 f35 f36 f37 f38 f39 f40 f43) → va_S A s.heap H locs → lv_has ls 6 [(0, .ref h0), (2, .int v2), (4, .ref (a 43)), (5, .int v5)] →
    (∀ (H : Heap) (locs : List Loc) (ls : Array Slot), va_P (dC, dI) vwCl (wX5 cI cZ cJ cA h0 a x1 x3 x4 x5 x6 x7 x9 x10 x14 x15 x16 x19 x20 x21 x22 x23 x24 x41 x42 f0 f2 o.2 f11 f12 f13 f17 f18 f25 f26 f27 f28 f29 f30 f31 f32 f33 f34 f35 f36 f37 f38 f39 f40 f43) H → va_D A (wX5 cI cZ cJ cA h0 a x1 x3 x4 x5 x6 x7 x9 x10 x14 x15 x16 x19 x20 x21 x22 x23 x24 x41 x42 f0 f2 o.2 f11 f12 f13 f17 f18 f25 f26 f27 f28 f29 f30 f31 f32 f33 f34 f35 f36 f37 f38 f39 f40 f43) → va_S A s.heap H locs → lv_has ls 6 [(0, .ref h0), (2, .int o.1)] → W p l e R s m args below meth c H locs 0 0 Q (F0 m 178 ls [])) →
    W p l e R s m args below meth c H locs 0 0 Q (F0 m 143 ls []) := by
  obtain ⟨⟨hx, hb, hml, hown, hts⟩, hRf, hRl, hA, hN, hK⟩ := C0
  intro n
  induction n with
  | zero =>
    intro v2 v5 x1 x3 x4 x5 x6 x7 x9 x10 x14 x15 x16 x19 x20 x21 x22 x23 x24 x41 x42 f0 f2 f8 f11 f12 f13 f17 f18 f25 f26 f27 f28 f29 f30 f31 f32 f33 f34 f35 f36 f37 f38 f39 f40 f43 o H locs ls hf
    cases hf
  | succ n ih =>
    intro v2 v5 x1 x3 x4 x5 x6 x7 x9 x10 x14 x15 x16 x19 x20 x21 x22 x23 x24 x41 x42 f0 f2 f8 f11 f12 f13 f17 f18 f25 f26 f27 f28 f29 f30 f31 f32 f33 f34 f35 f36 f37 f38 f39 f40 f43 o H locs ls hf hP hD hS hl hexit
    rw [q_X5_next_L143] at hf
    refine lv_iload hx hb dX5_next_143 (lv_at hl 3 rfl) ?_
    refine lv_bipush (v := 24) hx hb dX5_next_145 (by decide) ?_
    refine lv_icmp_ge (tgt := 178) hx hb dX5_next_147 (by decide) (fun c1 => ?_) (fun c1 => ?_)
    · replace hf := z_ip hf c1
      obtain rfl := Option.some.inj hf
      exact hexit _ _ _ hP hD hS (lv_sub hl [0, 1] rfl)
    · replace hf := z_im hf c1
      refine lv_aload hx hb dX5_next_150 (lv_at hl 2 rfl) ?_
      refine lv_iload hx hb dX5_next_152 (lv_at hl 3 rfl) ?_
      have b2 := z_c1 hf
      replace hf := z_c2 hf
      refine va_zald hx hb hK hP 25 1 rfl rfl b2 dX5_next_154 ?_
      refine lv_if_ne (tgt := 161) hx hb dX5_next_155 (by decide) (fun c3 => ?_) (fun c3 => ?_)
      · replace hf := z_im hf c3
        refine lv_aload_n hx hb dX5_next_161 rfl (lv_at hl 0 rfl) ?_
        refine va_get (D := (dC, dI)) (ci := 5) (v := .ref (a 8)) (C := RX5) (T := TX5) (N := 44) hx hb hts (fun w hw => List.mem_cons_of_mem _ (List.mem_append_right _ hw)) hown hK hP 0 rfl rfl 8 (by decide) (hts (.fieldLink RX5 16 "OldStadiumModel" "row" "[I") (List.mem_of_getElem? (i := 6) rfl)) (fun _ h9 => h9) rfl dX5_next_162 ?_
        refine lv_iload_n hx hb dX5_next_165 rfl (lv_at hl 1 rfl) ?_
        refine lv_iload hx hb dX5_next_166 (lv_at hl 3 rfl) ?_
        have b4 := z_c1 hf
        replace hf := z_c2 hf
        refine va_iast hx hb hK hP hD hS 3 0 rfl rfl b4 dX5_next_168 (fun H locs hP hD hS => ?_)
        replace hP : va_P (dC, dI) vwCl (wX5 cI cZ cJ cA h0 a x1 x3 x4 x5 x6 x7 x9 x10 x14 x15 x16 x19 x20 x21 x22 x23 x24 x41 x42 f0 f2 (upd f8 (Int32.toNatClampNeg v2) v5) f11 f12 f13 f17 f18 f25 f26 f27 f28 f29 f30 f31 f32 f33 f34 f35 f36 f37 f38 f39 f40 f43) H := hP
        replace hD : va_D A (wX5 cI cZ cJ cA h0 a x1 x3 x4 x5 x6 x7 x9 x10 x14 x15 x16 x19 x20 x21 x22 x23 x24 x41 x42 f0 f2 (upd f8 (Int32.toNatClampNeg v2) v5) f11 f12 f13 f17 f18 f25 f26 f27 f28 f29 f30 f31 f32 f33 f34 f35 f36 f37 f38 f39 f40 f43) := hD
        refine lv_iinc (v := (v2 + 1)) (lv' := [(2, .int (v2 + 1)), (0, .ref h0), (4, .ref (a 43)), (5, .int v5)]) hx hb dX5_next_169 hl (k := 1) rfl rfl (by decide) rfl (fun ls hl => ?_)
        refine lv_iinc (v := (v5 + 1)) (lv' := [(5, .int (v5 + 1)), (2, .int (v2 + 1)), (0, .ref h0), (4, .ref (a 43))]) hx hb dX5_next_172 hl (k := 3) rfl rfl (by decide) rfl (fun ls hl => ?_)
        refine lv_goto (tgt := 143) hx hb dX5_next_175 (by decide) ?_
        exact ih hf hP hD hS (lv_sub hl [2, 1, 3, 0] rfl) hexit
      · replace hf := z_ip hf c3
        refine lv_goto (tgt := 172) hx hb dX5_next_158 (by decide) ?_
        refine lv_iinc (v := (v5 + 1)) (lv' := [(5, .int (v5 + 1)), (0, .ref h0), (2, .int v2), (4, .ref (a 43))]) hx hb dX5_next_172 hl (k := 3) rfl rfl (by decide) rfl (fun ls hl => ?_)
        refine lv_goto (tgt := 143) hx hb dX5_next_175 (by decide) ?_
        exact ih hf hP hD hS (lv_sub hl [1, 2, 3, 0] rfl) hexit
def q_X5_next (N : Nat) (x4 : Int32) (x5 : Int32) (x6 : Int32) (x7 : Int32) (x9 : Int32) (x10 : Int32) (x14 : Int32) (f8 : (Nat → Int32)) (f11 : (Nat → Int32)) (f12 : (Nat → Int32)) (f13 : (Nat → Int32)) (f43 : (Nat → Int32)) : Option (Int32 × Int32 × Int32 × Int32 × Int32 × Int32 × Int32 × (Nat → Int32) × (Nat → Int32) × (Nat → Int32) × (Nat → Int32) × (Nat → Int32)) :=
  (if x4 = 0 then
   (some ((-1), x4, x6, x7, x9, x10, x14, f8, f11, f12, f13, f43))
  else
   (Option.bind (q_X5_open N x5 x9 x10 f12) (fun o2 =>
   (if o2 ≤ 0 then
    (Option.bind (q_X5_heats N x5 x9 x10) (fun o4 =>
    (if x10 = (-1) then
     (if (o4 + 0) = 1 then
      (if o4 = 1 then
       (some (0, 0, x6, x7, x9, x10, (f12 (Int32.toNatClampNeg 0)), f8, f11, f12, f13, f43))
      else
       (some (0, 0, x6, x7, x9, x10, x10, f8, f11, f12, f13, f43)))
     else
      (Option.bind (q_X5_next_L85 N x10 N 0 f43) (fun t15 =>
      (Option.bind (q_X5_next_L117 N o4 f12 N 0 t15) (fun t16 =>
      (Option.bind (q_X5_next_L143 N t16 N 0 0 f8) (fun t17 =>
      (Option.bind (q_X5_mix N x5 x6 t17.1 x10 t17.2 f11 f12 f13) (fun o18 =>
      (Option.bind (q_X5_heats N x5 t17.1 o18.2.1) (fun o19 =>
      (some (o19, x4, o18.1, (x7 + 1), t17.1, o18.2.1, x14, o18.2.2.1, o18.2.2.2.1, o18.2.2.2.2.1, o18.2.2.2.2.2, t16)))))))))))))
    else
     (if (o4 + 1) = 1 then
      (if o4 = 1 then
       (some (0, 0, x6, x7, x9, x10, (f12 (Int32.toNatClampNeg 0)), f8, f11, f12, f13, f43))
      else
       (some (0, 0, x6, x7, x9, x10, x10, f8, f11, f12, f13, f43)))
     else
      (Option.bind (q_X5_next_L85 N x10 N 0 f43) (fun t7 =>
      (Option.bind (q_X5_next_L117 N o4 f12 N 0 t7) (fun t8 =>
      (Option.bind (q_X5_next_L143 N t8 N 0 0 f8) (fun t9 =>
      (Option.bind (q_X5_mix N x5 x6 t9.1 x10 t9.2 f11 f12 f13) (fun o10 =>
      (Option.bind (q_X5_heats N x5 t9.1 o10.2.1) (fun o11 =>
      (some (o11, x4, o10.1, (x7 + 1), t9.1, o10.2.1, x14, o10.2.2.1, o10.2.2.2.1, o10.2.2.2.2.1, o10.2.2.2.2.2, t8))))))))))))))))
   else
    (some ((-1), x4, x6, x7, x9, x10, x14, f8, f11, f12, f13, f43))))))
set_option maxHeartbeats 4000000 in
set_option maxRecDepth 100000 in
theorem b_X5_next {p : Program} {l : Launch} {e : Env} {R : Room} {s : State} {m : MethodId} {args : Array Value} {below : List Frame} {meth : Method} {c : Code} {Q : State → Prop} {A : Nat → Prop} {dC : Nat → ClassId} {dI : Nat → Nat → Nat} {cI cZ cJ cA : ClassId} {h0 : Nat} {a : Nat → Nat} (N : Nat) (C0 : z_Cx p s m args c cX5_next 6 wsX5_next RX5 R 2 43 A dC dI (z_ty cI cZ cJ cA)) {x1 : Int32} {x3 : Int32} {x4 : Int32} {x5 : Int32} {x6 : Int32} {x7 : Int32} {x9 : Int32} {x10 : Int32} {x14 : Int32} {x15 : Int32} {x16 : Int32} {x19 : Int32} {x20 : Int32} {x21 : Int32} {x22 : Int32} {x23 : Int32} {x24 : Int32} {x41 : Int32} {x42 : Int32} {f0 : (Nat → Int32)} {f2 : (Nat → Int32)} {f8 : (Nat → Int32)} {f11 : (Nat → Int32)} {f12 : (Nat → Int32)} {f13 : (Nat → Int32)} {f17 : (Nat → Int32)} {f18 : (Nat → Int32)} {f25 : (Nat → Int32)} {f26 : (Nat → Int32)} {f27 : (Nat → Int32)} {f28 : (Nat → Int32)} {f29 : (Nat → Int32)} {f30 : (Nat → Int32)} {f31 : (Nat → Int32)} {f32 : (Nat → Int32)} {f33 : (Nat → Int32)} {f34 : (Nat → Int32)} {f35 : (Nat → Int32)} {f36 : (Nat → Int32)} {f37 : (Nat → Int32)} {f38 : (Nat → Int32)} {f39 : (Nat → Int32)} {f40 : (Nat → Int32)} {f43 : (Nat → Int32)} {o : (Int32 × Int32 × Int32 × Int32 × Int32 × Int32 × Int32 × (Nat → Int32) × (Nat → Int32) × (Nat → Int32) × (Nat → Int32) × (Nat → Int32))} {H : Heap} {locs : List Loc} {ls : Array Slot} (hf : q_X5_next N x4 x5 x6 x7 x9 x10 x14 f8 f11 f12 f13 f43 = some o) (hP : va_P (dC, dI) vwCl (wX5 cI cZ cJ cA h0 a x1 x3 x4 x5 x6 x7 x9 x10 x14 x15 x16 x19 x20 x21 x22 x23 x24 x41 x42 f0 f2 f8 f11 f12 f13 f17 f18 f25 f26 f27 f28 f29 f30 f31 f32 f33 f34 f35 f36 f37 f38 f39 f40 f43) H) (hD : va_D A (wX5 cI cZ cJ cA h0 a x1 x3 x4 x5 x6 x7 x9 x10 x14 x15 x16 x19 x20 x21 x22 x23 x24 x41 x42 f0 f2 f8 f11 f12 f13 f17 f18 f25 f26 f27 f28 f29 f30 f31 f32 f33 f34 f35 f36 f37 f38 f39 f40 f43)) (hS : va_S A s.heap H locs) (hl : lv_has ls 6 [(0, .ref h0)])
    (hret : ∀ (pc : Nat) (H : Heap) (locs : List Loc) (ls : Array Slot) (r : Int32), decode cX5_next pc = .ok (.ireturn, 1) → r = o.1 → va_P (dC, dI) vwCl (wX5 cI cZ cJ cA h0 a x1 x3 o.2.1 x5 o.2.2.1 o.2.2.2.1 o.2.2.2.2.1 o.2.2.2.2.2.1 o.2.2.2.2.2.2.1 x15 x16 x19 x20 x21 x22 x23 x24 x41 x42 f0 f2 o.2.2.2.2.2.2.2.1 o.2.2.2.2.2.2.2.2.1 o.2.2.2.2.2.2.2.2.2.1 o.2.2.2.2.2.2.2.2.2.2.1 f17 f18 f25 f26 f27 f28 f29 f30 f31 f32 f33 f34 f35 f36 f37 f38 f39 f40 o.2.2.2.2.2.2.2.2.2.2.2) H → va_D A (wX5 cI cZ cJ cA h0 a x1 x3 o.2.1 x5 o.2.2.1 o.2.2.2.1 o.2.2.2.2.1 o.2.2.2.2.2.1 o.2.2.2.2.2.2.1 x15 x16 x19 x20 x21 x22 x23 x24 x41 x42 f0 f2 o.2.2.2.2.2.2.2.1 o.2.2.2.2.2.2.2.2.1 o.2.2.2.2.2.2.2.2.2.1 o.2.2.2.2.2.2.2.2.2.2.1 f17 f18 f25 f26 f27 f28 f29 f30 f31 f32 f33 f34 f35 f36 f37 f38 f39 f40 o.2.2.2.2.2.2.2.2.2.2.2) → va_S A s.heap H locs → W p l e R s m args below meth c H locs 0 0 Q (F0 m pc ls [.int r])) :
    W p l e R s m args below meth c H locs 0 0 Q (F0 m 0 ls []) := by
  obtain ⟨⟨hx, hb, hml, hown, hts⟩, hRf, hRl, hA, hN, hK⟩ := C0
  unfold q_X5_next at hf
  refine lv_aload_n hx hb dX5_next_0 rfl (lv_at hl 0 rfl) ?_
  refine va_get (D := (dC, dI)) (ci := 5) (v := .int x4) (C := RX5) (T := TX5) (N := 44) hx hb hts (fun w hw => List.mem_cons_of_mem _ (List.mem_append_right _ hw)) hown hK hP 0 rfl rfl 4 (by decide) (hts (.fieldLink RX5 116 "OldStadiumModel" "goes" "Z") (List.mem_of_getElem? (i := 1) rfl)) (fun _ h9 => h9) rfl dX5_next_1 ?_
  refine lv_if_eq (tgt := 14) hx hb dX5_next_4 (by decide) (fun c1 => ?_) (fun c1 => ?_)
  · replace hf := z_ip hf c1
    refine lv_iconst (v := (-1)) hx hb dX5_next_14 (by decide) ?_
    obtain rfl := Option.some.inj hf
    exact hret _ _ _ _ _ dX5_next_15 rfl hP hD hS
  · replace hf := z_im hf c1
    refine lv_aload_n hx hb dX5_next_7 rfl (lv_at hl 0 rfl) ?_
    obtain ⟨o2, ho2, hf1⟩ := z_ib hf
    replace hf := hf1
    clear hf1
    refine z_Vi (As := []) (rest := []) (w := (wX5 cI cZ cJ cA h0 a x1 x3 x4 x5 x6 x7 x9 x10 x14 x15 x16 x19 x20 x21 x22 x23 x24 x41 x42 f0 f2 f8 f11 f12 f13 f17 f18 f25 f26 f27 f28 f29 f30 f31 f32 f33 f34 f35 f36 f37 f38 f39 f40 f43)) (w1 := (wX5 cI cZ cJ cA h0 a x1 x3 x4 x5 x6 x7 x9 x10 x14 x15 x16 x19 x20 x21 x22 x23 x24 x41 x42 f0 f2 f8 f11 f12 f13 f17 f18 f25 f26 f27 f28 f29 f30 f31 f32 f33 f34 f35 f36 f37 f38 f39 f40 f43)) ⟨hx, hb, hml, hown, hts⟩ (k_X5_open l dC dI cI cZ cJ cA h0 a H.size N x1 x3 x4 x5 x6 x7 x9 x10 x14 x15 x16 x19 x20 x21 x22 x23 x24 x41 x42 f0 f2 f8 f11 f12 f13 f17 f18 f25 f26 f27 f28 f29 f30 f31 f32 f33 f34 f35 f36 f37 f38 f39 f40 f43 o2 ho2) (cwV 0 hts gX5_next_X5_open rfl rfl rfl (by decide +kernel) ⟨Nat.le_trans (Nat.le_of_ble_eq_true rfl) hRf, Nat.le_trans (Nat.le_of_ble_eq_true rfl) hRl⟩) hK hP hD hS hA hN (ci := 5) rfl rfl rfl rfl hl.1 rfl (Nat.le_of_ble_eq_true rfl) dX5_next_8 (fun H locs hP hD hS => ?_)
    refine lv_if_le (tgt := 16) hx hb dX5_next_11 (by decide) (fun c3 => ?_) (fun c3 => ?_)
    · replace hf := z_ip hf c3
      refine lv_aload_n hx hb dX5_next_16 rfl (lv_at hl 0 rfl) ?_
      obtain ⟨o4, ho4, hf1⟩ := z_ib hf
      replace hf := hf1
      clear hf1
      refine z_Vi (As := []) (rest := []) (w := (wX5 cI cZ cJ cA h0 a x1 x3 x4 x5 x6 x7 x9 x10 x14 x15 x16 x19 x20 x21 x22 x23 x24 x41 x42 f0 f2 f8 f11 f12 f13 f17 f18 f25 f26 f27 f28 f29 f30 f31 f32 f33 f34 f35 f36 f37 f38 f39 f40 f43)) (w1 := (wX5 cI cZ cJ cA h0 a x1 x3 x4 x5 x6 x7 x9 x10 x14 x15 x16 x19 x20 x21 x22 x23 x24 x41 x42 f0 f2 f8 f11 f12 f13 f17 f18 f25 f26 f27 f28 f29 f30 f31 f32 f33 f34 f35 f36 f37 f38 f39 f40 f43)) ⟨hx, hb, hml, hown, hts⟩ (k_X5_heats l dC dI cI cZ cJ cA h0 a H.size N x1 x3 x4 x5 x6 x7 x9 x10 x14 x15 x16 x19 x20 x21 x22 x23 x24 x41 x42 f0 f2 f8 f11 f12 f13 f17 f18 f25 f26 f27 f28 f29 f30 f31 f32 f33 f34 f35 f36 f37 f38 f39 f40 f43 o4 ho4) (cwV 0 hts gX5_next_X5_heats rfl rfl rfl (by decide +kernel) ⟨Nat.le_trans (Nat.le_of_ble_eq_true rfl) hRf, Nat.le_trans (Nat.le_of_ble_eq_true rfl) hRl⟩) hK hP hD hS hA hN (ci := 5) rfl rfl rfl rfl hl.1 rfl (Nat.le_of_ble_eq_true rfl) dX5_next_17 (fun H locs hP hD hS => ?_)
      refine lv_istore_n (lv' := [(1, .int o4), (0, .ref h0)]) hx hb dX5_next_20 rfl hl (by decide) rfl (fun ls hl => ?_)
      refine lv_iload_n hx hb dX5_next_21 rfl (lv_at hl 0 rfl) ?_
      refine lv_aload_n hx hb dX5_next_22 rfl (lv_at hl 1 rfl) ?_
      refine va_get (D := (dC, dI)) (ci := 5) (v := .int x10) (C := RX5) (T := TX5) (N := 44) hx hb hts (fun w hw => List.mem_cons_of_mem _ (List.mem_append_right _ hw)) hown hK hP 0 rfl rfl 10 (by decide) (hts (.fieldLink RX5 19 "OldStadiumModel" "bye" "I") (List.mem_of_getElem? (i := 2) rfl)) (fun _ h9 => h9) rfl dX5_next_23 ?_
      refine lv_iconst (v := (-1)) hx hb dX5_next_26 (by decide) ?_
      refine lv_icmp_ne (tgt := 34) hx hb dX5_next_27 (by decide) (fun c5 => ?_) (fun c5 => ?_)
      · replace hf := z_im hf c5
        refine lv_iconst (v := 1) hx hb dX5_next_34 (by decide) ?_
        refine lv_iadd hx hb dX5_next_35 ?_
        refine lv_iconst (v := 1) hx hb dX5_next_36 (by decide) ?_
        refine lv_icmp_ne (tgt := 69) hx hb dX5_next_37 (by decide) (fun c6 => ?_) (fun c6 => ?_)
        · replace hf := z_im hf c6
          refine lv_iconst (v := 0) hx hb dX5_next_69 (by decide) ?_
          refine lv_istore_n (lv' := [(2, .int 0), (1, .int o4), (0, .ref h0)]) hx hb dX5_next_70 rfl hl (by decide) rfl (fun ls hl => ?_)
          refine lv_aload_n hx hb dX5_next_71 rfl (lv_at hl 2 rfl) ?_
          refine va_get (D := (dC, dI)) (ci := 5) (v := .int x10) (C := RX5) (T := TX5) (N := 44) hx hb hts (fun w hw => List.mem_cons_of_mem _ (List.mem_append_right _ hw)) hown hK hP 0 rfl rfl 10 (by decide) (hts (.fieldLink RX5 19 "OldStadiumModel" "bye" "I") (List.mem_of_getElem? (i := 2) rfl)) (fun _ h9 => h9) rfl dX5_next_72 ?_
          refine lv_istore_n (lv' := [(3, .int x10), (2, .int 0), (1, .int o4), (0, .ref h0)]) hx hb dX5_next_75 rfl hl (by decide) rfl (fun ls hl => ?_)
          refine lv_aload_n hx hb dX5_next_76 rfl (lv_at hl 3 rfl) ?_
          refine va_get (D := (dC, dI)) (ci := 5) (v := .ref (a 43)) (C := RX5) (T := TX5) (N := 44) hx hb hts (fun w hw => List.mem_cons_of_mem _ (List.mem_append_right _ hw)) hown hK hP 0 rfl rfl 43 (by decide) (hts (.fieldLink RX5 93 "OldStadiumModel" "stays" "[Z") (List.mem_of_getElem? (i := 5) rfl)) (fun _ h9 => h9) rfl dX5_next_77 ?_
          refine lv_astore (lv' := [(4, .ref (a 43)), (3, .int x10), (2, .int 0), (1, .int o4), (0, .ref h0)]) hx hb dX5_next_80 hl (by decide) rfl (fun ls hl => ?_)
          refine lv_iconst (v := 0) hx hb dX5_next_82 (by decide) ?_
          refine lv_istore (lv' := [(5, .int 0), (4, .ref (a 43)), (3, .int x10), (2, .int 0), (1, .int o4), (0, .ref h0)]) hx hb dX5_next_83 hl (by decide) rfl (fun ls hl => ?_)
          obtain ⟨t7, ht7, hf1⟩ := z_ib hf
          replace hf := hf1
          clear hf1
          refine b_X5_next_L85 N ⟨⟨hx, hb, hml, hown, hts⟩, hRf, hRl, hA, hN, hK⟩ N ht7 hP hD hS (lv_sub hl [5, 4, 3, 2, 1, 0] rfl) (fun H locs ls hP hD hS hl => ?_)
          refine lv_iconst (v := 0) hx hb dX5_next_114 (by decide) ?_
          refine lv_istore (lv' := [(5, .int 0), (0, .ref h0), (1, .int o4), (2, .int 0), (4, .ref (a 43))]) hx hb dX5_next_115 hl (by decide) rfl (fun ls hl => ?_)
          obtain ⟨t8, ht8, hf1⟩ := z_ib hf
          replace hf := hf1
          clear hf1
          refine b_X5_next_L117 N ⟨⟨hx, hb, hml, hown, hts⟩, hRf, hRl, hA, hN, hK⟩ N ht8 hP hD hS (lv_sub hl [1, 2, 3, 4, 0] rfl) (fun H locs ls hP hD hS hl => ?_)
          refine lv_iconst (v := 0) hx hb dX5_next_140 (by decide) ?_
          refine lv_istore (lv' := [(5, .int 0), (0, .ref h0), (2, .int 0), (4, .ref (a 43))]) hx hb dX5_next_141 hl (by decide) rfl (fun ls hl => ?_)
          obtain ⟨t9, ht9, hf1⟩ := z_ib hf
          replace hf := hf1
          clear hf1
          refine b_X5_next_L143 N ⟨⟨hx, hb, hml, hown, hts⟩, hRf, hRl, hA, hN, hK⟩ N ht9 hP hD hS (lv_sub hl [1, 2, 3, 0] rfl) (fun H locs ls hP hD hS hl => ?_)
          refine lv_aload_n hx hb dX5_next_178 rfl (lv_at hl 0 rfl) ?_
          refine lv_iload_n hx hb dX5_next_179 rfl (lv_at hl 1 rfl) ?_
          refine va_put (D := (dC, dI)) (ci := 5) (v := .int t9.1) (ty := .int) (C := RX5) (T := TX5) (N := 44) hx hb hts (fun w hw => List.mem_cons_of_mem _ (List.mem_append_right _ hw)) tyX5 tyX5_ok nmX5 hown hK hP hD hS 0 rfl rfl 9 (by decide) (hts (.fieldLink RX5 106 "OldStadiumModel" "many" "I") (List.mem_of_getElem? (i := 7) rfl)) (fun _ h9 => h9) rfl (by decide +kernel) rfl rfl (Nat.le_of_ble_eq_true rfl) dX5_next_180 (fun H locs hP hD hS => ?_)
          replace hP : va_P (dC, dI) vwCl (wX5 cI cZ cJ cA h0 a x1 x3 x4 x5 x6 x7 t9.1 x10 x14 x15 x16 x19 x20 x21 x22 x23 x24 x41 x42 f0 f2 t9.2 f11 f12 f13 f17 f18 f25 f26 f27 f28 f29 f30 f31 f32 f33 f34 f35 f36 f37 f38 f39 f40 t8) H := hP
          replace hD : va_D A (wX5 cI cZ cJ cA h0 a x1 x3 x4 x5 x6 x7 t9.1 x10 x14 x15 x16 x19 x20 x21 x22 x23 x24 x41 x42 f0 f2 t9.2 f11 f12 f13 f17 f18 f25 f26 f27 f28 f29 f30 f31 f32 f33 f34 f35 f36 f37 f38 f39 f40 t8) := hD
          refine lv_aload_n hx hb dX5_next_183 rfl (lv_at hl 0 rfl) ?_
          refine lv_dup hx hb dX5_next_184 rfl ?_
          refine va_get (D := (dC, dI)) (ci := 5) (v := .int x7) (C := RX5) (T := TX5) (N := 44) hx hb hts (fun w hw => List.mem_cons_of_mem _ (List.mem_append_right _ hw)) hown hK hP 0 rfl rfl 7 (by decide) (hts (.fieldLink RX5 120 "OldStadiumModel" "round" "I") (List.mem_of_getElem? (i := 8) rfl)) (fun _ h9 => h9) rfl dX5_next_185 ?_
          refine lv_iconst (v := 1) hx hb dX5_next_188 (by decide) ?_
          refine lv_iadd hx hb dX5_next_189 ?_
          refine va_put (D := (dC, dI)) (ci := 5) (v := .int (x7 + 1)) (ty := .int) (C := RX5) (T := TX5) (N := 44) hx hb hts (fun w hw => List.mem_cons_of_mem _ (List.mem_append_right _ hw)) tyX5 tyX5_ok nmX5 hown hK hP hD hS 0 rfl rfl 7 (by decide) (hts (.fieldLink RX5 120 "OldStadiumModel" "round" "I") (List.mem_of_getElem? (i := 8) rfl)) (fun _ h9 => h9) rfl (by decide +kernel) rfl rfl (Nat.le_of_ble_eq_true rfl) dX5_next_190 (fun H locs hP hD hS => ?_)
          replace hP : va_P (dC, dI) vwCl (wX5 cI cZ cJ cA h0 a x1 x3 x4 x5 x6 (x7 + 1) t9.1 x10 x14 x15 x16 x19 x20 x21 x22 x23 x24 x41 x42 f0 f2 t9.2 f11 f12 f13 f17 f18 f25 f26 f27 f28 f29 f30 f31 f32 f33 f34 f35 f36 f37 f38 f39 f40 t8) H := hP
          replace hD : va_D A (wX5 cI cZ cJ cA h0 a x1 x3 x4 x5 x6 (x7 + 1) t9.1 x10 x14 x15 x16 x19 x20 x21 x22 x23 x24 x41 x42 f0 f2 t9.2 f11 f12 f13 f17 f18 f25 f26 f27 f28 f29 f30 f31 f32 f33 f34 f35 f36 f37 f38 f39 f40 t8) := hD
          refine lv_aload_n hx hb dX5_next_193 rfl (lv_at hl 0 rfl) ?_
          obtain ⟨o10, ho10, hf1⟩ := z_ib hf
          replace hf := hf1
          clear hf1
          refine z_Vv (As := []) (rest := []) (w := (wX5 cI cZ cJ cA h0 a x1 x3 x4 x5 x6 (x7 + 1) t9.1 x10 x14 x15 x16 x19 x20 x21 x22 x23 x24 x41 x42 f0 f2 t9.2 f11 f12 f13 f17 f18 f25 f26 f27 f28 f29 f30 f31 f32 f33 f34 f35 f36 f37 f38 f39 f40 t8)) (w1 := (wX5 cI cZ cJ cA h0 a x1 x3 x4 x5 o10.1 (x7 + 1) t9.1 o10.2.1 x14 x15 x16 x19 x20 x21 x22 x23 x24 x41 x42 f0 f2 o10.2.2.1 o10.2.2.2.1 o10.2.2.2.2.1 o10.2.2.2.2.2 f17 f18 f25 f26 f27 f28 f29 f30 f31 f32 f33 f34 f35 f36 f37 f38 f39 f40 t8)) ⟨hx, hb, hml, hown, hts⟩ (k_X5_mix l dC dI cI cZ cJ cA h0 a H.size N x1 x3 x4 x5 x6 (x7 + 1) t9.1 x10 x14 x15 x16 x19 x20 x21 x22 x23 x24 x41 x42 f0 f2 t9.2 f11 f12 f13 f17 f18 f25 f26 f27 f28 f29 f30 f31 f32 f33 f34 f35 f36 f37 f38 f39 f40 t8 o10 ho10) (cwV 0 hts gX5_next_X5_mix rfl rfl rfl (by decide +kernel) ⟨Nat.le_trans (Nat.le_of_ble_eq_true rfl) hRf, Nat.le_trans (Nat.le_of_ble_eq_true rfl) hRl⟩) hK hP hD hS hA hN (ci := 5) rfl rfl rfl rfl hl.1 rfl (Nat.le_of_ble_eq_true rfl) dX5_next_194 (fun H locs hP hD hS => ?_)
          refine lv_aload_n hx hb dX5_next_197 rfl (lv_at hl 0 rfl) ?_
          obtain ⟨o11, ho11, hf1⟩ := z_ib hf
          replace hf := hf1
          clear hf1
          refine z_Vi (As := []) (rest := []) (w := (wX5 cI cZ cJ cA h0 a x1 x3 x4 x5 o10.1 (x7 + 1) t9.1 o10.2.1 x14 x15 x16 x19 x20 x21 x22 x23 x24 x41 x42 f0 f2 o10.2.2.1 o10.2.2.2.1 o10.2.2.2.2.1 o10.2.2.2.2.2 f17 f18 f25 f26 f27 f28 f29 f30 f31 f32 f33 f34 f35 f36 f37 f38 f39 f40 t8)) (w1 := (wX5 cI cZ cJ cA h0 a x1 x3 x4 x5 o10.1 (x7 + 1) t9.1 o10.2.1 x14 x15 x16 x19 x20 x21 x22 x23 x24 x41 x42 f0 f2 o10.2.2.1 o10.2.2.2.1 o10.2.2.2.2.1 o10.2.2.2.2.2 f17 f18 f25 f26 f27 f28 f29 f30 f31 f32 f33 f34 f35 f36 f37 f38 f39 f40 t8)) ⟨hx, hb, hml, hown, hts⟩ (k_X5_heats l dC dI cI cZ cJ cA h0 a H.size N x1 x3 x4 x5 o10.1 (x7 + 1) t9.1 o10.2.1 x14 x15 x16 x19 x20 x21 x22 x23 x24 x41 x42 f0 f2 o10.2.2.1 o10.2.2.2.1 o10.2.2.2.2.1 o10.2.2.2.2.2 f17 f18 f25 f26 f27 f28 f29 f30 f31 f32 f33 f34 f35 f36 f37 f38 f39 f40 t8 o11 ho11) (cwV 0 hts gX5_next_X5_heats rfl rfl rfl (by decide +kernel) ⟨Nat.le_trans (Nat.le_of_ble_eq_true rfl) hRf, Nat.le_trans (Nat.le_of_ble_eq_true rfl) hRl⟩) hK hP hD hS hA hN (ci := 5) rfl rfl rfl rfl hl.1 rfl (Nat.le_of_ble_eq_true rfl) dX5_next_198 (fun H locs hP hD hS => ?_)
          obtain rfl := Option.some.inj hf
          exact hret _ _ _ _ _ dX5_next_201 rfl hP hD hS
        · replace hf := z_ip hf c6
          refine lv_aload_n hx hb dX5_next_40 rfl (lv_at hl 1 rfl) ?_
          refine lv_iload_n hx hb dX5_next_41 rfl (lv_at hl 0 rfl) ?_
          refine lv_iconst (v := 1) hx hb dX5_next_42 (by decide) ?_
          refine lv_icmp_ne (tgt := 55) hx hb dX5_next_43 (by decide) (fun c12 => ?_) (fun c12 => ?_)
          · replace hf := z_im hf c12
            refine lv_aload_n hx hb dX5_next_55 rfl (lv_at hl 1 rfl) ?_
            refine va_get (D := (dC, dI)) (ci := 5) (v := .int x10) (C := RX5) (T := TX5) (N := 44) hx hb hts (fun w hw => List.mem_cons_of_mem _ (List.mem_append_right _ hw)) hown hK hP 0 rfl rfl 10 (by decide) (hts (.fieldLink RX5 19 "OldStadiumModel" "bye" "I") (List.mem_of_getElem? (i := 2) rfl)) (fun _ h9 => h9) rfl dX5_next_56 ?_
            refine va_put (D := (dC, dI)) (ci := 5) (v := .int x10) (ty := .int) (C := RX5) (T := TX5) (N := 44) hx hb hts (fun w hw => List.mem_cons_of_mem _ (List.mem_append_right _ hw)) tyX5 tyX5_ok nmX5 hown hK hP hD hS 0 rfl rfl 14 (by decide) (hts (.fieldLink RX5 33 "OldStadiumModel" "victo\x72" "I") (List.mem_of_getElem? (i := 4) rfl)) (fun _ h9 => h9) rfl (by decide +kernel) rfl rfl (Nat.le_of_ble_eq_true rfl) dX5_next_59 (fun H locs hP hD hS => ?_)
            replace hP : va_P (dC, dI) vwCl (wX5 cI cZ cJ cA h0 a x1 x3 x4 x5 x6 x7 x9 x10 x10 x15 x16 x19 x20 x21 x22 x23 x24 x41 x42 f0 f2 f8 f11 f12 f13 f17 f18 f25 f26 f27 f28 f29 f30 f31 f32 f33 f34 f35 f36 f37 f38 f39 f40 f43) H := hP
            replace hD : va_D A (wX5 cI cZ cJ cA h0 a x1 x3 x4 x5 x6 x7 x9 x10 x10 x15 x16 x19 x20 x21 x22 x23 x24 x41 x42 f0 f2 f8 f11 f12 f13 f17 f18 f25 f26 f27 f28 f29 f30 f31 f32 f33 f34 f35 f36 f37 f38 f39 f40 f43) := hD
            refine lv_aload_n hx hb dX5_next_62 rfl (lv_at hl 1 rfl) ?_
            refine lv_iconst (v := 0) hx hb dX5_next_63 (by decide) ?_
            refine va_put (D := (dC, dI)) (ci := 5) (v := .int 0) (ty := .boolean) (C := RX5) (T := TX5) (N := 44) hx hb hts (fun w hw => List.mem_cons_of_mem _ (List.mem_append_right _ hw)) tyX5 tyX5_ok nmX5 hown hK hP hD hS 0 rfl rfl 4 (by decide) (hts (.fieldLink RX5 116 "OldStadiumModel" "goes" "Z") (List.mem_of_getElem? (i := 1) rfl)) (fun _ h9 => h9) rfl (by decide +kernel) rfl rfl (Nat.le_of_ble_eq_true rfl) dX5_next_64 (fun H locs hP hD hS => ?_)
            replace hP : va_P (dC, dI) vwCl (wX5 cI cZ cJ cA h0 a x1 x3 0 x5 x6 x7 x9 x10 x10 x15 x16 x19 x20 x21 x22 x23 x24 x41 x42 f0 f2 f8 f11 f12 f13 f17 f18 f25 f26 f27 f28 f29 f30 f31 f32 f33 f34 f35 f36 f37 f38 f39 f40 f43) H := hP
            replace hD : va_D A (wX5 cI cZ cJ cA h0 a x1 x3 0 x5 x6 x7 x9 x10 x10 x15 x16 x19 x20 x21 x22 x23 x24 x41 x42 f0 f2 f8 f11 f12 f13 f17 f18 f25 f26 f27 f28 f29 f30 f31 f32 f33 f34 f35 f36 f37 f38 f39 f40 f43) := hD
            refine lv_iconst (v := 0) hx hb dX5_next_67 (by decide) ?_
            obtain rfl := Option.some.inj hf
            exact hret _ _ _ _ _ dX5_next_68 rfl hP hD hS
          · replace hf := z_ip hf c12
            refine lv_aload_n hx hb dX5_next_46 rfl (lv_at hl 1 rfl) ?_
            refine va_get (D := (dC, dI)) (ci := 5) (v := .ref (a 12)) (C := RX5) (T := TX5) (N := 44) hx hb hts (fun w hw => List.mem_cons_of_mem _ (List.mem_append_right _ hw)) hown hK hP 0 rfl rfl 12 (by decide) (hts (.fieldLink RX5 27 "OldStadiumModel" "won" "[I") (List.mem_of_getElem? (i := 3) rfl)) (fun _ h9 => h9) rfl dX5_next_47 ?_
            refine lv_iconst (v := 0) hx hb dX5_next_50 (by decide) ?_
            have b13 : z_in 0 24 := by decide
            refine va_iald hx hb hK hP 5 0 rfl rfl b13 dX5_next_51 ?_
            refine lv_goto (tgt := 59) hx hb dX5_next_52 (by decide) ?_
            refine va_put (D := (dC, dI)) (ci := 5) (v := .int (f12 (Int32.toNatClampNeg 0))) (ty := .int) (C := RX5) (T := TX5) (N := 44) hx hb hts (fun w hw => List.mem_cons_of_mem _ (List.mem_append_right _ hw)) tyX5 tyX5_ok nmX5 hown hK hP hD hS 0 rfl rfl 14 (by decide) (hts (.fieldLink RX5 33 "OldStadiumModel" "victo\x72" "I") (List.mem_of_getElem? (i := 4) rfl)) (fun _ h9 => h9) rfl (by decide +kernel) rfl rfl (Nat.le_of_ble_eq_true rfl) dX5_next_59 (fun H locs hP hD hS => ?_)
            replace hP : va_P (dC, dI) vwCl (wX5 cI cZ cJ cA h0 a x1 x3 x4 x5 x6 x7 x9 x10 (f12 (Int32.toNatClampNeg 0)) x15 x16 x19 x20 x21 x22 x23 x24 x41 x42 f0 f2 f8 f11 f12 f13 f17 f18 f25 f26 f27 f28 f29 f30 f31 f32 f33 f34 f35 f36 f37 f38 f39 f40 f43) H := hP
            replace hD : va_D A (wX5 cI cZ cJ cA h0 a x1 x3 x4 x5 x6 x7 x9 x10 (f12 (Int32.toNatClampNeg 0)) x15 x16 x19 x20 x21 x22 x23 x24 x41 x42 f0 f2 f8 f11 f12 f13 f17 f18 f25 f26 f27 f28 f29 f30 f31 f32 f33 f34 f35 f36 f37 f38 f39 f40 f43) := hD
            refine lv_aload_n hx hb dX5_next_62 rfl (lv_at hl 1 rfl) ?_
            refine lv_iconst (v := 0) hx hb dX5_next_63 (by decide) ?_
            refine va_put (D := (dC, dI)) (ci := 5) (v := .int 0) (ty := .boolean) (C := RX5) (T := TX5) (N := 44) hx hb hts (fun w hw => List.mem_cons_of_mem _ (List.mem_append_right _ hw)) tyX5 tyX5_ok nmX5 hown hK hP hD hS 0 rfl rfl 4 (by decide) (hts (.fieldLink RX5 116 "OldStadiumModel" "goes" "Z") (List.mem_of_getElem? (i := 1) rfl)) (fun _ h9 => h9) rfl (by decide +kernel) rfl rfl (Nat.le_of_ble_eq_true rfl) dX5_next_64 (fun H locs hP hD hS => ?_)
            replace hP : va_P (dC, dI) vwCl (wX5 cI cZ cJ cA h0 a x1 x3 0 x5 x6 x7 x9 x10 (f12 (Int32.toNatClampNeg 0)) x15 x16 x19 x20 x21 x22 x23 x24 x41 x42 f0 f2 f8 f11 f12 f13 f17 f18 f25 f26 f27 f28 f29 f30 f31 f32 f33 f34 f35 f36 f37 f38 f39 f40 f43) H := hP
            replace hD : va_D A (wX5 cI cZ cJ cA h0 a x1 x3 0 x5 x6 x7 x9 x10 (f12 (Int32.toNatClampNeg 0)) x15 x16 x19 x20 x21 x22 x23 x24 x41 x42 f0 f2 f8 f11 f12 f13 f17 f18 f25 f26 f27 f28 f29 f30 f31 f32 f33 f34 f35 f36 f37 f38 f39 f40 f43) := hD
            refine lv_iconst (v := 0) hx hb dX5_next_67 (by decide) ?_
            obtain rfl := Option.some.inj hf
            exact hret _ _ _ _ _ dX5_next_68 rfl hP hD hS
      · replace hf := z_ip hf c5
        refine lv_iconst (v := 0) hx hb dX5_next_30 (by decide) ?_
        refine lv_goto (tgt := 35) hx hb dX5_next_31 (by decide) ?_
        refine lv_iadd hx hb dX5_next_35 ?_
        refine lv_iconst (v := 1) hx hb dX5_next_36 (by decide) ?_
        refine lv_icmp_ne (tgt := 69) hx hb dX5_next_37 (by decide) (fun c14 => ?_) (fun c14 => ?_)
        · replace hf := z_im hf c14
          refine lv_iconst (v := 0) hx hb dX5_next_69 (by decide) ?_
          refine lv_istore_n (lv' := [(2, .int 0), (1, .int o4), (0, .ref h0)]) hx hb dX5_next_70 rfl hl (by decide) rfl (fun ls hl => ?_)
          refine lv_aload_n hx hb dX5_next_71 rfl (lv_at hl 2 rfl) ?_
          refine va_get (D := (dC, dI)) (ci := 5) (v := .int x10) (C := RX5) (T := TX5) (N := 44) hx hb hts (fun w hw => List.mem_cons_of_mem _ (List.mem_append_right _ hw)) hown hK hP 0 rfl rfl 10 (by decide) (hts (.fieldLink RX5 19 "OldStadiumModel" "bye" "I") (List.mem_of_getElem? (i := 2) rfl)) (fun _ h9 => h9) rfl dX5_next_72 ?_
          refine lv_istore_n (lv' := [(3, .int x10), (2, .int 0), (1, .int o4), (0, .ref h0)]) hx hb dX5_next_75 rfl hl (by decide) rfl (fun ls hl => ?_)
          refine lv_aload_n hx hb dX5_next_76 rfl (lv_at hl 3 rfl) ?_
          refine va_get (D := (dC, dI)) (ci := 5) (v := .ref (a 43)) (C := RX5) (T := TX5) (N := 44) hx hb hts (fun w hw => List.mem_cons_of_mem _ (List.mem_append_right _ hw)) hown hK hP 0 rfl rfl 43 (by decide) (hts (.fieldLink RX5 93 "OldStadiumModel" "stays" "[Z") (List.mem_of_getElem? (i := 5) rfl)) (fun _ h9 => h9) rfl dX5_next_77 ?_
          refine lv_astore (lv' := [(4, .ref (a 43)), (3, .int x10), (2, .int 0), (1, .int o4), (0, .ref h0)]) hx hb dX5_next_80 hl (by decide) rfl (fun ls hl => ?_)
          refine lv_iconst (v := 0) hx hb dX5_next_82 (by decide) ?_
          refine lv_istore (lv' := [(5, .int 0), (4, .ref (a 43)), (3, .int x10), (2, .int 0), (1, .int o4), (0, .ref h0)]) hx hb dX5_next_83 hl (by decide) rfl (fun ls hl => ?_)
          obtain ⟨t15, ht15, hf1⟩ := z_ib hf
          replace hf := hf1
          clear hf1
          refine b_X5_next_L85 N ⟨⟨hx, hb, hml, hown, hts⟩, hRf, hRl, hA, hN, hK⟩ N ht15 hP hD hS (lv_sub hl [5, 4, 3, 2, 1, 0] rfl) (fun H locs ls hP hD hS hl => ?_)
          refine lv_iconst (v := 0) hx hb dX5_next_114 (by decide) ?_
          refine lv_istore (lv' := [(5, .int 0), (0, .ref h0), (1, .int o4), (2, .int 0), (4, .ref (a 43))]) hx hb dX5_next_115 hl (by decide) rfl (fun ls hl => ?_)
          obtain ⟨t16, ht16, hf1⟩ := z_ib hf
          replace hf := hf1
          clear hf1
          refine b_X5_next_L117 N ⟨⟨hx, hb, hml, hown, hts⟩, hRf, hRl, hA, hN, hK⟩ N ht16 hP hD hS (lv_sub hl [1, 2, 3, 4, 0] rfl) (fun H locs ls hP hD hS hl => ?_)
          refine lv_iconst (v := 0) hx hb dX5_next_140 (by decide) ?_
          refine lv_istore (lv' := [(5, .int 0), (0, .ref h0), (2, .int 0), (4, .ref (a 43))]) hx hb dX5_next_141 hl (by decide) rfl (fun ls hl => ?_)
          obtain ⟨t17, ht17, hf1⟩ := z_ib hf
          replace hf := hf1
          clear hf1
          refine b_X5_next_L143 N ⟨⟨hx, hb, hml, hown, hts⟩, hRf, hRl, hA, hN, hK⟩ N ht17 hP hD hS (lv_sub hl [1, 2, 3, 0] rfl) (fun H locs ls hP hD hS hl => ?_)
          refine lv_aload_n hx hb dX5_next_178 rfl (lv_at hl 0 rfl) ?_
          refine lv_iload_n hx hb dX5_next_179 rfl (lv_at hl 1 rfl) ?_
          refine va_put (D := (dC, dI)) (ci := 5) (v := .int t17.1) (ty := .int) (C := RX5) (T := TX5) (N := 44) hx hb hts (fun w hw => List.mem_cons_of_mem _ (List.mem_append_right _ hw)) tyX5 tyX5_ok nmX5 hown hK hP hD hS 0 rfl rfl 9 (by decide) (hts (.fieldLink RX5 106 "OldStadiumModel" "many" "I") (List.mem_of_getElem? (i := 7) rfl)) (fun _ h9 => h9) rfl (by decide +kernel) rfl rfl (Nat.le_of_ble_eq_true rfl) dX5_next_180 (fun H locs hP hD hS => ?_)
          replace hP : va_P (dC, dI) vwCl (wX5 cI cZ cJ cA h0 a x1 x3 x4 x5 x6 x7 t17.1 x10 x14 x15 x16 x19 x20 x21 x22 x23 x24 x41 x42 f0 f2 t17.2 f11 f12 f13 f17 f18 f25 f26 f27 f28 f29 f30 f31 f32 f33 f34 f35 f36 f37 f38 f39 f40 t16) H := hP
          replace hD : va_D A (wX5 cI cZ cJ cA h0 a x1 x3 x4 x5 x6 x7 t17.1 x10 x14 x15 x16 x19 x20 x21 x22 x23 x24 x41 x42 f0 f2 t17.2 f11 f12 f13 f17 f18 f25 f26 f27 f28 f29 f30 f31 f32 f33 f34 f35 f36 f37 f38 f39 f40 t16) := hD
          refine lv_aload_n hx hb dX5_next_183 rfl (lv_at hl 0 rfl) ?_
          refine lv_dup hx hb dX5_next_184 rfl ?_
          refine va_get (D := (dC, dI)) (ci := 5) (v := .int x7) (C := RX5) (T := TX5) (N := 44) hx hb hts (fun w hw => List.mem_cons_of_mem _ (List.mem_append_right _ hw)) hown hK hP 0 rfl rfl 7 (by decide) (hts (.fieldLink RX5 120 "OldStadiumModel" "round" "I") (List.mem_of_getElem? (i := 8) rfl)) (fun _ h9 => h9) rfl dX5_next_185 ?_
          refine lv_iconst (v := 1) hx hb dX5_next_188 (by decide) ?_
          refine lv_iadd hx hb dX5_next_189 ?_
          refine va_put (D := (dC, dI)) (ci := 5) (v := .int (x7 + 1)) (ty := .int) (C := RX5) (T := TX5) (N := 44) hx hb hts (fun w hw => List.mem_cons_of_mem _ (List.mem_append_right _ hw)) tyX5 tyX5_ok nmX5 hown hK hP hD hS 0 rfl rfl 7 (by decide) (hts (.fieldLink RX5 120 "OldStadiumModel" "round" "I") (List.mem_of_getElem? (i := 8) rfl)) (fun _ h9 => h9) rfl (by decide +kernel) rfl rfl (Nat.le_of_ble_eq_true rfl) dX5_next_190 (fun H locs hP hD hS => ?_)
          replace hP : va_P (dC, dI) vwCl (wX5 cI cZ cJ cA h0 a x1 x3 x4 x5 x6 (x7 + 1) t17.1 x10 x14 x15 x16 x19 x20 x21 x22 x23 x24 x41 x42 f0 f2 t17.2 f11 f12 f13 f17 f18 f25 f26 f27 f28 f29 f30 f31 f32 f33 f34 f35 f36 f37 f38 f39 f40 t16) H := hP
          replace hD : va_D A (wX5 cI cZ cJ cA h0 a x1 x3 x4 x5 x6 (x7 + 1) t17.1 x10 x14 x15 x16 x19 x20 x21 x22 x23 x24 x41 x42 f0 f2 t17.2 f11 f12 f13 f17 f18 f25 f26 f27 f28 f29 f30 f31 f32 f33 f34 f35 f36 f37 f38 f39 f40 t16) := hD
          refine lv_aload_n hx hb dX5_next_193 rfl (lv_at hl 0 rfl) ?_
          obtain ⟨o18, ho18, hf1⟩ := z_ib hf
          replace hf := hf1
          clear hf1
          refine z_Vv (As := []) (rest := []) (w := (wX5 cI cZ cJ cA h0 a x1 x3 x4 x5 x6 (x7 + 1) t17.1 x10 x14 x15 x16 x19 x20 x21 x22 x23 x24 x41 x42 f0 f2 t17.2 f11 f12 f13 f17 f18 f25 f26 f27 f28 f29 f30 f31 f32 f33 f34 f35 f36 f37 f38 f39 f40 t16)) (w1 := (wX5 cI cZ cJ cA h0 a x1 x3 x4 x5 o18.1 (x7 + 1) t17.1 o18.2.1 x14 x15 x16 x19 x20 x21 x22 x23 x24 x41 x42 f0 f2 o18.2.2.1 o18.2.2.2.1 o18.2.2.2.2.1 o18.2.2.2.2.2 f17 f18 f25 f26 f27 f28 f29 f30 f31 f32 f33 f34 f35 f36 f37 f38 f39 f40 t16)) ⟨hx, hb, hml, hown, hts⟩ (k_X5_mix l dC dI cI cZ cJ cA h0 a H.size N x1 x3 x4 x5 x6 (x7 + 1) t17.1 x10 x14 x15 x16 x19 x20 x21 x22 x23 x24 x41 x42 f0 f2 t17.2 f11 f12 f13 f17 f18 f25 f26 f27 f28 f29 f30 f31 f32 f33 f34 f35 f36 f37 f38 f39 f40 t16 o18 ho18) (cwV 0 hts gX5_next_X5_mix rfl rfl rfl (by decide +kernel) ⟨Nat.le_trans (Nat.le_of_ble_eq_true rfl) hRf, Nat.le_trans (Nat.le_of_ble_eq_true rfl) hRl⟩) hK hP hD hS hA hN (ci := 5) rfl rfl rfl rfl hl.1 rfl (Nat.le_of_ble_eq_true rfl) dX5_next_194 (fun H locs hP hD hS => ?_)
          refine lv_aload_n hx hb dX5_next_197 rfl (lv_at hl 0 rfl) ?_
          obtain ⟨o19, ho19, hf1⟩ := z_ib hf
          replace hf := hf1
          clear hf1
          refine z_Vi (As := []) (rest := []) (w := (wX5 cI cZ cJ cA h0 a x1 x3 x4 x5 o18.1 (x7 + 1) t17.1 o18.2.1 x14 x15 x16 x19 x20 x21 x22 x23 x24 x41 x42 f0 f2 o18.2.2.1 o18.2.2.2.1 o18.2.2.2.2.1 o18.2.2.2.2.2 f17 f18 f25 f26 f27 f28 f29 f30 f31 f32 f33 f34 f35 f36 f37 f38 f39 f40 t16)) (w1 := (wX5 cI cZ cJ cA h0 a x1 x3 x4 x5 o18.1 (x7 + 1) t17.1 o18.2.1 x14 x15 x16 x19 x20 x21 x22 x23 x24 x41 x42 f0 f2 o18.2.2.1 o18.2.2.2.1 o18.2.2.2.2.1 o18.2.2.2.2.2 f17 f18 f25 f26 f27 f28 f29 f30 f31 f32 f33 f34 f35 f36 f37 f38 f39 f40 t16)) ⟨hx, hb, hml, hown, hts⟩ (k_X5_heats l dC dI cI cZ cJ cA h0 a H.size N x1 x3 x4 x5 o18.1 (x7 + 1) t17.1 o18.2.1 x14 x15 x16 x19 x20 x21 x22 x23 x24 x41 x42 f0 f2 o18.2.2.1 o18.2.2.2.1 o18.2.2.2.2.1 o18.2.2.2.2.2 f17 f18 f25 f26 f27 f28 f29 f30 f31 f32 f33 f34 f35 f36 f37 f38 f39 f40 t16 o19 ho19) (cwV 0 hts gX5_next_X5_heats rfl rfl rfl (by decide +kernel) ⟨Nat.le_trans (Nat.le_of_ble_eq_true rfl) hRf, Nat.le_trans (Nat.le_of_ble_eq_true rfl) hRl⟩) hK hP hD hS hA hN (ci := 5) rfl rfl rfl rfl hl.1 rfl (Nat.le_of_ble_eq_true rfl) dX5_next_198 (fun H locs hP hD hS => ?_)
          obtain rfl := Option.some.inj hf
          exact hret _ _ _ _ _ dX5_next_201 rfl hP hD hS
        · replace hf := z_ip hf c14
          refine lv_aload_n hx hb dX5_next_40 rfl (lv_at hl 1 rfl) ?_
          refine lv_iload_n hx hb dX5_next_41 rfl (lv_at hl 0 rfl) ?_
          refine lv_iconst (v := 1) hx hb dX5_next_42 (by decide) ?_
          refine lv_icmp_ne (tgt := 55) hx hb dX5_next_43 (by decide) (fun c20 => ?_) (fun c20 => ?_)
          · replace hf := z_im hf c20
            refine lv_aload_n hx hb dX5_next_55 rfl (lv_at hl 1 rfl) ?_
            refine va_get (D := (dC, dI)) (ci := 5) (v := .int x10) (C := RX5) (T := TX5) (N := 44) hx hb hts (fun w hw => List.mem_cons_of_mem _ (List.mem_append_right _ hw)) hown hK hP 0 rfl rfl 10 (by decide) (hts (.fieldLink RX5 19 "OldStadiumModel" "bye" "I") (List.mem_of_getElem? (i := 2) rfl)) (fun _ h9 => h9) rfl dX5_next_56 ?_
            refine va_put (D := (dC, dI)) (ci := 5) (v := .int x10) (ty := .int) (C := RX5) (T := TX5) (N := 44) hx hb hts (fun w hw => List.mem_cons_of_mem _ (List.mem_append_right _ hw)) tyX5 tyX5_ok nmX5 hown hK hP hD hS 0 rfl rfl 14 (by decide) (hts (.fieldLink RX5 33 "OldStadiumModel" "victo\x72" "I") (List.mem_of_getElem? (i := 4) rfl)) (fun _ h9 => h9) rfl (by decide +kernel) rfl rfl (Nat.le_of_ble_eq_true rfl) dX5_next_59 (fun H locs hP hD hS => ?_)
            replace hP : va_P (dC, dI) vwCl (wX5 cI cZ cJ cA h0 a x1 x3 x4 x5 x6 x7 x9 x10 x10 x15 x16 x19 x20 x21 x22 x23 x24 x41 x42 f0 f2 f8 f11 f12 f13 f17 f18 f25 f26 f27 f28 f29 f30 f31 f32 f33 f34 f35 f36 f37 f38 f39 f40 f43) H := hP
            replace hD : va_D A (wX5 cI cZ cJ cA h0 a x1 x3 x4 x5 x6 x7 x9 x10 x10 x15 x16 x19 x20 x21 x22 x23 x24 x41 x42 f0 f2 f8 f11 f12 f13 f17 f18 f25 f26 f27 f28 f29 f30 f31 f32 f33 f34 f35 f36 f37 f38 f39 f40 f43) := hD
            refine lv_aload_n hx hb dX5_next_62 rfl (lv_at hl 1 rfl) ?_
            refine lv_iconst (v := 0) hx hb dX5_next_63 (by decide) ?_
            refine va_put (D := (dC, dI)) (ci := 5) (v := .int 0) (ty := .boolean) (C := RX5) (T := TX5) (N := 44) hx hb hts (fun w hw => List.mem_cons_of_mem _ (List.mem_append_right _ hw)) tyX5 tyX5_ok nmX5 hown hK hP hD hS 0 rfl rfl 4 (by decide) (hts (.fieldLink RX5 116 "OldStadiumModel" "goes" "Z") (List.mem_of_getElem? (i := 1) rfl)) (fun _ h9 => h9) rfl (by decide +kernel) rfl rfl (Nat.le_of_ble_eq_true rfl) dX5_next_64 (fun H locs hP hD hS => ?_)
            replace hP : va_P (dC, dI) vwCl (wX5 cI cZ cJ cA h0 a x1 x3 0 x5 x6 x7 x9 x10 x10 x15 x16 x19 x20 x21 x22 x23 x24 x41 x42 f0 f2 f8 f11 f12 f13 f17 f18 f25 f26 f27 f28 f29 f30 f31 f32 f33 f34 f35 f36 f37 f38 f39 f40 f43) H := hP
            replace hD : va_D A (wX5 cI cZ cJ cA h0 a x1 x3 0 x5 x6 x7 x9 x10 x10 x15 x16 x19 x20 x21 x22 x23 x24 x41 x42 f0 f2 f8 f11 f12 f13 f17 f18 f25 f26 f27 f28 f29 f30 f31 f32 f33 f34 f35 f36 f37 f38 f39 f40 f43) := hD
            refine lv_iconst (v := 0) hx hb dX5_next_67 (by decide) ?_
            obtain rfl := Option.some.inj hf
            exact hret _ _ _ _ _ dX5_next_68 rfl hP hD hS
          · replace hf := z_ip hf c20
            refine lv_aload_n hx hb dX5_next_46 rfl (lv_at hl 1 rfl) ?_
            refine va_get (D := (dC, dI)) (ci := 5) (v := .ref (a 12)) (C := RX5) (T := TX5) (N := 44) hx hb hts (fun w hw => List.mem_cons_of_mem _ (List.mem_append_right _ hw)) hown hK hP 0 rfl rfl 12 (by decide) (hts (.fieldLink RX5 27 "OldStadiumModel" "won" "[I") (List.mem_of_getElem? (i := 3) rfl)) (fun _ h9 => h9) rfl dX5_next_47 ?_
            refine lv_iconst (v := 0) hx hb dX5_next_50 (by decide) ?_
            have b21 : z_in 0 24 := by decide
            refine va_iald hx hb hK hP 5 0 rfl rfl b21 dX5_next_51 ?_
            refine lv_goto (tgt := 59) hx hb dX5_next_52 (by decide) ?_
            refine va_put (D := (dC, dI)) (ci := 5) (v := .int (f12 (Int32.toNatClampNeg 0))) (ty := .int) (C := RX5) (T := TX5) (N := 44) hx hb hts (fun w hw => List.mem_cons_of_mem _ (List.mem_append_right _ hw)) tyX5 tyX5_ok nmX5 hown hK hP hD hS 0 rfl rfl 14 (by decide) (hts (.fieldLink RX5 33 "OldStadiumModel" "victo\x72" "I") (List.mem_of_getElem? (i := 4) rfl)) (fun _ h9 => h9) rfl (by decide +kernel) rfl rfl (Nat.le_of_ble_eq_true rfl) dX5_next_59 (fun H locs hP hD hS => ?_)
            replace hP : va_P (dC, dI) vwCl (wX5 cI cZ cJ cA h0 a x1 x3 x4 x5 x6 x7 x9 x10 (f12 (Int32.toNatClampNeg 0)) x15 x16 x19 x20 x21 x22 x23 x24 x41 x42 f0 f2 f8 f11 f12 f13 f17 f18 f25 f26 f27 f28 f29 f30 f31 f32 f33 f34 f35 f36 f37 f38 f39 f40 f43) H := hP
            replace hD : va_D A (wX5 cI cZ cJ cA h0 a x1 x3 x4 x5 x6 x7 x9 x10 (f12 (Int32.toNatClampNeg 0)) x15 x16 x19 x20 x21 x22 x23 x24 x41 x42 f0 f2 f8 f11 f12 f13 f17 f18 f25 f26 f27 f28 f29 f30 f31 f32 f33 f34 f35 f36 f37 f38 f39 f40 f43) := hD
            refine lv_aload_n hx hb dX5_next_62 rfl (lv_at hl 1 rfl) ?_
            refine lv_iconst (v := 0) hx hb dX5_next_63 (by decide) ?_
            refine va_put (D := (dC, dI)) (ci := 5) (v := .int 0) (ty := .boolean) (C := RX5) (T := TX5) (N := 44) hx hb hts (fun w hw => List.mem_cons_of_mem _ (List.mem_append_right _ hw)) tyX5 tyX5_ok nmX5 hown hK hP hD hS 0 rfl rfl 4 (by decide) (hts (.fieldLink RX5 116 "OldStadiumModel" "goes" "Z") (List.mem_of_getElem? (i := 1) rfl)) (fun _ h9 => h9) rfl (by decide +kernel) rfl rfl (Nat.le_of_ble_eq_true rfl) dX5_next_64 (fun H locs hP hD hS => ?_)
            replace hP : va_P (dC, dI) vwCl (wX5 cI cZ cJ cA h0 a x1 x3 0 x5 x6 x7 x9 x10 (f12 (Int32.toNatClampNeg 0)) x15 x16 x19 x20 x21 x22 x23 x24 x41 x42 f0 f2 f8 f11 f12 f13 f17 f18 f25 f26 f27 f28 f29 f30 f31 f32 f33 f34 f35 f36 f37 f38 f39 f40 f43) H := hP
            replace hD : va_D A (wX5 cI cZ cJ cA h0 a x1 x3 0 x5 x6 x7 x9 x10 (f12 (Int32.toNatClampNeg 0)) x15 x16 x19 x20 x21 x22 x23 x24 x41 x42 f0 f2 f8 f11 f12 f13 f17 f18 f25 f26 f27 f28 f29 f30 f31 f32 f33 f34 f35 f36 f37 f38 f39 f40 f43) := hD
            refine lv_iconst (v := 0) hx hb dX5_next_67 (by decide) ?_
            obtain rfl := Option.some.inj hf
            exact hret _ _ _ _ _ dX5_next_68 rfl hP hD hS
    · replace hf := z_im hf c3
      refine lv_iconst (v := (-1)) hx hb dX5_next_14 (by decide) ?_
      obtain rfl := Option.some.inj hf
      exact hret _ _ _ _ _ dX5_next_15 rfl hP hD hS
set_option maxHeartbeats 4000000 in
set_option maxRecDepth 100000 in
theorem k_X5_next (l : Launch) (dC : Nat → ClassId) (dI : Nat → Nat → Nat) (cI cZ cJ cA : ClassId) (h0 : Nat) (a : Nat → Nat) (sz : Nat) (N : Nat) (x1 : Int32) (x3 : Int32) (x4 : Int32) (x5 : Int32) (x6 : Int32) (x7 : Int32) (x9 : Int32) (x10 : Int32) (x14 : Int32) (x15 : Int32) (x16 : Int32) (x19 : Int32) (x20 : Int32) (x21 : Int32) (x22 : Int32) (x23 : Int32) (x24 : Int32) (x41 : Int32) (x42 : Int32) (f0 : (Nat → Int32)) (f2 : (Nat → Int32)) (f8 : (Nat → Int32)) (f11 : (Nat → Int32)) (f12 : (Nat → Int32)) (f13 : (Nat → Int32)) (f17 : (Nat → Int32)) (f18 : (Nat → Int32)) (f25 : (Nat → Int32)) (f26 : (Nat → Int32)) (f27 : (Nat → Int32)) (f28 : (Nat → Int32)) (f29 : (Nat → Int32)) (f30 : (Nat → Int32)) (f31 : (Nat → Int32)) (f32 : (Nat → Int32)) (f33 : (Nat → Int32)) (f34 : (Nat → Int32)) (f35 : (Nat → Int32)) (f36 : (Nat → Int32)) (f37 : (Nat → Int32)) (f38 : (Nat → Int32)) (f39 : (Nat → Int32)) (f40 : (Nat → Int32)) (f43 : (Nat → Int32)) (o : (Int32 × Int32 × Int32 × Int32 × Int32 × Int32 × Int32 × (Nat → Int32) × (Nat → Int32) × (Nat → Int32) × (Nat → Int32) × (Nat → Int32))) (hf : q_X5_next N x4 x5 x6 x7 x9 x10 x14 f8 f11 f12 f13 f43 = some o) : Met l yX5_next wsX5_next ({ frames := 2, cells := 0, slots := 0, locals := 43 } : Room) (z_Pre dC dI (z_ty cI cZ cJ cA) [.ref h0] sz (wX5 cI cZ cJ cA h0 a x1 x3 x4 x5 x6 x7 x9 x10 x14 x15 x16 x19 x20 x21 x22 x23 x24 x41 x42 f0 f2 f8 f11 f12 f13 f17 f18 f25 f26 f27 f28 f29 f30 f31 f32 f33 f34 f35 f36 f37 f38 f39 f40 f43)) (z_Pi dC dI o.1 (wX5 cI cZ cJ cA h0 a x1 x3 o.2.1 x5 o.2.2.1 o.2.2.2.1 o.2.2.2.2.1 o.2.2.2.2.2.1 o.2.2.2.2.2.2.1 x15 x16 x19 x20 x21 x22 x23 x24 x41 x42 f0 f2 o.2.2.2.2.2.2.2.1 o.2.2.2.2.2.2.2.2.1 o.2.2.2.2.2.2.2.2.2.1 o.2.2.2.2.2.2.2.2.2.2.1 f17 f18 f25 f26 f27 f28 f29 f30 f31 f32 f33 f34 f35 f36 f37 f38 f39 f40 o.2.2.2.2.2.2.2.2.2.2.2) sz (wX5 cI cZ cJ cA h0 a x1 x3 x4 x5 x6 x7 x9 x10 x14 x15 x16 x19 x20 x21 x22 x23 x24 x41 x42 f0 f2 f8 f11 f12 f13 f17 f18 f25 f26 f27 f28 f29 f30 f31 f32 f33 f34 f35 f36 f37 f38 f39 f40 f43)) 0 0 (va_A (wX5 cI cZ cJ cA h0 a x1 x3 x4 x5 x6 x7 x9 x10 x14 x15 x16 x19 x20 x21 x22 x23 x24 x41 x42 f0 f2 f8 f11 f12 f13 f17 f18 f25 f26 f27 f28 f29 f30 f31 f32 f33 f34 f35 f36 f37 f38 f39 f40 f43) sz) := by
  refine Met.ofW (cc := cX5_next) (maxL := 6) (ret := (some .int)) (by decide) rfl ?_
  intro p e s m args below meth c s₁ B hml hv
  obtain ⟨rfl, hsz, hP, hK, hD0, hN⟩ := hv
  subst hsz
  have hl := lv_entry ([.ref h0]) (n := 6) (Nat.le_of_ble_eq_true rfl)
  rw [lg_entry_eq]
  refine b_X5_next N ⟨⟨B.exec, B.bytes, hml, findClass_of_methodNamed B.named, atoms_spec (ws := wsX5_next) B.pre⟩, Nat.le_refl _, Nat.le_refl _, fun q h => Or.inr h, hN, hK⟩ hf hP hD0.self va_S.rf hl (fun pc H locs ls r hd hr hP hD hS => ?_)
  subst hr
  exact W.iret B.exec B.bytes B.returns (fun t ht hW => ⟨⟨_, (), rfl, rfl, by rw [ht]; exact hP, hD⟩, hS.F ht⟩) hS.2.2 hd

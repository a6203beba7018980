def q_X1_addRunner (N : Nat) (v1 : Int32) (x5 : Int32) (f0 : (Nat → Int32)) : Option (Int32 × Int32 × (Nat → Int32)) :=
  (Option.bind (q_X4_isTown N v1) (fun o1 =>
  (if o1 = 0 then
   (some ((-1), x5, f0))
  else
   (if x5 < 24 then
    (if z_in x5 24 then
    (some (x5, (x5 + 1), (upd f0 (Int32.toNatClampNeg x5) v1)))
    else none)
   else
    (some ((-1), x5, f0))))))
set_option maxHeartbeats 4000000 in
set_option maxRecDepth 100000 in
theorem b_X1_addRunner {p : Program} {l : Launch} {e : Env} {R : Room} {s : State} {m : MethodId} {args : Array Value} {below : List Frame} {meth : Method} {c : Code} {Q : State → Prop} {A : Nat → Prop} {dC : Nat → ClassId} {dI : Nat → Nat → Nat} {cI cZ cJ cA : ClassId} {h0 : Nat} {a : Nat → Nat} {r4 : Nat → Nat} (N : Nat) (C0 : z_Cx p s m args c cX1_addRunner 2 wsX1_addRunner RX1 R 1 20 A dC dI (z_ty cI cZ cJ cA)) {v1 : Int32} {x5 : Int32} {x6 : Int32} {x7 : Int32} {x8 : Int32} {x9 : Int32} {x10 : Int32} {x11 : Int32} {x12 : Int32} {x13 : Int32} {x14 : Int32} {x15 : Int32} {f0 : (Nat → Int32)} {f1 : (Nat → Int32)} {f2 : (Nat → Int32)} {f3 : (Nat → Int32)} {V4 : (Nat → Nat → Int32)} {o : (Int32 × Int32 × (Nat → Int32))} {H : Heap} {locs : List Loc} {ls : Array Slot} (hf : q_X1_addRunner N v1 x5 f0 = some o) (hP : va_P (dC, dI) vwCl (wX1 cI cZ cJ cA h0 a r4 x5 x6 x7 x8 x9 x10 x11 x12 x13 x14 x15 f0 f1 f2 f3 V4) H) (hD : va_D A (wX1 cI cZ cJ cA h0 a r4 x5 x6 x7 x8 x9 x10 x11 x12 x13 x14 x15 f0 f1 f2 f3 V4)) (hS : va_S A s.heap H locs) (hl : lv_has ls 2 [(0, .ref h0), (1, .int v1)])
    (hret : ∀ (pc : Nat) (H : Heap) (locs : List Loc) (ls : Array Slot) (r : Int32), decode cX1_addRunner pc = .ok (.ireturn, 1) → r = o.1 → va_P (dC, dI) vwCl (wX1 cI cZ cJ cA h0 a r4 o.2.1 x6 x7 x8 x9 x10 x11 x12 x13 x14 x15 o.2.2 f1 f2 f3 V4) H → va_D A (wX1 cI cZ cJ cA h0 a r4 o.2.1 x6 x7 x8 x9 x10 x11 x12 x13 x14 x15 o.2.2 f1 f2 f3 V4) → va_S A s.heap H locs → W p l e R s m args below meth c H locs 0 0 Q (F0 m pc ls [.int r])) :
    W p l e R s m args below meth c H locs 0 0 Q (F0 m 0 ls []) := by
  obtain ⟨⟨hx, hb, hml, hown, hts⟩, hRf, hRl, hA, hN, hK⟩ := C0
  unfold q_X1_addRunner at hf
  refine lv_iload_n hx hb dX1_addRunner_0 rfl (lv_at hl 1 rfl) ?_
  obtain ⟨o1, ho1, hf1⟩ := z_ib hf
  replace hf := hf1
  clear hf1
  refine z_SN0 (As := [.int v1]) (rest := []) ⟨hx, hb, hml, hown, hts⟩ (k_X4_isTown l dC dI cI cZ cJ cA H.size N v1 o1 ho1) ⟨va_cnB 1 hts gX1_addRunner_X4_isTown_n64 rfl rfl rfl (hN _ (List.mem_of_getElem? (i := 4) rfl)) (hts (.initialized RX4) (List.mem_of_getElem? (i := 4) rfl)) (by decide +kernel) ⟨Nat.le_trans (Nat.le_of_ble_eq_true rfl) hRf, Nat.le_trans (Nat.le_of_ble_eq_true rfl) hRl⟩, (hts (.static yX4_isTown) (List.mem_of_getElem? (i := 3) rfl)), trivial⟩ hK hP hS hA hN rfl hl.1 rfl (Nat.le_of_ble_eq_true rfl) dX1_addRunner_1 (fun H locs hP hS => ?_)
  refine lv_if_eq (tgt := 16) hx hb dX1_addRunner_4 (by decide) (fun c2 => ?_) (fun c2 => ?_)
  · replace hf := z_ip hf c2
    refine lv_iconst (v := (-1)) hx hb dX1_addRunner_16 (by decide) ?_
    obtain rfl := Option.some.inj hf
    exact hret _ _ _ _ _ dX1_addRunner_17 rfl hP hD hS
  · replace hf := z_im hf c2
    refine lv_aload_n hx hb dX1_addRunner_7 rfl (lv_at hl 0 rfl) ?_
    refine va_get (D := (dC, dI)) (ci := 1) (v := .int x5) (C := RX1) (T := TX1) (N := 16) hx hb hts (fun w hw => List.mem_cons_of_mem _ (List.mem_append_right _ hw)) hown hK hP 0 rfl rfl 5 (by decide) (hts (.fieldLink RX1 29 "OldStadium$Heats" "runners" "I") (List.mem_of_getElem? (i := 1) rfl)) (fun _ h9 => h9) rfl dX1_addRunner_8 ?_
    refine lv_bipush (v := 24) hx hb dX1_addRunner_11 (by decide) ?_
    refine lv_icmp_lt (tgt := 18) hx hb dX1_addRunner_13 (by decide) (fun c3 => ?_) (fun c3 => ?_)
    · replace hf := z_ip hf c3
      refine lv_aload_n hx hb dX1_addRunner_18 rfl (lv_at hl 0 rfl) ?_
      refine va_get (D := (dC, dI)) (ci := 1) (v := .ref (a 0)) (C := RX1) (T := TX1) (N := 16) hx hb hts (fun w hw => List.mem_cons_of_mem _ (List.mem_append_right _ hw)) hown hK hP 0 rfl rfl 0 (by decide) (hts (.fieldLink RX1 11 "OldStadium$Heats" "runnerTowns" "[I") (List.mem_of_getElem? (i := 2) rfl)) (fun _ h9 => h9) rfl dX1_addRunner_19 ?_
      refine lv_aload_n hx hb dX1_addRunner_22 rfl (lv_at hl 0 rfl) ?_
      refine va_get (D := (dC, dI)) (ci := 1) (v := .int x5) (C := RX1) (T := TX1) (N := 16) hx hb hts (fun w hw => List.mem_cons_of_mem _ (List.mem_append_right _ hw)) hown hK hP 0 rfl rfl 5 (by decide) (hts (.fieldLink RX1 29 "OldStadium$Heats" "runners" "I") (List.mem_of_getElem? (i := 1) rfl)) (fun _ h9 => h9) rfl dX1_addRunner_23 ?_
      refine lv_iload_n hx hb dX1_addRunner_26 rfl (lv_at hl 1 rfl) ?_
      have b4 := z_c1 hf
      replace hf := z_c2 hf
      refine va_iast hx hb hK hP hD hS 1 0 rfl rfl b4 dX1_addRunner_27 (fun H locs hP hD hS => ?_)
      replace hP : va_P (dC, dI) vwCl (wX1 cI cZ cJ cA h0 a r4 x5 x6 x7 x8 x9 x10 x11 x12 x13 x14 x15 (upd f0 (Int32.toNatClampNeg x5) v1) f1 f2 f3 V4) H := hP
      replace hD : va_D A (wX1 cI cZ cJ cA h0 a r4 x5 x6 x7 x8 x9 x10 x11 x12 x13 x14 x15 (upd f0 (Int32.toNatClampNeg x5) v1) f1 f2 f3 V4) := hD
      refine lv_aload_n hx hb dX1_addRunner_28 rfl (lv_at hl 0 rfl) ?_
      refine lv_dup hx hb dX1_addRunner_29 rfl ?_
      refine va_get (D := (dC, dI)) (ci := 1) (v := .int x5) (C := RX1) (T := TX1) (N := 16) hx hb hts (fun w hw => List.mem_cons_of_mem _ (List.mem_append_right _ hw)) hown hK hP 0 rfl rfl 5 (by decide) (hts (.fieldLink RX1 29 "OldStadium$Heats" "runners" "I") (List.mem_of_getElem? (i := 1) rfl)) (fun _ h9 => h9) rfl dX1_addRunner_30 ?_
      refine lv_dup_x1 hx hb dX1_addRunner_33 rfl rfl ?_
      refine lv_iconst (v := 1) hx hb dX1_addRunner_34 (by decide) ?_
      refine lv_iadd hx hb dX1_addRunner_35 ?_
      refine va_put (D := (dC, dI)) (ci := 1) (v := .int (x5 + 1)) (ty := .int) (C := RX1) (T := TX1) (N := 16) hx hb hts (fun w hw => List.mem_cons_of_mem _ (List.mem_append_right _ hw)) tyX1 tyX1_ok nmX1 hown hK hP hD hS 0 rfl rfl 5 (by decide) (hts (.fieldLink RX1 29 "OldStadium$Heats" "runners" "I") (List.mem_of_getElem? (i := 1) rfl)) (fun _ h9 => h9) rfl (by decide +kernel) rfl rfl (Nat.le_of_ble_eq_true rfl) dX1_addRunner_36 (fun H locs hP hD hS => ?_)
      replace hP : va_P (dC, dI) vwCl (wX1 cI cZ cJ cA h0 a r4 (x5 + 1) x6 x7 x8 x9 x10 x11 x12 x13 x14 x15 (upd f0 (Int32.toNatClampNeg x5) v1) f1 f2 f3 V4) H := hP
      replace hD : va_D A (wX1 cI cZ cJ cA h0 a r4 (x5 + 1) x6 x7 x8 x9 x10 x11 x12 x13 x14 x15 (upd f0 (Int32.toNatClampNeg x5) v1) f1 f2 f3 V4) := hD
      obtain rfl := Option.some.inj hf
      exact hret _ _ _ _ _ dX1_addRunner_39 rfl hP hD hS
    · replace hf := z_im hf c3
      refine lv_iconst (v := (-1)) hx hb dX1_addRunner_16 (by decide) ?_
      obtain rfl := Option.some.inj hf
      exact hret _ _ _ _ _ dX1_addRunner_17 rfl hP hD hS
set_option maxHeartbeats 4000000 in
set_option maxRecDepth 100000 in
theorem k_X1_addRunner (l : Launch) (dC : Nat → ClassId) (dI : Nat → Nat → Nat) (cI cZ cJ cA : ClassId) (h0 : Nat) (a : Nat → Nat) (r4 : Nat → Nat) (sz : Nat) (N : Nat) (v1 : Int32) (x5 : Int32) (x6 : Int32) (x7 : Int32) (x8 : Int32) (x9 : Int32) (x10 : Int32) (x11 : Int32) (x12 : Int32) (x13 : Int32) (x14 : Int32) (x15 : Int32) (f0 : (Nat → Int32)) (f1 : (Nat → Int32)) (f2 : (Nat → Int32)) (f3 : (Nat → Int32)) (V4 : (Nat → Nat → Int32)) (o : (Int32 × Int32 × (Nat → Int32))) (hf : q_X1_addRunner N v1 x5 f0 = some o) : Met l yX1_addRunner wsX1_addRunner ({ frames := 1, cells := 0, slots := 0, locals := 20 } : Room) (z_Pre dC dI (z_ty cI cZ cJ cA) [.ref h0, .int v1] sz (wX1 cI cZ cJ cA h0 a r4 x5 x6 x7 x8 x9 x10 x11 x12 x13 x14 x15 f0 f1 f2 f3 V4)) (z_Pi dC dI o.1 (wX1 cI cZ cJ cA h0 a r4 o.2.1 x6 x7 x8 x9 x10 x11 x12 x13 x14 x15 o.2.2 f1 f2 f3 V4) sz (wX1 cI cZ cJ cA h0 a r4 x5 x6 x7 x8 x9 x10 x11 x12 x13 x14 x15 f0 f1 f2 f3 V4)) 0 0 (va_A (wX1 cI cZ cJ cA h0 a r4 x5 x6 x7 x8 x9 x10 x11 x12 x13 x14 x15 f0 f1 f2 f3 V4) sz) := by
  refine Met.ofW (cc := cX1_addRunner) (maxL := 2) (ret := (some .int)) (by decide) rfl ?_
  intro p e s m args below meth c s₁ B hml hv
  obtain ⟨rfl, hsz, hP, hK, hD0, hN⟩ := hv
  subst hsz
  have hl := lv_entry ([.ref h0, .int v1]) (n := 2) (Nat.le_of_ble_eq_true rfl)
  rw [lg_entry_eq]
  refine b_X1_addRunner N ⟨⟨B.exec, B.bytes, hml, findClass_of_methodNamed B.named, atoms_spec (ws := wsX1_addRunner) B.pre⟩, Nat.le_refl _, Nat.le_refl _, fun q h => Or.inr h, hN, hK⟩ hf hP hD0.self va_S.rf hl (fun pc H locs ls r hd hr hP hD hS => ?_)
  subst hr
  exact W.iret B.exec B.bytes B.returns (fun t ht hW => ⟨⟨_, (), rfl, rfl, by rw [ht]; exact hP, hD⟩, hS.F ht⟩) hS.2.2 hd
def q_X1_addJudge (N : Nat) (v1 : Int32) (x6 : Int32) (f1 : (Nat → Int32)) : Option (Int32 × Int32 × (Nat → Int32)) :=
  (Option.bind (q_X4_isTown N v1) (fun o1 =>
  (if o1 = 0 then
   (some ((-1), x6, f1))
  else
   (if x6 < 9 then
    (if z_in x6 9 then
    (some (x6, (x6 + 1), (upd f1 (Int32.toNatClampNeg x6) v1)))
    else none)
   else
    (some ((-1), x6, f1))))))
set_option maxHeartbeats 4000000 in
set_option maxRecDepth 100000 in
theorem b_X1_addJudge {p : Program} {l : Launch} {e : Env} {R : Room} {s : State} {m : MethodId} {args : Array Value} {below : List Frame} {meth : Method} {c : Code} {Q : State → Prop} {A : Nat → Prop} {dC : Nat → ClassId} {dI : Nat → Nat → Nat} {cI cZ cJ cA : ClassId} {h0 : Nat} {a : Nat → Nat} {r4 : Nat → Nat} (N : Nat) (C0 : z_Cx p s m args c cX1_addJudge 2 wsX1_addJudge RX1 R 1 20 A dC dI (z_ty cI cZ cJ cA)) {v1 : Int32} {x5 : Int32} {x6 : Int32} {x7 : Int32} {x8 : Int32} {x9 : Int32} {x10 : Int32} {x11 : Int32} {x12 : Int32} {x13 : Int32} {x14 : Int32} {x15 : Int32} {f0 : (Nat → Int32)} {f1 : (Nat → Int32)} {f2 : (Nat → Int32)} {f3 : (Nat → Int32)} {V4 : (Nat → Nat → Int32)} {o : (Int32 × Int32 × (Nat → Int32))} {H : Heap} {locs : List Loc} {ls : Array Slot} (hf : q_X1_addJudge N v1 x6 f1 = some o) (hP : va_P (dC, dI) vwCl (wX1 cI cZ cJ cA h0 a r4 x5 x6 x7 x8 x9 x10 x11 x12 x13 x14 x15 f0 f1 f2 f3 V4) H) (hD : va_D A (wX1 cI cZ cJ cA h0 a r4 x5 x6 x7 x8 x9 x10 x11 x12 x13 x14 x15 f0 f1 f2 f3 V4)) (hS : va_S A s.heap H locs) (hl : lv_has ls 2 [(0, .ref h0), (1, .int v1)])
    (hret : ∀ (pc : Nat) (H : Heap) (locs : List Loc) (ls : Array Slot) (r : Int32), decode cX1_addJudge pc = .ok (.ireturn, 1) → r = o.1 → va_P (dC, dI) vwCl (wX1 cI cZ cJ cA h0 a r4 x5 o.2.1 x7 x8 x9 x10 x11 x12 x13 x14 x15 f0 o.2.2 f2 f3 V4) H → va_D A (wX1 cI cZ cJ cA h0 a r4 x5 o.2.1 x7 x8 x9 x10 x11 x12 x13 x14 x15 f0 o.2.2 f2 f3 V4) → va_S A s.heap H locs → W p l e R s m args below meth c H locs 0 0 Q (F0 m pc ls [.int r])) :
    W p l e R s m args below meth c H locs 0 0 Q (F0 m 0 ls []) := by
  obtain ⟨⟨hx, hb, hml, hown, hts⟩, hRf, hRl, hA, hN, hK⟩ := C0
  unfold q_X1_addJudge at hf
  refine lv_iload_n hx hb dX1_addJudge_0 rfl (lv_at hl 1 rfl) ?_
  obtain ⟨o1, ho1, hf1⟩ := z_ib hf
  replace hf := hf1
  clear hf1
  refine z_SN0 (As := [.int v1]) (rest := []) ⟨hx, hb, hml, hown, hts⟩ (k_X4_isTown l dC dI cI cZ cJ cA H.size N v1 o1 ho1) ⟨va_cnB 1 hts gX1_addJudge_X4_isTown_n64 rfl rfl rfl (hN _ (List.mem_of_getElem? (i := 4) rfl)) (hts (.initialized RX4) (List.mem_of_getElem? (i := 4) rfl)) (by decide +kernel) ⟨Nat.le_trans (Nat.le_of_ble_eq_true rfl) hRf, Nat.le_trans (Nat.le_of_ble_eq_true rfl) hRl⟩, (hts (.static yX4_isTown) (List.mem_of_getElem? (i := 3) rfl)), trivial⟩ hK hP hS hA hN rfl hl.1 rfl (Nat.le_of_ble_eq_true rfl) dX1_addJudge_1 (fun H locs hP hS => ?_)
  refine lv_if_eq (tgt := 16) hx hb dX1_addJudge_4 (by decide) (fun c2 => ?_) (fun c2 => ?_)
  · replace hf := z_ip hf c2
    refine lv_iconst (v := (-1)) hx hb dX1_addJudge_16 (by decide) ?_
    obtain rfl := Option.some.inj hf
    exact hret _ _ _ _ _ dX1_addJudge_17 rfl hP hD hS
  · replace hf := z_im hf c2
    refine lv_aload_n hx hb dX1_addJudge_7 rfl (lv_at hl 0 rfl) ?_
    refine va_get (D := (dC, dI)) (ci := 1) (v := .int x6) (C := RX1) (T := TX1) (N := 16) hx hb hts (fun w hw => List.mem_cons_of_mem _ (List.mem_append_right _ hw)) hown hK hP 0 rfl rfl 6 (by decide) (hts (.fieldLink RX1 33 "OldStadium$Heats" "judges" "I") (List.mem_of_getElem? (i := 1) rfl)) (fun _ h9 => h9) rfl dX1_addJudge_8 ?_
    refine lv_bipush (v := 9) hx hb dX1_addJudge_11 (by decide) ?_
    refine lv_icmp_lt (tgt := 18) hx hb dX1_addJudge_13 (by decide) (fun c3 => ?_) (fun c3 => ?_)
    · replace hf := z_ip hf c3
      refine lv_aload_n hx hb dX1_addJudge_18 rfl (lv_at hl 0 rfl) ?_
      refine va_get (D := (dC, dI)) (ci := 1) (v := .ref (a 1)) (C := RX1) (T := TX1) (N := 16) hx hb hts (fun w hw => List.mem_cons_of_mem _ (List.mem_append_right _ hw)) hown hK hP 0 rfl rfl 1 (by decide) (hts (.fieldLink RX1 15 "OldStadium$Heats" "judgeTowns" "[I") (List.mem_of_getElem? (i := 2) rfl)) (fun _ h9 => h9) rfl dX1_addJudge_19 ?_
      refine lv_aload_n hx hb dX1_addJudge_22 rfl (lv_at hl 0 rfl) ?_
      refine va_get (D := (dC, dI)) (ci := 1) (v := .int x6) (C := RX1) (T := TX1) (N := 16) hx hb hts (fun w hw => List.mem_cons_of_mem _ (List.mem_append_right _ hw)) hown hK hP 0 rfl rfl 6 (by decide) (hts (.fieldLink RX1 33 "OldStadium$Heats" "judges" "I") (List.mem_of_getElem? (i := 1) rfl)) (fun _ h9 => h9) rfl dX1_addJudge_23 ?_
      refine lv_iload_n hx hb dX1_addJudge_26 rfl (lv_at hl 1 rfl) ?_
      have b4 := z_c1 hf
      replace hf := z_c2 hf
      refine va_iast hx hb hK hP hD hS 2 0 rfl rfl b4 dX1_addJudge_27 (fun H locs hP hD hS => ?_)
      replace hP : va_P (dC, dI) vwCl (wX1 cI cZ cJ cA h0 a r4 x5 x6 x7 x8 x9 x10 x11 x12 x13 x14 x15 f0 (upd f1 (Int32.toNatClampNeg x6) v1) f2 f3 V4) H := hP
      replace hD : va_D A (wX1 cI cZ cJ cA h0 a r4 x5 x6 x7 x8 x9 x10 x11 x12 x13 x14 x15 f0 (upd f1 (Int32.toNatClampNeg x6) v1) f2 f3 V4) := hD
      refine lv_aload_n hx hb dX1_addJudge_28 rfl (lv_at hl 0 rfl) ?_
      refine lv_dup hx hb dX1_addJudge_29 rfl ?_
      refine va_get (D := (dC, dI)) (ci := 1) (v := .int x6) (C := RX1) (T := TX1) (N := 16) hx hb hts (fun w hw => List.mem_cons_of_mem _ (List.mem_append_right _ hw)) hown hK hP 0 rfl rfl 6 (by decide) (hts (.fieldLink RX1 33 "OldStadium$Heats" "judges" "I") (List.mem_of_getElem? (i := 1) rfl)) (fun _ h9 => h9) rfl dX1_addJudge_30 ?_
      refine lv_dup_x1 hx hb dX1_addJudge_33 rfl rfl ?_
      refine lv_iconst (v := 1) hx hb dX1_addJudge_34 (by decide) ?_
      refine lv_iadd hx hb dX1_addJudge_35 ?_
      refine va_put (D := (dC, dI)) (ci := 1) (v := .int (x6 + 1)) (ty := .int) (C := RX1) (T := TX1) (N := 16) hx hb hts (fun w hw => List.mem_cons_of_mem _ (List.mem_append_right _ hw)) tyX1 tyX1_ok nmX1 hown hK hP hD hS 0 rfl rfl 6 (by decide) (hts (.fieldLink RX1 33 "OldStadium$Heats" "judges" "I") (List.mem_of_getElem? (i := 1) rfl)) (fun _ h9 => h9) rfl (by decide +kernel) rfl rfl (Nat.le_of_ble_eq_true rfl) dX1_addJudge_36 (fun H locs hP hD hS => ?_)
      replace hP : va_P (dC, dI) vwCl (wX1 cI cZ cJ cA h0 a r4 x5 (x6 + 1) x7 x8 x9 x10 x11 x12 x13 x14 x15 f0 (upd f1 (Int32.toNatClampNeg x6) v1) f2 f3 V4) H := hP
      replace hD : va_D A (wX1 cI cZ cJ cA h0 a r4 x5 (x6 + 1) x7 x8 x9 x10 x11 x12 x13 x14 x15 f0 (upd f1 (Int32.toNatClampNeg x6) v1) f2 f3 V4) := hD
      obtain rfl := Option.some.inj hf
      exact hret _ _ _ _ _ dX1_addJudge_39 rfl hP hD hS
    · replace hf := z_im hf c3
      refine lv_iconst (v := (-1)) hx hb dX1_addJudge_16 (by decide) ?_
      obtain rfl := Option.some.inj hf
      exact hret _ _ _ _ _ dX1_addJudge_17 rfl hP hD hS
set_option maxHeartbeats 4000000 in
set_option maxRecDepth 100000 in
theorem k_X1_addJudge (l : Launch) (dC : Nat → ClassId) (dI : Nat → Nat → Nat) (cI cZ cJ cA : ClassId) (h0 : Nat) (a : Nat → Nat) (r4 : Nat → Nat) (sz : Nat) (N : Nat) (v1 : Int32) (x5 : Int32) (x6 : Int32) (x7 : Int32) (x8 : Int32) (x9 : Int32) (x10 : Int32) (x11 : Int32) (x12 : Int32) (x13 : Int32) (x14 : Int32) (x15 : Int32) (f0 : (Nat → Int32)) (f1 : (Nat → Int32)) (f2 : (Nat → Int32)) (f3 : (Nat → Int32)) (V4 : (Nat → Nat → Int32)) (o : (Int32 × Int32 × (Nat → Int32))) (hf : q_X1_addJudge N v1 x6 f1 = some o) : Met l yX1_addJudge wsX1_addJudge ({ frames := 1, cells := 0, slots := 0, locals := 20 } : Room) (z_Pre dC dI (z_ty cI cZ cJ cA) [.ref h0, .int v1] sz (wX1 cI cZ cJ cA h0 a r4 x5 x6 x7 x8 x9 x10 x11 x12 x13 x14 x15 f0 f1 f2 f3 V4)) (z_Pi dC dI o.1 (wX1 cI cZ cJ cA h0 a r4 x5 o.2.1 x7 x8 x9 x10 x11 x12 x13 x14 x15 f0 o.2.2 f2 f3 V4) sz (wX1 cI cZ cJ cA h0 a r4 x5 x6 x7 x8 x9 x10 x11 x12 x13 x14 x15 f0 f1 f2 f3 V4)) 0 0 (va_A (wX1 cI cZ cJ cA h0 a r4 x5 x6 x7 x8 x9 x10 x11 x12 x13 x14 x15 f0 f1 f2 f3 V4) sz) := by
  refine Met.ofW (cc := cX1_addJudge) (maxL := 2) (ret := (some .int)) (by decide) rfl ?_
  intro p e s m args below meth c s₁ B hml hv
  obtain ⟨rfl, hsz, hP, hK, hD0, hN⟩ := hv
  subst hsz
  have hl := lv_entry ([.ref h0, .int v1]) (n := 2) (Nat.le_of_ble_eq_true rfl)
  rw [lg_entry_eq]
  refine b_X1_addJudge N ⟨⟨B.exec, B.bytes, hml, findClass_of_methodNamed B.named, atoms_spec (ws := wsX1_addJudge) B.pre⟩, Nat.le_refl _, Nat.le_refl _, fun q h => Or.inr h, hN, hK⟩ hf hP hD0.self va_S.rf hl (fun pc H locs ls r hd hr hP hD hS => ?_)
  subst hr
  exact W.iret B.exec B.bytes B.returns (fun t ht hW => ⟨⟨_, (), rfl, rfl, by rw [ht]; exact hP, hD⟩, hS.F ht⟩) hS.2.2 hd
def q_X1_enter_L7 (N : Nat) (v1 : Int32) (x5 : Int32) : Nat → Int32 → Int32 → (Nat → Int32) → Option (Int32 × (Nat → Int32))
  | 0, _, _, _ => none
  | n + 1, v2, x10, f2 =>
    (if x5 ≤ v2 then
     (some (x10, f2))
    else
     (Option.bind (q_X4_hasBit N v1 v2) (fun o2 =>
     (if o2 = 0 then
      (q_X1_enter_L7 N v1 x5 n (v2 + 1) x10 f2)
     else
      (if z_in x10 24 then
      (q_X1_enter_L7 N v1 x5 n (v2 + 1) (x10 + 1) (upd f2 (Int32.toNatClampNeg x10) v2))
      else none)))))
set_option maxHeartbeats 4000000 in
set_option maxRecDepth 100000 in
theorem b_X1_enter_L7 {p : Program} {l : Launch} {e : Env} {R : Room} {s : State} {m : MethodId} {args : Array Value} {below : List Frame} {meth : Method} {c : Code} {Q : State → Prop} {A : Nat → Prop} {dC : Nat → ClassId} {dI : Nat → Nat → Nat} {cI cZ cJ cA : ClassId} {h0 : Nat} {a : Nat → Nat} {r4 : Nat → Nat} (N : Nat) (C0 : z_Cx p s m args c cX1_enter 3 wsX1_enter RX1 R 1 21 A dC dI (z_ty cI cZ cJ cA)) : ∀ (n : Nat) {v1 : Int32} {v2 : Int32} {x5 : Int32} {x6 : Int32} {x7 : Int32} {x8 : Int32} {x9 : Int32} {x10 : Int32} {x11 : Int32} {x12 : Int32} {x13 : Int32} {x14 : Int32} {x15 : Int32} {f0 : (Nat → Int32)} {f1 : (Nat → Int32)} {f2 : (Nat → Int32)} {f3 : (Nat → Int32)} {V4 : (Nat → Nat → Int32)} {o : (Int32 × (Nat → Int32))} {H : Heap} {locs : List Loc} {ls : Array Slot}, q_X1_enter_L7 N v1 x5 n v2 x10 f2 = some o → va_P (dC, dI) vwCl (wX1 cI cZ cJ cA h0 a r4 x5 x6 x7 x8 x9 x10 x11 x12 x13 x14 x15 f0 f1 f2 f3 V4) H → va_D A (wX1 cI cZ cJ cA h0 a r4 x5 x6 x7 x8 x9 x10 x11 x12 x13 x14 x15 f0 f1 f2 f3 V4) → va_S A s.heap H locs → lv_has ls 3 [(0, .ref h0), (1, .int v1), (2, .int v2)] →
    (∀ (H : Heap) (locs : List Loc) (ls : Array Slot), va_P (dC, dI) vwCl (wX1 cI cZ cJ cA h0 a r4 x5 x6 x7 x8 x9 o.1 x11 x12 x13 x14 x15 f0 f1 o.2 f3 V4) H → va_D A (wX1 cI cZ cJ cA h0 a r4 x5 x6 x7 x8 x9 o.1 x11 x12 x13 x14 x15 f0 f1 o.2 f3 V4) → va_S A s.heap H locs → lv_has ls 3 [] → W p l e R s m args below meth c H locs 0 0 Q (F0 m 49 ls [])) →
    W p l e R s m args below meth c H locs 0 0 Q (F0 m 7 ls []) := by
  obtain ⟨⟨hx, hb, hml, hown, hts⟩, hRf, hRl, hA, hN, hK⟩ := C0
  intro n
  induction n with
  | zero =>
    intro v1 v2 x5 x6 x7 x8 x9 x10 x11 x12 x13 x14 x15 f0 f1 f2 f3 V4 o H locs ls hf
    cases hf
  | succ n ih =>
    intro v1 v2 x5 x6 x7 x8 x9 x10 x11 x12 x13 x14 x15 f0 f1 f2 f3 V4 o H locs ls hf hP hD hS hl hexit
    rw [q_X1_enter_L7] at hf
    refine lv_iload_n hx hb dX1_enter_7 rfl (lv_at hl 2 rfl) ?_
    refine lv_aload_n hx hb dX1_enter_8 rfl (lv_at hl 0 rfl) ?_
    refine va_get (D := (dC, dI)) (ci := 1) (v := .int x5) (C := RX1) (T := TX1) (N := 16) hx hb hts (fun w hw => List.mem_cons_of_mem _ (List.mem_append_right _ hw)) hown hK hP 0 rfl rfl 5 (by decide) (hts (.fieldLink RX1 29 "OldStadium$Heats" "runners" "I") (List.mem_of_getElem? (i := 2) rfl)) (fun _ h9 => h9) rfl dX1_enter_9 ?_
    refine lv_icmp_ge (tgt := 49) hx hb dX1_enter_12 (by decide) (fun c1 => ?_) (fun c1 => ?_)
    · replace hf := z_ip hf c1
      obtain rfl := Option.some.inj hf
      exact hexit _ _ _ hP hD hS (lv_sub hl [] rfl)
    · replace hf := z_im hf c1
      refine lv_iload_n hx hb dX1_enter_15 rfl (lv_at hl 1 rfl) ?_
      refine lv_iload_n hx hb dX1_enter_16 rfl (lv_at hl 2 rfl) ?_
      obtain ⟨o2, ho2, hf1⟩ := z_ib hf
      replace hf := hf1
      clear hf1
      refine z_SN0 (As := [.int v1, .int v2]) (rest := []) ⟨hx, hb, hml, hown, hts⟩ (k_X4_hasBit l dC dI cI cZ cJ cA H.size N v1 v2 o2 ho2) ⟨va_cnB 2 hts gX1_enter_X4_hasBit_n76 rfl rfl rfl (hN _ (List.mem_of_getElem? (i := 5) rfl)) (hts (.initialized RX4) (List.mem_of_getElem? (i := 5) rfl)) (by decide +kernel) ⟨Nat.le_trans (Nat.le_of_ble_eq_true rfl) hRf, Nat.le_trans (Nat.le_of_ble_eq_true rfl) hRl⟩, (hts (.static yX4_hasBit) (List.mem_of_getElem? (i := 4) rfl)), trivial⟩ hK hP hS hA hN rfl hl.1 rfl (Nat.le_of_ble_eq_true rfl) dX1_enter_17 (fun H locs hP hS => ?_)
      refine lv_if_eq (tgt := 43) hx hb dX1_enter_20 (by decide) (fun c3 => ?_) (fun c3 => ?_)
      · replace hf := z_ip hf c3
        refine lv_iinc (v := (v2 + 1)) (lv' := [(2, .int (v2 + 1)), (0, .ref h0), (1, .int v1)]) hx hb dX1_enter_43 hl (k := 2) rfl rfl (by decide) rfl (fun ls hl => ?_)
        refine lv_goto (tgt := 7) hx hb dX1_enter_46 (by decide) ?_
        exact ih hf hP hD hS (lv_sub hl [1, 2, 0] rfl) hexit
      · replace hf := z_im hf c3
        refine lv_aload_n hx hb dX1_enter_23 rfl (lv_at hl 0 rfl) ?_
        refine va_get (D := (dC, dI)) (ci := 1) (v := .ref (a 2)) (C := RX1) (T := TX1) (N := 16) hx hb hts (fun w hw => List.mem_cons_of_mem _ (List.mem_append_right _ hw)) hown hK hP 0 rfl rfl 2 (by decide) (hts (.fieldLink RX1 18 "OldStadium$Heats" "row" "[I") (List.mem_of_getElem? (i := 3) rfl)) (fun _ h9 => h9) rfl dX1_enter_24 ?_
        refine lv_aload_n hx hb dX1_enter_27 rfl (lv_at hl 0 rfl) ?_
        refine va_get (D := (dC, dI)) (ci := 1) (v := .int x10) (C := RX1) (T := TX1) (N := 16) hx hb hts (fun w hw => List.mem_cons_of_mem _ (List.mem_append_right _ hw)) hown hK hP 0 rfl rfl 10 (by decide) (hts (.fieldLink RX1 46 "OldStadium$Heats" "entered" "I") (List.mem_of_getElem? (i := 1) rfl)) (fun _ h9 => h9) rfl dX1_enter_28 ?_
        refine lv_iload_n hx hb dX1_enter_31 rfl (lv_at hl 2 rfl) ?_
        have b4 := z_c1 hf
        replace hf := z_c2 hf
        refine va_iast hx hb hK hP hD hS 3 0 rfl rfl b4 dX1_enter_32 (fun H locs hP hD hS => ?_)
        replace hP : va_P (dC, dI) vwCl (wX1 cI cZ cJ cA h0 a r4 x5 x6 x7 x8 x9 x10 x11 x12 x13 x14 x15 f0 f1 (upd f2 (Int32.toNatClampNeg x10) v2) f3 V4) H := hP
        replace hD : va_D A (wX1 cI cZ cJ cA h0 a r4 x5 x6 x7 x8 x9 x10 x11 x12 x13 x14 x15 f0 f1 (upd f2 (Int32.toNatClampNeg x10) v2) f3 V4) := hD
        refine lv_aload_n hx hb dX1_enter_33 rfl (lv_at hl 0 rfl) ?_
        refine lv_dup hx hb dX1_enter_34 rfl ?_
        refine va_get (D := (dC, dI)) (ci := 1) (v := .int x10) (C := RX1) (T := TX1) (N := 16) hx hb hts (fun w hw => List.mem_cons_of_mem _ (List.mem_append_right _ hw)) hown hK hP 0 rfl rfl 10 (by decide) (hts (.fieldLink RX1 46 "OldStadium$Heats" "entered" "I") (List.mem_of_getElem? (i := 1) rfl)) (fun _ h9 => h9) rfl dX1_enter_35 ?_
        refine lv_iconst (v := 1) hx hb dX1_enter_38 (by decide) ?_
        refine lv_iadd hx hb dX1_enter_39 ?_
        refine va_put (D := (dC, dI)) (ci := 1) (v := .int (x10 + 1)) (ty := .int) (C := RX1) (T := TX1) (N := 16) hx hb hts (fun w hw => List.mem_cons_of_mem _ (List.mem_append_right _ hw)) tyX1 tyX1_ok nmX1 hown hK hP hD hS 0 rfl rfl 10 (by decide) (hts (.fieldLink RX1 46 "OldStadium$Heats" "entered" "I") (List.mem_of_getElem? (i := 1) rfl)) (fun _ h9 => h9) rfl (by decide +kernel) rfl rfl (Nat.le_of_ble_eq_true rfl) dX1_enter_40 (fun H locs hP hD hS => ?_)
        replace hP : va_P (dC, dI) vwCl (wX1 cI cZ cJ cA h0 a r4 x5 x6 x7 x8 x9 (x10 + 1) x11 x12 x13 x14 x15 f0 f1 (upd f2 (Int32.toNatClampNeg x10) v2) f3 V4) H := hP
        replace hD : va_D A (wX1 cI cZ cJ cA h0 a r4 x5 x6 x7 x8 x9 (x10 + 1) x11 x12 x13 x14 x15 f0 f1 (upd f2 (Int32.toNatClampNeg x10) v2) f3 V4) := hD
        refine lv_iinc (v := (v2 + 1)) (lv' := [(2, .int (v2 + 1)), (0, .ref h0), (1, .int v1)]) hx hb dX1_enter_43 hl (k := 2) rfl rfl (by decide) rfl (fun ls hl => ?_)
        refine lv_goto (tgt := 7) hx hb dX1_enter_46 (by decide) ?_
        exact ih hf hP hD hS (lv_sub hl [1, 2, 0] rfl) hexit
def q_X1_enter (N : Nat) (v1 : Int32) (x5 : Int32) (x10 : Int32) (f2 : (Nat → Int32)) : Option (Int32 × (Nat → Int32)) :=
  (Option.bind (q_X1_enter_L7 N v1 x5 N 0 0 f2) (fun t1 =>
  (some (t1.1, t1.2))))
set_option maxHeartbeats 4000000 in
set_option maxRecDepth 100000 in
theorem b_X1_enter {p : Program} {l : Launch} {e : Env} {R : Room} {s : State} {m : MethodId} {args : Array Value} {below : List Frame} {meth : Method} {c : Code} {Q : State → Prop} {A : Nat → Prop} {dC : Nat → ClassId} {dI : Nat → Nat → Nat} {cI cZ cJ cA : ClassId} {h0 : Nat} {a : Nat → Nat} {r4 : Nat → Nat} (N : Nat) (C0 : z_Cx p s m args c cX1_enter 3 wsX1_enter RX1 R 1 21 A dC dI (z_ty cI cZ cJ cA)) {v1 : Int32} {x5 : Int32} {x6 : Int32} {x7 : Int32} {x8 : Int32} {x9 : Int32} {x10 : Int32} {x11 : Int32} {x12 : Int32} {x13 : Int32} {x14 : Int32} {x15 : Int32} {f0 : (Nat → Int32)} {f1 : (Nat → Int32)} {f2 : (Nat → Int32)} {f3 : (Nat → Int32)} {V4 : (Nat → Nat → Int32)} {o : (Int32 × (Nat → Int32))} {H : Heap} {locs : List Loc} {ls : Array Slot} (hf : q_X1_enter N v1 x5 x10 f2 = some o) (hP : va_P (dC, dI) vwCl (wX1 cI cZ cJ cA h0 a r4 x5 x6 x7 x8 x9 x10 x11 x12 x13 x14 x15 f0 f1 f2 f3 V4) H) (hD : va_D A (wX1 cI cZ cJ cA h0 a r4 x5 x6 x7 x8 x9 x10 x11 x12 x13 x14 x15 f0 f1 f2 f3 V4)) (hS : va_S A s.heap H locs) (hl : lv_has ls 3 [(0, .ref h0), (1, .int v1)])
    (hret : ∀ (pc : Nat) (H : Heap) (locs : List Loc) (ls : Array Slot), decode cX1_enter pc = .ok (.return_, 1) → va_P (dC, dI) vwCl (wX1 cI cZ cJ cA h0 a r4 x5 x6 x7 x8 x9 o.1 x11 x12 x13 x14 x15 f0 f1 o.2 f3 V4) H → va_D A (wX1 cI cZ cJ cA h0 a r4 x5 x6 x7 x8 x9 o.1 x11 x12 x13 x14 x15 f0 f1 o.2 f3 V4) → va_S A s.heap H locs → W p l e R s m args below meth c H locs 0 0 Q (F0 m pc ls [])) :
    W p l e R s m args below meth c H locs 0 0 Q (F0 m 0 ls []) := by
  obtain ⟨⟨hx, hb, hml, hown, hts⟩, hRf, hRl, hA, hN, hK⟩ := C0
  unfold q_X1_enter at hf
  refine lv_aload_n hx hb dX1_enter_0 rfl (lv_at hl 0 rfl) ?_
  refine lv_iconst (v := 0) hx hb dX1_enter_1 (by decide) ?_
  refine va_put (D := (dC, dI)) (ci := 1) (v := .int 0) (ty := .int) (C := RX1) (T := TX1) (N := 16) hx hb hts (fun w hw => List.mem_cons_of_mem _ (List.mem_append_right _ hw)) tyX1 tyX1_ok nmX1 hown hK hP hD hS 0 rfl rfl 10 (by decide) (hts (.fieldLink RX1 46 "OldStadium$Heats" "entered" "I") (List.mem_of_getElem? (i := 1) rfl)) (fun _ h9 => h9) rfl (by decide +kernel) rfl rfl (Nat.le_of_ble_eq_true rfl) dX1_enter_2 (fun H locs hP hD hS => ?_)
  replace hP : va_P (dC, dI) vwCl (wX1 cI cZ cJ cA h0 a r4 x5 x6 x7 x8 x9 0 x11 x12 x13 x14 x15 f0 f1 f2 f3 V4) H := hP
  replace hD : va_D A (wX1 cI cZ cJ cA h0 a r4 x5 x6 x7 x8 x9 0 x11 x12 x13 x14 x15 f0 f1 f2 f3 V4) := hD
  refine lv_iconst (v := 0) hx hb dX1_enter_5 (by decide) ?_
  refine lv_istore_n (lv' := [(2, .int 0), (0, .ref h0), (1, .int v1)]) hx hb dX1_enter_6 rfl hl (by decide) rfl (fun ls hl => ?_)
  obtain ⟨t1, ht1, hf1⟩ := z_ib hf
  replace hf := hf1
  clear hf1
  refine b_X1_enter_L7 N ⟨⟨hx, hb, hml, hown, hts⟩, hRf, hRl, hA, hN, hK⟩ N ht1 hP hD hS (lv_sub hl [1, 2, 0] rfl) (fun H locs ls hP hD hS hl => ?_)
  obtain rfl := Option.some.inj hf
  exact hret _ _ _ _ dX1_enter_49 hP hD hS
set_option maxHeartbeats 4000000 in
set_option maxRecDepth 100000 in
theorem k_X1_enter (l : Launch) (dC : Nat → ClassId) (dI : Nat → Nat → Nat) (cI cZ cJ cA : ClassId) (h0 : Nat) (a : Nat → Nat) (r4 : Nat → Nat) (sz : Nat) (N : Nat) (v1 : Int32) (x5 : Int32) (x6 : Int32) (x7 : Int32) (x8 : Int32) (x9 : Int32) (x10 : Int32) (x11 : Int32) (x12 : Int32) (x13 : Int32) (x14 : Int32) (x15 : Int32) (f0 : (Nat → Int32)) (f1 : (Nat → Int32)) (f2 : (Nat → Int32)) (f3 : (Nat → Int32)) (V4 : (Nat → Nat → Int32)) (o : (Int32 × (Nat → Int32))) (hf : q_X1_enter N v1 x5 x10 f2 = some o) : Met l yX1_enter wsX1_enter ({ frames := 1, cells := 0, slots := 0, locals := 21 } : Room) (z_Pre dC dI (z_ty cI cZ cJ cA) [.ref h0, .int v1] sz (wX1 cI cZ cJ cA h0 a r4 x5 x6 x7 x8 x9 x10 x11 x12 x13 x14 x15 f0 f1 f2 f3 V4)) (z_Pv dC dI (wX1 cI cZ cJ cA h0 a r4 x5 x6 x7 x8 x9 o.1 x11 x12 x13 x14 x15 f0 f1 o.2 f3 V4) sz (wX1 cI cZ cJ cA h0 a r4 x5 x6 x7 x8 x9 x10 x11 x12 x13 x14 x15 f0 f1 f2 f3 V4)) 0 0 (va_A (wX1 cI cZ cJ cA h0 a r4 x5 x6 x7 x8 x9 x10 x11 x12 x13 x14 x15 f0 f1 f2 f3 V4) sz) := by
  refine Met.ofW (cc := cX1_enter) (maxL := 3) (ret := none) (by decide) rfl ?_
  intro p e s m args below meth c s₁ B hml hv
  obtain ⟨rfl, hsz, hP, hK, hD0, hN⟩ := hv
  subst hsz
  have hl := lv_entry ([.ref h0, .int v1]) (n := 3) (Nat.le_of_ble_eq_true rfl)
  rw [lg_entry_eq]
  refine b_X1_enter N ⟨⟨B.exec, B.bytes, hml, findClass_of_methodNamed B.named, atoms_spec (ws := wsX1_enter) B.pre⟩, Nat.le_refl _, Nat.le_refl _, fun q h => Or.inr h, hN, hK⟩ hf hP hD0.self va_S.rf hl (fun pc H locs ls hd hP hD hS => ?_)
  exact W.vret B.exec B.bytes B.returns (fun t ht hW => ⟨⟨(), rfl, trivial, by rw [ht]; exact hP, hD⟩, hS.F ht⟩) hS.2.2 hd
def q_X1_exchange (N : Nat) (v1 : Int32) (v2 : Int32) (f2 : (Nat → Int32)) : Option (Nat → Int32) :=
  (if z_in v1 24 then
  (if z_in v2 24 then
  (some (upd (upd f2 (Int32.toNatClampNeg v1) (f2 (Int32.toNatClampNeg v2))) (Int32.toNatClampNeg v2) (f2 (Int32.toNatClampNeg v1))))
  else none)
  else none)
set_option maxHeartbeats 4000000 in
set_option maxRecDepth 100000 in
theorem b_X1_exchange {p : Program} {l : Launch} {e : Env} {R : Room} {s : State} {m : MethodId} {args : Array Value} {below : List Frame} {meth : Method} {c : Code} {Q : State → Prop} {A : Nat → Prop} {dC : Nat → ClassId} {dI : Nat → Nat → Nat} {cI cZ cJ cA : ClassId} {h0 : Nat} {a : Nat → Nat} {r4 : Nat → Nat} (N : Nat) (C0 : z_Cx p s m args c cX1_exchange 4 wsX1_exchange RX1 R 0 0 A dC dI (z_ty cI cZ cJ cA)) {v1 : Int32} {v2 : Int32} {x5 : Int32} {x6 : Int32} {x7 : Int32} {x8 : Int32} {x9 : Int32} {x10 : Int32} {x11 : Int32} {x12 : Int32} {x13 : Int32} {x14 : Int32} {x15 : Int32} {f0 : (Nat → Int32)} {f1 : (Nat → Int32)} {f2 : (Nat → Int32)} {f3 : (Nat → Int32)} {V4 : (Nat → Nat → Int32)} {o : (Nat → Int32)} {H : Heap} {locs : List Loc} {ls : Array Slot} (hf : q_X1_exchange N v1 v2 f2 = some o) (hP : va_P (dC, dI) vwCl (wX1 cI cZ cJ cA h0 a r4 x5 x6 x7 x8 x9 x10 x11 x12 x13 x14 x15 f0 f1 f2 f3 V4) H) (hD : va_D A (wX1 cI cZ cJ cA h0 a r4 x5 x6 x7 x8 x9 x10 x11 x12 x13 x14 x15 f0 f1 f2 f3 V4)) (hS : va_S A s.heap H locs) (hl : lv_has ls 4 [(0, .ref h0), (1, .int v1), (2, .int v2)])
    (hret : ∀ (pc : Nat) (H : Heap) (locs : List Loc) (ls : Array Slot), decode cX1_exchange pc = .ok (.return_, 1) → va_P (dC, dI) vwCl (wX1 cI cZ cJ cA h0 a r4 x5 x6 x7 x8 x9 x10 x11 x12 x13 x14 x15 f0 f1 o f3 V4) H → va_D A (wX1 cI cZ cJ cA h0 a r4 x5 x6 x7 x8 x9 x10 x11 x12 x13 x14 x15 f0 f1 o f3 V4) → va_S A s.heap H locs → W p l e R s m args below meth c H locs 0 0 Q (F0 m pc ls [])) :
    W p l e R s m args below meth c H locs 0 0 Q (F0 m 0 ls []) := by
  obtain ⟨⟨hx, hb, hml, hown, hts⟩, hRf, hRl, hA, hN, hK⟩ := C0
  unfold q_X1_exchange at hf
  refine lv_aload_n hx hb dX1_exchange_0 rfl (lv_at hl 0 rfl) ?_
  refine va_get (D := (dC, dI)) (ci := 1) (v := .ref (a 2)) (C := RX1) (T := TX1) (N := 16) hx hb hts (fun w hw => List.mem_cons_of_mem _ (List.mem_append_right _ hw)) hown hK hP 0 rfl rfl 2 (by decide) (hts (.fieldLink RX1 18 "OldStadium$Heats" "row" "[I") (List.mem_of_getElem? (i := 1) rfl)) (fun _ h9 => h9) rfl dX1_exchange_1 ?_
  refine lv_iload_n hx hb dX1_exchange_4 rfl (lv_at hl 1 rfl) ?_
  have b1 := z_c1 hf
  replace hf := z_c2 hf
  refine va_iald hx hb hK hP 3 0 rfl rfl b1 dX1_exchange_5 ?_
  refine lv_istore_n (lv' := [(3, .int (f2 (Int32.toNatClampNeg v1))), (0, .ref h0), (1, .int v1), (2, .int v2)]) hx hb dX1_exchange_6 rfl hl (by decide) rfl (fun ls hl => ?_)
  refine lv_aload_n hx hb dX1_exchange_7 rfl (lv_at hl 1 rfl) ?_
  refine va_get (D := (dC, dI)) (ci := 1) (v := .ref (a 2)) (C := RX1) (T := TX1) (N := 16) hx hb hts (fun w hw => List.mem_cons_of_mem _ (List.mem_append_right _ hw)) hown hK hP 0 rfl rfl 2 (by decide) (hts (.fieldLink RX1 18 "OldStadium$Heats" "row" "[I") (List.mem_of_getElem? (i := 1) rfl)) (fun _ h9 => h9) rfl dX1_exchange_8 ?_
  refine lv_iload_n hx hb dX1_exchange_11 rfl (lv_at hl 2 rfl) ?_
  refine lv_aload_n hx hb dX1_exchange_12 rfl (lv_at hl 1 rfl) ?_
  refine va_get (D := (dC, dI)) (ci := 1) (v := .ref (a 2)) (C := RX1) (T := TX1) (N := 16) hx hb hts (fun w hw => List.mem_cons_of_mem _ (List.mem_append_right _ hw)) hown hK hP 0 rfl rfl 2 (by decide) (hts (.fieldLink RX1 18 "OldStadium$Heats" "row" "[I") (List.mem_of_getElem? (i := 1) rfl)) (fun _ h9 => h9) rfl dX1_exchange_13 ?_
  refine lv_iload_n hx hb dX1_exchange_16 rfl (lv_at hl 3 rfl) ?_
  have b2 := z_c1 hf
  replace hf := z_c2 hf
  refine va_iald hx hb hK hP 3 0 rfl rfl b2 dX1_exchange_17 ?_
  refine va_iast hx hb hK hP hD hS 3 0 rfl rfl b1 dX1_exchange_18 (fun H locs hP hD hS => ?_)
  replace hP : va_P (dC, dI) vwCl (wX1 cI cZ cJ cA h0 a r4 x5 x6 x7 x8 x9 x10 x11 x12 x13 x14 x15 f0 f1 (upd f2 (Int32.toNatClampNeg v1) (f2 (Int32.toNatClampNeg v2))) f3 V4) H := hP
  replace hD : va_D A (wX1 cI cZ cJ cA h0 a r4 x5 x6 x7 x8 x9 x10 x11 x12 x13 x14 x15 f0 f1 (upd f2 (Int32.toNatClampNeg v1) (f2 (Int32.toNatClampNeg v2))) f3 V4) := hD
  refine lv_aload_n hx hb dX1_exchange_19 rfl (lv_at hl 1 rfl) ?_
  refine va_get (D := (dC, dI)) (ci := 1) (v := .ref (a 2)) (C := RX1) (T := TX1) (N := 16) hx hb hts (fun w hw => List.mem_cons_of_mem _ (List.mem_append_right _ hw)) hown hK hP 0 rfl rfl 2 (by decide) (hts (.fieldLink RX1 18 "OldStadium$Heats" "row" "[I") (List.mem_of_getElem? (i := 1) rfl)) (fun _ h9 => h9) rfl dX1_exchange_20 ?_
  refine lv_iload_n hx hb dX1_exchange_23 rfl (lv_at hl 3 rfl) ?_
  refine lv_iload_n hx hb dX1_exchange_24 rfl (lv_at hl 0 rfl) ?_
  refine va_iast hx hb hK hP hD hS 3 0 rfl rfl b2 dX1_exchange_25 (fun H locs hP hD hS => ?_)
  replace hP : va_P (dC, dI) vwCl (wX1 cI cZ cJ cA h0 a r4 x5 x6 x7 x8 x9 x10 x11 x12 x13 x14 x15 f0 f1 (upd (upd f2 (Int32.toNatClampNeg v1) (f2 (Int32.toNatClampNeg v2))) (Int32.toNatClampNeg v2) (f2 (Int32.toNatClampNeg v1))) f3 V4) H := hP
  replace hD : va_D A (wX1 cI cZ cJ cA h0 a r4 x5 x6 x7 x8 x9 x10 x11 x12 x13 x14 x15 f0 f1 (upd (upd f2 (Int32.toNatClampNeg v1) (f2 (Int32.toNatClampNeg v2))) (Int32.toNatClampNeg v2) (f2 (Int32.toNatClampNeg v1))) f3 V4) := hD
  obtain rfl := Option.some.inj hf
  exact hret _ _ _ _ dX1_exchange_26 hP hD hS
set_option maxHeartbeats 4000000 in
set_option maxRecDepth 100000 in
theorem k_X1_exchange (l : Launch) (dC : Nat → ClassId) (dI : Nat → Nat → Nat) (cI cZ cJ cA : ClassId) (h0 : Nat) (a : Nat → Nat) (r4 : Nat → Nat) (sz : Nat) (N : Nat) (v1 : Int32) (v2 : Int32) (x5 : Int32) (x6 : Int32) (x7 : Int32) (x8 : Int32) (x9 : Int32) (x10 : Int32) (x11 : Int32) (x12 : Int32) (x13 : Int32) (x14 : Int32) (x15 : Int32) (f0 : (Nat → Int32)) (f1 : (Nat → Int32)) (f2 : (Nat → Int32)) (f3 : (Nat → Int32)) (V4 : (Nat → Nat → Int32)) (o : (Nat → Int32)) (hf : q_X1_exchange N v1 v2 f2 = some o) : Met l yX1_exchange wsX1_exchange ({ frames := 0, cells := 0, slots := 0, locals := 0 } : Room) (z_Pre dC dI (z_ty cI cZ cJ cA) [.ref h0, .int v1, .int v2] sz (wX1 cI cZ cJ cA h0 a r4 x5 x6 x7 x8 x9 x10 x11 x12 x13 x14 x15 f0 f1 f2 f3 V4)) (z_Pv dC dI (wX1 cI cZ cJ cA h0 a r4 x5 x6 x7 x8 x9 x10 x11 x12 x13 x14 x15 f0 f1 o f3 V4) sz (wX1 cI cZ cJ cA h0 a r4 x5 x6 x7 x8 x9 x10 x11 x12 x13 x14 x15 f0 f1 f2 f3 V4)) 0 0 (va_A (wX1 cI cZ cJ cA h0 a r4 x5 x6 x7 x8 x9 x10 x11 x12 x13 x14 x15 f0 f1 f2 f3 V4) sz) := by
  refine Met.ofW (cc := cX1_exchange) (maxL := 4) (ret := none) (by decide) rfl ?_
  intro p e s m args below meth c s₁ B hml hv
  obtain ⟨rfl, hsz, hP, hK, hD0, hN⟩ := hv
  subst hsz
  have hl := lv_entry ([.ref h0, .int v1, .int v2]) (n := 4) (Nat.le_of_ble_eq_true rfl)
  rw [lg_entry_eq]
  refine b_X1_exchange N ⟨⟨B.exec, B.bytes, hml, findClass_of_methodNamed B.named, atoms_spec (ws := wsX1_exchange) B.pre⟩, Nat.le_refl _, Nat.le_refl _, fun q h => Or.inr h, hN, hK⟩ hf hP hD0.self va_S.rf hl (fun pc H locs ls hd hP hD hS => ?_)
  exact W.vret B.exec B.bytes B.returns (fun t ht hW => ⟨⟨(), rfl, trivial, by rw [ht]; exact hP, hD⟩, hS.F ht⟩) hS.2.2 hd
def q_X1_mixRow_L7 (N : Nat) : Nat → Int32 → Int32 → (Nat → Int32) → Option (Int32 × (Nat → Int32))
  | 0, _, _, _ => none
  | n + 1, v1, x15, f2 =>
    (if v1 < 1 then
     (some (x15, f2))
    else
     (if (v1 + 1) = 0 then none else
     (Option.bind (q_X1_exchange N v1 (z_rem (z_ushr ((x15 * 1103515245) + 12345) 16) (v1 + 1)) f2) (fun o3 =>
     (q_X1_mixRow_L7 N n (v1 + (-1)) ((x15 * 1103515245) + 12345) o3)))))
set_option maxHeartbeats 4000000 in
set_option maxRecDepth 100000 in
theorem b_X1_mixRow_L7 {p : Program} {l : Launch} {e : Env} {R : Room} {s : State} {m : MethodId} {args : Array Value} {below : List Frame} {meth : Method} {c : Code} {Q : State → Prop} {A : Nat → Prop} {dC : Nat → ClassId} {dI : Nat → Nat → Nat} {cI cZ cJ cA : ClassId} {h0 : Nat} {a : Nat → Nat} {r4 : Nat → Nat} (N : Nat) (C0 : z_Cx p s m args c cX1_mixRow 2 wsX1_mixRow RX1 R 1 23 A dC dI (z_ty cI cZ cJ cA)) : ∀ (n : Nat) {v1 : Int32} {x5 : Int32} {x6 : Int32} {x7 : Int32} {x8 : Int32} {x9 : Int32} {x10 : Int32} {x11 : Int32} {x12 : Int32} {x13 : Int32} {x14 : Int32} {x15 : Int32} {f0 : (Nat → Int32)} {f1 : (Nat → Int32)} {f2 : (Nat → Int32)} {f3 : (Nat → Int32)} {V4 : (Nat → Nat → Int32)} {o : (Int32 × (Nat → Int32))} {H : Heap} {locs : List Loc} {ls : Array Slot}, q_X1_mixRow_L7 N n v1 x15 f2 = some o → va_P (dC, dI) vwCl (wX1 cI cZ cJ cA h0 a r4 x5 x6 x7 x8 x9 x10 x11 x12 x13 x14 x15 f0 f1 f2 f3 V4) H → va_D A (wX1 cI cZ cJ cA h0 a r4 x5 x6 x7 x8 x9 x10 x11 x12 x13 x14 x15 f0 f1 f2 f3 V4) → va_S A s.heap H locs → lv_has ls 2 [(0, .ref h0), (1, .int v1)] →
    (∀ (H : Heap) (locs : List Loc) (ls : Array Slot), va_P (dC, dI) vwCl (wX1 cI cZ cJ cA h0 a r4 x5 x6 x7 x8 x9 x10 x11 x12 x13 x14 o.1 f0 f1 o.2 f3 V4) H → va_D A (wX1 cI cZ cJ cA h0 a r4 x5 x6 x7 x8 x9 x10 x11 x12 x13 x14 o.1 f0 f1 o.2 f3 V4) → va_S A s.heap H locs → lv_has ls 2 [] → W p l e R s m args below meth c H locs 0 0 Q (F0 m 49 ls [])) →
    W p l e R s m args below meth c H locs 0 0 Q (F0 m 7 ls []) := by
  obtain ⟨⟨hx, hb, hml, hown, hts⟩, hRf, hRl, hA, hN, hK⟩ := C0
  intro n
  induction n with
  | zero =>
    intro v1 x5 x6 x7 x8 x9 x10 x11 x12 x13 x14 x15 f0 f1 f2 f3 V4 o H locs ls hf
    cases hf
  | succ n ih =>
    intro v1 x5 x6 x7 x8 x9 x10 x11 x12 x13 x14 x15 f0 f1 f2 f3 V4 o H locs ls hf hP hD hS hl hexit
    rw [q_X1_mixRow_L7] at hf
    refine lv_iload_n hx hb dX1_mixRow_7 rfl (lv_at hl 1 rfl) ?_
    refine lv_iconst (v := 1) hx hb dX1_mixRow_8 (by decide) ?_
    refine lv_icmp_lt (tgt := 49) hx hb dX1_mixRow_9 (by decide) (fun c1 => ?_) (fun c1 => ?_)
    · replace hf := z_ip hf c1
      obtain rfl := Option.some.inj hf
      exact hexit _ _ _ hP hD hS (lv_sub hl [] rfl)
    · replace hf := z_im hf c1
      refine lv_aload_n hx hb dX1_mixRow_12 rfl (lv_at hl 0 rfl) ?_
      refine lv_aload_n hx hb dX1_mixRow_13 rfl (lv_at hl 0 rfl) ?_
      refine va_get (D := (dC, dI)) (ci := 1) (v := .int x15) (C := RX1) (T := TX1) (N := 16) hx hb hts (fun w hw => List.mem_cons_of_mem _ (List.mem_append_right _ hw)) hown hK hP 0 rfl rfl 15 (by decide) (hts (.fieldLink RX1 61 "OldStadium$Heats" "lot" "I") (List.mem_of_getElem? (i := 2) rfl)) (fun _ h9 => h9) rfl dX1_mixRow_14 ?_
      refine lv_ldc (v := 1103515245) hx hb hown (hts (.constant RX1 92 (1103515245)) (List.mem_of_getElem? (i := 3) rfl)) dX1_mixRow_17 ?_
      refine lv_imul hx hb dX1_mixRow_19 ?_
      refine lv_sipush (v := 12345) hx hb dX1_mixRow_20 (by decide) ?_
      refine lv_iadd hx hb dX1_mixRow_23 ?_
      refine va_put (D := (dC, dI)) (ci := 1) (v := .int ((x15 * 1103515245) + 12345)) (ty := .int) (C := RX1) (T := TX1) (N := 16) hx hb hts (fun w hw => List.mem_cons_of_mem _ (List.mem_append_right _ hw)) tyX1 tyX1_ok nmX1 hown hK hP hD hS 0 rfl rfl 15 (by decide) (hts (.fieldLink RX1 61 "OldStadium$Heats" "lot" "I") (List.mem_of_getElem? (i := 2) rfl)) (fun _ h9 => h9) rfl (by decide +kernel) rfl rfl (Nat.le_of_ble_eq_true rfl) dX1_mixRow_24 (fun H locs hP hD hS => ?_)
      replace hP : va_P (dC, dI) vwCl (wX1 cI cZ cJ cA h0 a r4 x5 x6 x7 x8 x9 x10 x11 x12 x13 x14 ((x15 * 1103515245) + 12345) f0 f1 f2 f3 V4) H := hP
      replace hD : va_D A (wX1 cI cZ cJ cA h0 a r4 x5 x6 x7 x8 x9 x10 x11 x12 x13 x14 ((x15 * 1103515245) + 12345) f0 f1 f2 f3 V4) := hD
      refine lv_aload_n hx hb dX1_mixRow_27 rfl (lv_at hl 0 rfl) ?_
      refine lv_iload_n hx hb dX1_mixRow_28 rfl (lv_at hl 1 rfl) ?_
      refine lv_aload_n hx hb dX1_mixRow_29 rfl (lv_at hl 0 rfl) ?_
      refine va_get (D := (dC, dI)) (ci := 1) (v := .int ((x15 * 1103515245) + 12345)) (C := RX1) (T := TX1) (N := 16) hx hb hts (fun w hw => List.mem_cons_of_mem _ (List.mem_append_right _ hw)) hown hK hP 0 rfl rfl 15 (by decide) (hts (.fieldLink RX1 61 "OldStadium$Heats" "lot" "I") (List.mem_of_getElem? (i := 2) rfl)) (fun _ h9 => h9) rfl dX1_mixRow_30 ?_
      refine lv_bipush (v := 16) hx hb dX1_mixRow_33 (by decide) ?_
      refine z_iushr hx hb dX1_mixRow_35 ?_
      refine lv_iload_n hx hb dX1_mixRow_36 rfl (lv_at hl 1 rfl) ?_
      refine lv_iconst (v := 1) hx hb dX1_mixRow_37 (by decide) ?_
      refine lv_iadd hx hb dX1_mixRow_38 ?_
      have d2 := z_n1 hf
      replace hf := z_n2 hf
      refine z_irem hx hb dX1_mixRow_39 d2 ?_
      obtain ⟨o3, ho3, hf1⟩ := z_ib hf
      replace hf := hf1
      clear hf1
      refine z_Vv (As := [.int v1, .int (z_rem (z_ushr ((x15 * 1103515245) + 12345) 16) (v1 + 1))]) (rest := []) (w := (wX1 cI cZ cJ cA h0 a r4 x5 x6 x7 x8 x9 x10 x11 x12 x13 x14 ((x15 * 1103515245) + 12345) f0 f1 f2 f3 V4)) (w1 := (wX1 cI cZ cJ cA h0 a r4 x5 x6 x7 x8 x9 x10 x11 x12 x13 x14 ((x15 * 1103515245) + 12345) f0 f1 o3 f3 V4)) ⟨hx, hb, hml, hown, hts⟩ (k_X1_exchange l dC dI cI cZ cJ cA h0 a r4 H.size N v1 (z_rem (z_ushr ((x15 * 1103515245) + 12345) 16) (v1 + 1)) x5 x6 x7 x8 x9 x10 x11 x12 x13 x14 ((x15 * 1103515245) + 12345) f0 f1 f2 f3 V4 o3 ho3) (cwV 2 hts gX1_mixRow_X1_exchange rfl rfl rfl (by decide +kernel) ⟨Nat.le_trans (Nat.le_of_ble_eq_true rfl) hRf, Nat.le_trans (Nat.le_of_ble_eq_true rfl) hRl⟩) hK hP hD hS hA hN (ci := 1) rfl rfl rfl rfl hl.1 rfl (Nat.le_of_ble_eq_true rfl) dX1_mixRow_40 (fun H locs hP hD hS => ?_)
      refine lv_iinc (v := (v1 + (-1))) (lv' := [(1, .int (v1 + (-1))), (0, .ref h0)]) hx hb dX1_mixRow_43 hl (k := 1) rfl rfl (by decide) rfl (fun ls hl => ?_)
      refine lv_goto (tgt := 7) hx hb dX1_mixRow_46 (by decide) ?_
      exact ih hf hP hD hS (lv_sub hl [1, 0] rfl) hexit
def q_X1_mixRow (N : Nat) (x10 : Int32) (x15 : Int32) (f2 : (Nat → Int32)) : Option (Int32 × (Nat → Int32)) :=
  (Option.bind (q_X1_mixRow_L7 N N (x10 - 1) x15 f2) (fun t1 =>
  (some (t1.1, t1.2))))
set_option maxHeartbeats 4000000 in
set_option maxRecDepth 100000 in
theorem b_X1_mixRow {p : Program} {l : Launch} {e : Env} {R : Room} {s : State} {m : MethodId} {args : Array Value} {below : List Frame} {meth : Method} {c : Code} {Q : State → Prop} {A : Nat → Prop} {dC : Nat → ClassId} {dI : Nat → Nat → Nat} {cI cZ cJ cA : ClassId} {h0 : Nat} {a : Nat → Nat} {r4 : Nat → Nat} (N : Nat) (C0 : z_Cx p s m args c cX1_mixRow 2 wsX1_mixRow RX1 R 1 23 A dC dI (z_ty cI cZ cJ cA)) {x5 : Int32} {x6 : Int32} {x7 : Int32} {x8 : Int32} {x9 : Int32} {x10 : Int32} {x11 : Int32} {x12 : Int32} {x13 : Int32} {x14 : Int32} {x15 : Int32} {f0 : (Nat → Int32)} {f1 : (Nat → Int32)} {f2 : (Nat → Int32)} {f3 : (Nat → Int32)} {V4 : (Nat → Nat → Int32)} {o : (Int32 × (Nat → Int32))} {H : Heap} {locs : List Loc} {ls : Array Slot} (hf : q_X1_mixRow N x10 x15 f2 = some o) (hP : va_P (dC, dI) vwCl (wX1 cI cZ cJ cA h0 a r4 x5 x6 x7 x8 x9 x10 x11 x12 x13 x14 x15 f0 f1 f2 f3 V4) H) (hD : va_D A (wX1 cI cZ cJ cA h0 a r4 x5 x6 x7 x8 x9 x10 x11 x12 x13 x14 x15 f0 f1 f2 f3 V4)) (hS : va_S A s.heap H locs) (hl : lv_has ls 2 [(0, .ref h0)])
    (hret : ∀ (pc : Nat) (H : Heap) (locs : List Loc) (ls : Array Slot), decode cX1_mixRow pc = .ok (.return_, 1) → va_P (dC, dI) vwCl (wX1 cI cZ cJ cA h0 a r4 x5 x6 x7 x8 x9 x10 x11 x12 x13 x14 o.1 f0 f1 o.2 f3 V4) H → va_D A (wX1 cI cZ cJ cA h0 a r4 x5 x6 x7 x8 x9 x10 x11 x12 x13 x14 o.1 f0 f1 o.2 f3 V4) → va_S A s.heap H locs → W p l e R s m args below meth c H locs 0 0 Q (F0 m pc ls [])) :
    W p l e R s m args below meth c H locs 0 0 Q (F0 m 0 ls []) := by
  obtain ⟨⟨hx, hb, hml, hown, hts⟩, hRf, hRl, hA, hN, hK⟩ := C0
  unfold q_X1_mixRow at hf
  refine lv_aload_n hx hb dX1_mixRow_0 rfl (lv_at hl 0 rfl) ?_
  refine va_get (D := (dC, dI)) (ci := 1) (v := .int x10) (C := RX1) (T := TX1) (N := 16) hx hb hts (fun w hw => List.mem_cons_of_mem _ (List.mem_append_right _ hw)) hown hK hP 0 rfl rfl 10 (by decide) (hts (.fieldLink RX1 46 "OldStadium$Heats" "entered" "I") (List.mem_of_getElem? (i := 1) rfl)) (fun _ h9 => h9) rfl dX1_mixRow_1 ?_
  refine lv_iconst (v := 1) hx hb dX1_mixRow_4 (by decide) ?_
  refine lv_isub hx hb dX1_mixRow_5 ?_
  refine lv_istore_n (lv' := [(1, .int (x10 - 1)), (0, .ref h0)]) hx hb dX1_mixRow_6 rfl hl (by decide) rfl (fun ls hl => ?_)
  obtain ⟨t1, ht1, hf1⟩ := z_ib hf
  replace hf := hf1
  clear hf1
  refine b_X1_mixRow_L7 N ⟨⟨hx, hb, hml, hown, hts⟩, hRf, hRl, hA, hN, hK⟩ N ht1 hP hD hS (lv_sub hl [1, 0] rfl) (fun H locs ls hP hD hS hl => ?_)
  obtain rfl := Option.some.inj hf
  exact hret _ _ _ _ dX1_mixRow_49 hP hD hS
set_option maxHeartbeats 4000000 in
set_option maxRecDepth 100000 in
theorem k_X1_mixRow (l : Launch) (dC : Nat → ClassId) (dI : Nat → Nat → Nat) (cI cZ cJ cA : ClassId) (h0 : Nat) (a : Nat → Nat) (r4 : Nat → Nat) (sz : Nat) (N : Nat) (x5 : Int32) (x6 : Int32) (x7 : Int32) (x8 : Int32) (x9 : Int32) (x10 : Int32) (x11 : Int32) (x12 : Int32) (x13 : Int32) (x14 : Int32) (x15 : Int32) (f0 : (Nat → Int32)) (f1 : (Nat → Int32)) (f2 : (Nat → Int32)) (f3 : (Nat → Int32)) (V4 : (Nat → Nat → Int32)) (o : (Int32 × (Nat → Int32))) (hf : q_X1_mixRow N x10 x15 f2 = some o) : Met l yX1_mixRow wsX1_mixRow ({ frames := 1, cells := 0, slots := 0, locals := 23 } : Room) (z_Pre dC dI (z_ty cI cZ cJ cA) [.ref h0] sz (wX1 cI cZ cJ cA h0 a r4 x5 x6 x7 x8 x9 x10 x11 x12 x13 x14 x15 f0 f1 f2 f3 V4)) (z_Pv dC dI (wX1 cI cZ cJ cA h0 a r4 x5 x6 x7 x8 x9 x10 x11 x12 x13 x14 o.1 f0 f1 o.2 f3 V4) sz (wX1 cI cZ cJ cA h0 a r4 x5 x6 x7 x8 x9 x10 x11 x12 x13 x14 x15 f0 f1 f2 f3 V4)) 0 0 (va_A (wX1 cI cZ cJ cA h0 a r4 x5 x6 x7 x8 x9 x10 x11 x12 x13 x14 x15 f0 f1 f2 f3 V4) sz) := by
  refine Met.ofW (cc := cX1_mixRow) (maxL := 2) (ret := none) (by decide) rfl ?_
  intro p e s m args below meth c s₁ B hml hv
  obtain ⟨rfl, hsz, hP, hK, hD0, hN⟩ := hv
  subst hsz
  have hl := lv_entry ([.ref h0]) (n := 2) (Nat.le_of_ble_eq_true rfl)
  rw [lg_entry_eq]
  refine b_X1_mixRow N ⟨⟨B.exec, B.bytes, hml, findClass_of_methodNamed B.named, atoms_spec (ws := wsX1_mixRow) B.pre⟩, Nat.le_refl _, Nat.le_refl _, fun q h => Or.inr h, hN, hK⟩ hf hP hD0.self va_S.rf hl (fun pc H locs ls hd hP hD hS => ?_)
  exact W.vret B.exec B.bytes B.returns (fun t ht hW => ⟨⟨(), rfl, trivial, by rw [ht]; exact hP, hD⟩, hS.F ht⟩) hS.2.2 hd
def q_X1_lastWithoutBye_L4 (N : Nat) (x13 : Int32) (f2 : (Nat → Int32)) : Nat → Int32 → Option (Sum Int32 Unit)
  | 0, _ => none
  | n + 1, v2 =>
    (if v2 < 0 then
     (some (Sum.inr ()))
    else
     (if z_in v2 24 then
     (Option.bind (q_X4_hasBit N x13 (f2 (Int32.toNatClampNeg v2))) (fun o3 =>
     (if o3 = 0 then
      (some (Sum.inl v2))
     else
      (q_X1_lastWithoutBye_L4 N x13 f2 n (v2 + (-1))))))
     else none))
set_option maxHeartbeats 4000000 in
set_option maxRecDepth 100000 in
theorem b_X1_lastWithoutBye_L4 {p : Program} {l : Launch} {e : Env} {R : Room} {s : State} {m : MethodId} {args : Array Value} {below : List Frame} {meth : Method} {c : Code} {Q : State → Prop} {A : Nat → Prop} {dC : Nat → ClassId} {dI : Nat → Nat → Nat} {cI cZ cJ cA : ClassId} {h0 : Nat} {a : Nat → Nat} {r4 : Nat → Nat} (N : Nat) (C0 : z_Cx p s m args c cX1_lastWithoutBye 3 wsX1_lastWithoutBye RX1 R 1 21 A dC dI (z_ty cI cZ cJ cA)) : ∀ (n : Nat) {v1 : Int32} {v2 : Int32} {x5 : Int32} {x6 : Int32} {x7 : Int32} {x8 : Int32} {x9 : Int32} {x10 : Int32} {x11 : Int32} {x12 : Int32} {x13 : Int32} {x14 : Int32} {x15 : Int32} {f0 : (Nat → Int32)} {f1 : (Nat → Int32)} {f2 : (Nat → Int32)} {f3 : (Nat → Int32)} {V4 : (Nat → Nat → Int32)} {o : (Sum Int32 Unit)} {H : Heap} {locs : List Loc} {ls : Array Slot}, q_X1_lastWithoutBye_L4 N x13 f2 n v2 = some o → va_P (dC, dI) vwCl (wX1 cI cZ cJ cA h0 a r4 x5 x6 x7 x8 x9 x10 x11 x12 x13 x14 x15 f0 f1 f2 f3 V4) H → va_D A (wX1 cI cZ cJ cA h0 a r4 x5 x6 x7 x8 x9 x10 x11 x12 x13 x14 x15 f0 f1 f2 f3 V4) → va_S A s.heap H locs → lv_has ls 3 [(0, .ref h0), (1, .int v1), (2, .int v2)] →
    (∀ (t : Int32), o = Sum.inl t → ∀ (pc : Nat) (H : Heap) (locs : List Loc) (ls : Array Slot) (r : Int32), decode cX1_lastWithoutBye pc = .ok (.ireturn, 1) → r = t → va_P (dC, dI) vwCl (wX1 cI cZ cJ cA h0 a r4 x5 x6 x7 x8 x9 x10 x11 x12 x13 x14 x15 f0 f1 f2 f3 V4) H → va_D A (wX1 cI cZ cJ cA h0 a r4 x5 x6 x7 x8 x9 x10 x11 x12 x13 x14 x15 f0 f1 f2 f3 V4) → va_S A s.heap H locs → W p l e R s m args below meth c H locs 0 0 Q (F0 m pc ls [.int r])) →
    (∀ (t : Unit) (H : Heap) (locs : List Loc) (ls : Array Slot), o = Sum.inr t → va_P (dC, dI) vwCl (wX1 cI cZ cJ cA h0 a r4 x5 x6 x7 x8 x9 x10 x11 x12 x13 x14 x15 f0 f1 f2 f3 V4) H → va_D A (wX1 cI cZ cJ cA h0 a r4 x5 x6 x7 x8 x9 x10 x11 x12 x13 x14 x15 f0 f1 f2 f3 V4) → va_S A s.heap H locs → lv_has ls 3 [(1, .int v1)] → W p l e R s m args below meth c H locs 0 0 Q (F0 m 32 ls [])) →
    W p l e R s m args below meth c H locs 0 0 Q (F0 m 4 ls []) := by
  obtain ⟨⟨hx, hb, hml, hown, hts⟩, hRf, hRl, hA, hN, hK⟩ := C0
  intro n
  induction n with
  | zero =>
    intro v1 v2 x5 x6 x7 x8 x9 x10 x11 x12 x13 x14 x15 f0 f1 f2 f3 V4 o H locs ls hf
    cases hf
  | succ n ih =>
    intro v1 v2 x5 x6 x7 x8 x9 x10 x11 x12 x13 x14 x15 f0 f1 f2 f3 V4 o H locs ls hf hP hD hS hl hret hexit
    rw [q_X1_lastWithoutBye_L4] at hf
    refine lv_iload_n hx hb dX1_lastWithoutBye_4 rfl (lv_at hl 2 rfl) ?_
    refine lv_if_lt (tgt := 32) hx hb dX1_lastWithoutBye_5 (by decide) (fun c1 => ?_) (fun c1 => ?_)
    · replace hf := z_ip hf c1
      obtain rfl := Option.some.inj hf
      exact hexit _ _ _ _ rfl hP hD hS (lv_sub hl [1] rfl)
    · replace hf := z_im hf c1
      refine lv_aload_n hx hb dX1_lastWithoutBye_8 rfl (lv_at hl 0 rfl) ?_
      refine va_get (D := (dC, dI)) (ci := 1) (v := .int x13) (C := RX1) (T := TX1) (N := 16) hx hb hts (fun w hw => List.mem_cons_of_mem _ (List.mem_append_right _ hw)) hown hK hP 0 rfl rfl 13 (by decide) (hts (.fieldLink RX1 55 "OldStadium$Heats" "byesHad" "I") (List.mem_of_getElem? (i := 1) rfl)) (fun _ h9 => h9) rfl dX1_lastWithoutBye_9 ?_
      refine lv_aload_n hx hb dX1_lastWithoutBye_12 rfl (lv_at hl 0 rfl) ?_
      refine va_get (D := (dC, dI)) (ci := 1) (v := .ref (a 2)) (C := RX1) (T := TX1) (N := 16) hx hb hts (fun w hw => List.mem_cons_of_mem _ (List.mem_append_right _ hw)) hown hK hP 0 rfl rfl 2 (by decide) (hts (.fieldLink RX1 18 "OldStadium$Heats" "row" "[I") (List.mem_of_getElem? (i := 2) rfl)) (fun _ h9 => h9) rfl dX1_lastWithoutBye_13 ?_
      refine lv_iload_n hx hb dX1_lastWithoutBye_16 rfl (lv_at hl 2 rfl) ?_
      have b2 := z_c1 hf
      replace hf := z_c2 hf
      refine va_iald hx hb hK hP 3 0 rfl rfl b2 dX1_lastWithoutBye_17 ?_
      obtain ⟨o3, ho3, hf1⟩ := z_ib hf
      replace hf := hf1
      clear hf1
      refine z_SN0 (As := [.int x13, .int (f2 (Int32.toNatClampNeg v2))]) (rest := []) ⟨hx, hb, hml, hown, hts⟩ (k_X4_hasBit l dC dI cI cZ cJ cA H.size N x13 (f2 (Int32.toNatClampNeg v2)) o3 ho3) ⟨va_cnB 2 hts gX1_lastWithoutBye_X4_hasBit_n76 rfl rfl rfl (hN _ (List.mem_of_getElem? (i := 5) rfl)) (hts (.initialized RX4) (List.mem_of_getElem? (i := 4) rfl)) (by decide +kernel) ⟨Nat.le_trans (Nat.le_of_ble_eq_true rfl) hRf, Nat.le_trans (Nat.le_of_ble_eq_true rfl) hRl⟩, (hts (.static yX4_hasBit) (List.mem_of_getElem? (i := 3) rfl)), trivial⟩ hK hP hS hA hN rfl hl.1 rfl (Nat.le_of_ble_eq_true rfl) dX1_lastWithoutBye_18 (fun H locs hP hS => ?_)
      refine lv_if_ne (tgt := 26) hx hb dX1_lastWithoutBye_21 (by decide) (fun c4 => ?_) (fun c4 => ?_)
      · replace hf := z_im hf c4
        refine lv_iinc (v := (v2 + (-1))) (lv' := [(2, .int (v2 + (-1))), (0, .ref h0), (1, .int v1)]) hx hb dX1_lastWithoutBye_26 hl (k := 2) rfl rfl (by decide) rfl (fun ls hl => ?_)
        refine lv_goto (tgt := 4) hx hb dX1_lastWithoutBye_29 (by decide) ?_
        exact ih hf hP hD hS (lv_sub hl [1, 2, 0] rfl) hret hexit
      · replace hf := z_ip hf c4
        refine lv_iload_n hx hb dX1_lastWithoutBye_24 rfl (lv_at hl 2 rfl) ?_
        obtain rfl := Option.some.inj hf
        exact hret _ rfl _ _ _ _ _ dX1_lastWithoutBye_25 rfl hP hD hS
def q_X1_lastWithoutBye (N : Nat) (v1 : Int32) (x13 : Int32) (f2 : (Nat → Int32)) : Option Int32 :=
  (Option.bind (q_X1_lastWithoutBye_L4 N x13 f2 N (v1 - 1)) (Sum.elim (fun r3 => (some r3)) (fun s2 =>
  (some v1))))
set_option maxHeartbeats 4000000 in
set_option maxRecDepth 100000 in
theorem b_X1_lastWithoutBye {p : Program} {l : Launch} {e : Env} {R : Room} {s : State} {m : MethodId} {args : Array Value} {below : List Frame} {meth : Method} {c : Code} {Q : State → Prop} {A : Nat → Prop} {dC : Nat → ClassId} {dI : Nat → Nat → Nat} {cI cZ cJ cA : ClassId} {h0 : Nat} {a : Nat → Nat} {r4 : Nat → Nat} (N : Nat) (C0 : z_Cx p s m args c cX1_lastWithoutBye 3 wsX1_lastWithoutBye RX1 R 1 21 A dC dI (z_ty cI cZ cJ cA)) {v1 : Int32} {x5 : Int32} {x6 : Int32} {x7 : Int32} {x8 : Int32} {x9 : Int32} {x10 : Int32} {x11 : Int32} {x12 : Int32} {x13 : Int32} {x14 : Int32} {x15 : Int32} {f0 : (Nat → Int32)} {f1 : (Nat → Int32)} {f2 : (Nat → Int32)} {f3 : (Nat → Int32)} {V4 : (Nat → Nat → Int32)} {o : Int32} {H : Heap} {locs : List Loc} {ls : Array Slot} (hf : q_X1_lastWithoutBye N v1 x13 f2 = some o) (hP : va_P (dC, dI) vwCl (wX1 cI cZ cJ cA h0 a r4 x5 x6 x7 x8 x9 x10 x11 x12 x13 x14 x15 f0 f1 f2 f3 V4) H) (hD : va_D A (wX1 cI cZ cJ cA h0 a r4 x5 x6 x7 x8 x9 x10 x11 x12 x13 x14 x15 f0 f1 f2 f3 V4)) (hS : va_S A s.heap H locs) (hl : lv_has ls 3 [(0, .ref h0), (1, .int v1)])
    (hret : ∀ (pc : Nat) (H : Heap) (locs : List Loc) (ls : Array Slot) (r : Int32), decode cX1_lastWithoutBye pc = .ok (.ireturn, 1) → r = o → va_P (dC, dI) vwCl (wX1 cI cZ cJ cA h0 a r4 x5 x6 x7 x8 x9 x10 x11 x12 x13 x14 x15 f0 f1 f2 f3 V4) H → va_D A (wX1 cI cZ cJ cA h0 a r4 x5 x6 x7 x8 x9 x10 x11 x12 x13 x14 x15 f0 f1 f2 f3 V4) → va_S A s.heap H locs → W p l e R s m args below meth c H locs 0 0 Q (F0 m pc ls [.int r])) :
    W p l e R s m args below meth c H locs 0 0 Q (F0 m 0 ls []) := by
  obtain ⟨⟨hx, hb, hml, hown, hts⟩, hRf, hRl, hA, hN, hK⟩ := C0
  unfold q_X1_lastWithoutBye at hf
  refine lv_iload_n hx hb dX1_lastWithoutBye_0 rfl (lv_at hl 1 rfl) ?_
  refine lv_iconst (v := 1) hx hb dX1_lastWithoutBye_1 (by decide) ?_
  refine lv_isub hx hb dX1_lastWithoutBye_2 ?_
  refine lv_istore_n (lv' := [(2, .int (v1 - 1)), (0, .ref h0), (1, .int v1)]) hx hb dX1_lastWithoutBye_3 rfl hl (by decide) rfl (fun ls hl => ?_)
  obtain ⟨t1, ht1, hf1⟩ := z_ib hf
  replace hf := hf1
  clear hf1
  refine b_X1_lastWithoutBye_L4 N ⟨⟨hx, hb, hml, hown, hts⟩, hRf, hRl, hA, hN, hK⟩ N ht1 hP hD hS (lv_sub hl [1, 2, 0] rfl) (fun r3 e1 pc H locs ls r0 hd hr hP hD hS => ?_) (fun s2 H locs ls e1 hP hD hS hl => ?_)
  · subst e1
    have hf := z_sl hf
    obtain rfl := Option.some.inj hf
    exact hret pc H locs ls r0 hd hr hP hD hS
  subst e1
  replace hf := z_sr hf
  refine lv_iload_n hx hb dX1_lastWithoutBye_32 rfl (lv_at hl 0 rfl) ?_
  obtain rfl := Option.some.inj hf
  exact hret _ _ _ _ _ dX1_lastWithoutBye_33 rfl hP hD hS
set_option maxHeartbeats 4000000 in
set_option maxRecDepth 100000 in
theorem k_X1_lastWithoutBye (l : Launch) (dC : Nat → ClassId) (dI : Nat → Nat → Nat) (cI cZ cJ cA : ClassId) (h0 : Nat) (a : Nat → Nat) (r4 : Nat → Nat) (sz : Nat) (N : Nat) (v1 : Int32) (x5 : Int32) (x6 : Int32) (x7 : Int32) (x8 : Int32) (x9 : Int32) (x10 : Int32) (x11 : Int32) (x12 : Int32) (x13 : Int32) (x14 : Int32) (x15 : Int32) (f0 : (Nat → Int32)) (f1 : (Nat → Int32)) (f2 : (Nat → Int32)) (f3 : (Nat → Int32)) (V4 : (Nat → Nat → Int32)) (o : Int32) (hf : q_X1_lastWithoutBye N v1 x13 f2 = some o) : Met l yX1_lastWithoutBye wsX1_lastWithoutBye ({ frames := 1, cells := 0, slots := 0, locals := 21 } : Room) (z_Pre dC dI (z_ty cI cZ cJ cA) [.ref h0, .int v1] sz (wX1 cI cZ cJ cA h0 a r4 x5 x6 x7 x8 x9 x10 x11 x12 x13 x14 x15 f0 f1 f2 f3 V4)) (z_Pi dC dI o (wX1 cI cZ cJ cA h0 a r4 x5 x6 x7 x8 x9 x10 x11 x12 x13 x14 x15 f0 f1 f2 f3 V4) sz (wX1 cI cZ cJ cA h0 a r4 x5 x6 x7 x8 x9 x10 x11 x12 x13 x14 x15 f0 f1 f2 f3 V4)) 0 0 (va_A (wX1 cI cZ cJ cA h0 a r4 x5 x6 x7 x8 x9 x10 x11 x12 x13 x14 x15 f0 f1 f2 f3 V4) sz) := by
  refine Met.ofW (cc := cX1_lastWithoutBye) (maxL := 3) (ret := (some .int)) (by decide) rfl ?_
  intro p e s m args below meth c s₁ B hml hv
  obtain ⟨rfl, hsz, hP, hK, hD0, hN⟩ := hv
  subst hsz
  have hl := lv_entry ([.ref h0, .int v1]) (n := 3) (Nat.le_of_ble_eq_true rfl)
  rw [lg_entry_eq]
  refine b_X1_lastWithoutBye N ⟨⟨B.exec, B.bytes, hml, findClass_of_methodNamed B.named, atoms_spec (ws := wsX1_lastWithoutBye) B.pre⟩, Nat.le_refl _, Nat.le_refl _, fun q h => Or.inr h, hN, hK⟩ hf hP hD0.self va_S.rf hl (fun pc H locs ls r hd hr hP hD hS => ?_)
  subst hr
  exact W.iret B.exec B.bytes B.returns (fun t ht hW => ⟨⟨_, (), rfl, rfl, by rw [ht]; exact hP, hD⟩, hS.F ht⟩) hS.2.2 hd
def q_X1_giveBye (N : Nat) (v1 : Int32) (x12 : Int32) (x13 : Int32) (f2 : (Nat → Int32)) : Option (Int32 × Int32 × (Nat → Int32)) :=
  (if z_in v1 24 then
  (Option.bind (q_X4_hasBit N x13 (f2 (Int32.toNatClampNeg v1))) (fun o2 =>
  (if o2 = 0 then
   (Option.bind (some ((x13 ||| ((1 : Int32) <<< ((f2 (Int32.toNatClampNeg v1)) &&& 31))) : Int32)) (fun n4 =>
   (some ((f2 (Int32.toNatClampNeg v1)), n4, f2))))
  else
   (Option.bind (q_X1_lastWithoutBye N v1 x13 f2) (fun o5 =>
   (Option.bind (q_X1_exchange N v1 o5 f2) (fun o6 =>
   (Option.bind (some ((x13 ||| ((1 : Int32) <<< ((o6 (Int32.toNatClampNeg v1)) &&& 31))) : Int32)) (fun n7 =>
   (some ((o6 (Int32.toNatClampNeg v1)), n7, o6)))))))))))
  else none)
set_option maxHeartbeats 4000000 in
set_option maxRecDepth 100000 in
theorem b_X1_giveBye {p : Program} {l : Launch} {e : Env} {R : Room} {s : State} {m : MethodId} {args : Array Value} {below : List Frame} {meth : Method} {c : Code} {Q : State → Prop} {A : Nat → Prop} {dC : Nat → ClassId} {dI : Nat → Nat → Nat} {cI cZ cJ cA : ClassId} {h0 : Nat} {a : Nat → Nat} {r4 : Nat → Nat} (N : Nat) (C0 : z_Cx p s m args c cX1_giveBye 2 wsX1_giveBye RX1 R 2 43 A dC dI (z_ty cI cZ cJ cA)) {v1 : Int32} {x5 : Int32} {x6 : Int32} {x7 : Int32} {x8 : Int32} {x9 : Int32} {x10 : Int32} {x11 : Int32} {x12 : Int32} {x13 : Int32} {x14 : Int32} {x15 : Int32} {f0 : (Nat → Int32)} {f1 : (Nat → Int32)} {f2 : (Nat → Int32)} {f3 : (Nat → Int32)} {V4 : (Nat → Nat → Int32)} {o : (Int32 × Int32 × (Nat → Int32))} {H : Heap} {locs : List Loc} {ls : Array Slot} (hf : q_X1_giveBye N v1 x12 x13 f2 = some o) (hP : va_P (dC, dI) vwCl (wX1 cI cZ cJ cA h0 a r4 x5 x6 x7 x8 x9 x10 x11 x12 x13 x14 x15 f0 f1 f2 f3 V4) H) (hD : va_D A (wX1 cI cZ cJ cA h0 a r4 x5 x6 x7 x8 x9 x10 x11 x12 x13 x14 x15 f0 f1 f2 f3 V4)) (hS : va_S A s.heap H locs) (hl : lv_has ls 2 [(0, .ref h0), (1, .int v1)])
    (hret : ∀ (pc : Nat) (H : Heap) (locs : List Loc) (ls : Array Slot), decode cX1_giveBye pc = .ok (.return_, 1) → va_P (dC, dI) vwCl (wX1 cI cZ cJ cA h0 a r4 x5 x6 x7 x8 x9 x10 x11 o.1 o.2.1 x14 x15 f0 f1 o.2.2 f3 V4) H → va_D A (wX1 cI cZ cJ cA h0 a r4 x5 x6 x7 x8 x9 x10 x11 o.1 o.2.1 x14 x15 f0 f1 o.2.2 f3 V4) → va_S A s.heap H locs → W p l e R s m args below meth c H locs 0 0 Q (F0 m pc ls [])) :
    W p l e R s m args below meth c H locs 0 0 Q (F0 m 0 ls []) := by
  obtain ⟨⟨hx, hb, hml, hown, hts⟩, hRf, hRl, hA, hN, hK⟩ := C0
  unfold q_X1_giveBye at hf
  refine lv_aload_n hx hb dX1_giveBye_0 rfl (lv_at hl 0 rfl) ?_
  refine va_get (D := (dC, dI)) (ci := 1) (v := .int x13) (C := RX1) (T := TX1) (N := 16) hx hb hts (fun w hw => List.mem_cons_of_mem _ (List.mem_append_right _ hw)) hown hK hP 0 rfl rfl 13 (by decide) (hts (.fieldLink RX1 55 "OldStadium$Heats" "byesHad" "I") (List.mem_of_getElem? (i := 1) rfl)) (fun _ h9 => h9) rfl dX1_giveBye_1 ?_
  refine lv_aload_n hx hb dX1_giveBye_4 rfl (lv_at hl 0 rfl) ?_
  refine va_get (D := (dC, dI)) (ci := 1) (v := .ref (a 2)) (C := RX1) (T := TX1) (N := 16) hx hb hts (fun w hw => List.mem_cons_of_mem _ (List.mem_append_right _ hw)) hown hK hP 0 rfl rfl 2 (by decide) (hts (.fieldLink RX1 18 "OldStadium$Heats" "row" "[I") (List.mem_of_getElem? (i := 2) rfl)) (fun _ h9 => h9) rfl dX1_giveBye_5 ?_
  refine lv_iload_n hx hb dX1_giveBye_8 rfl (lv_at hl 1 rfl) ?_
  have b1 := z_c1 hf
  replace hf := z_c2 hf
  refine va_iald hx hb hK hP 3 0 rfl rfl b1 dX1_giveBye_9 ?_
  obtain ⟨o2, ho2, hf1⟩ := z_ib hf
  replace hf := hf1
  clear hf1
  refine z_SN0 (As := [.int x13, .int (f2 (Int32.toNatClampNeg v1))]) (rest := []) ⟨hx, hb, hml, hown, hts⟩ (k_X4_hasBit l dC dI cI cZ cJ cA H.size N x13 (f2 (Int32.toNatClampNeg v1)) o2 ho2) ⟨va_cnB 2 hts gX1_giveBye_X4_hasBit_n76 rfl rfl rfl (hN _ (List.mem_of_getElem? (i := 5) rfl)) (hts (.initialized RX4) (List.mem_of_getElem? (i := 5) rfl)) (by decide +kernel) ⟨Nat.le_trans (Nat.le_of_ble_eq_true rfl) hRf, Nat.le_trans (Nat.le_of_ble_eq_true rfl) hRl⟩, (hts (.static yX4_hasBit) (List.mem_of_getElem? (i := 4) rfl)), trivial⟩ hK hP hS hA hN rfl hl.1 rfl (Nat.le_of_ble_eq_true rfl) dX1_giveBye_10 (fun H locs hP hS => ?_)
  refine lv_if_eq (tgt := 26) hx hb dX1_giveBye_13 (by decide) (fun c3 => ?_) (fun c3 => ?_)
  · replace hf := z_ip hf c3
    refine lv_aload_n hx hb dX1_giveBye_26 rfl (lv_at hl 0 rfl) ?_
    refine lv_aload_n hx hb dX1_giveBye_27 rfl (lv_at hl 0 rfl) ?_
    refine va_get (D := (dC, dI)) (ci := 1) (v := .ref (a 2)) (C := RX1) (T := TX1) (N := 16) hx hb hts (fun w hw => List.mem_cons_of_mem _ (List.mem_append_right _ hw)) hown hK hP 0 rfl rfl 2 (by decide) (hts (.fieldLink RX1 18 "OldStadium$Heats" "row" "[I") (List.mem_of_getElem? (i := 2) rfl)) (fun _ h9 => h9) rfl dX1_giveBye_28 ?_
    refine lv_iload_n hx hb dX1_giveBye_31 rfl (lv_at hl 1 rfl) ?_
    refine va_iald hx hb hK hP 3 0 rfl rfl b1 dX1_giveBye_32 ?_
    refine va_put (D := (dC, dI)) (ci := 1) (v := .int (f2 (Int32.toNatClampNeg v1))) (ty := .int) (C := RX1) (T := TX1) (N := 16) hx hb hts (fun w hw => List.mem_cons_of_mem _ (List.mem_append_right _ hw)) tyX1 tyX1_ok nmX1 hown hK hP hD hS 0 rfl rfl 12 (by decide) (hts (.fieldLink RX1 52 "OldStadium$Heats" "bye" "I") (List.mem_of_getElem? (i := 3) rfl)) (fun _ h9 => h9) rfl (by decide +kernel) rfl rfl (Nat.le_of_ble_eq_true rfl) dX1_giveBye_33 (fun H locs hP hD hS => ?_)
    replace hP : va_P (dC, dI) vwCl (wX1 cI cZ cJ cA h0 a r4 x5 x6 x7 x8 x9 x10 x11 (f2 (Int32.toNatClampNeg v1)) x13 x14 x15 f0 f1 f2 f3 V4) H := hP
    replace hD : va_D A (wX1 cI cZ cJ cA h0 a r4 x5 x6 x7 x8 x9 x10 x11 (f2 (Int32.toNatClampNeg v1)) x13 x14 x15 f0 f1 f2 f3 V4) := hD
    refine lv_aload_n hx hb dX1_giveBye_36 rfl (lv_at hl 0 rfl) ?_
    refine lv_dup hx hb dX1_giveBye_37 rfl ?_
    refine va_get (D := (dC, dI)) (ci := 1) (v := .int x13) (C := RX1) (T := TX1) (N := 16) hx hb hts (fun w hw => List.mem_cons_of_mem _ (List.mem_append_right _ hw)) hown hK hP 0 rfl rfl 13 (by decide) (hts (.fieldLink RX1 55 "OldStadium$Heats" "byesHad" "I") (List.mem_of_getElem? (i := 1) rfl)) (fun _ h9 => h9) rfl dX1_giveBye_38 ?_
    refine lv_iconst (v := 1) hx hb dX1_giveBye_41 (by decide) ?_
    refine lv_aload_n hx hb dX1_giveBye_42 rfl (lv_at hl 0 rfl) ?_
    refine va_get (D := (dC, dI)) (ci := 1) (v := .int (f2 (Int32.toNatClampNeg v1))) (C := RX1) (T := TX1) (N := 16) hx hb hts (fun w hw => List.mem_cons_of_mem _ (List.mem_append_right _ hw)) hown hK hP 0 rfl rfl 12 (by decide) (hts (.fieldLink RX1 52 "OldStadium$Heats" "bye" "I") (List.mem_of_getElem? (i := 3) rfl)) (fun _ h9 => h9) rfl dX1_giveBye_43 ?_
    refine lv_ishl hx hb dX1_giveBye_46 ?_
    refine lv_ior hx hb dX1_giveBye_47 ?_
    obtain ⟨n4, hn4, hf1⟩ := z_ib hf
    replace hf := hf1
    clear hf1
    refine lv_topi (fun y9 ey9 => ?_)
    obtain rfl : n4 = y9 := (Option.some.inj hn4).symm.trans ey9.symm
    refine va_put (D := (dC, dI)) (ci := 1) (v := .int n4) (ty := .int) (C := RX1) (T := TX1) (N := 16) hx hb hts (fun w hw => List.mem_cons_of_mem _ (List.mem_append_right _ hw)) tyX1 tyX1_ok nmX1 hown hK hP hD hS 0 rfl rfl 13 (by decide) (hts (.fieldLink RX1 55 "OldStadium$Heats" "byesHad" "I") (List.mem_of_getElem? (i := 1) rfl)) (fun _ h9 => h9) rfl (by decide +kernel) rfl rfl (Nat.le_of_ble_eq_true rfl) dX1_giveBye_48 (fun H locs hP hD hS => ?_)
    replace hP : va_P (dC, dI) vwCl (wX1 cI cZ cJ cA h0 a r4 x5 x6 x7 x8 x9 x10 x11 (f2 (Int32.toNatClampNeg v1)) n4 x14 x15 f0 f1 f2 f3 V4) H := hP
    replace hD : va_D A (wX1 cI cZ cJ cA h0 a r4 x5 x6 x7 x8 x9 x10 x11 (f2 (Int32.toNatClampNeg v1)) n4 x14 x15 f0 f1 f2 f3 V4) := hD
    obtain rfl := Option.some.inj hf
    exact hret _ _ _ _ dX1_giveBye_51 hP hD hS
  · replace hf := z_im hf c3
    refine lv_aload_n hx hb dX1_giveBye_16 rfl (lv_at hl 0 rfl) ?_
    refine lv_iload_n hx hb dX1_giveBye_17 rfl (lv_at hl 1 rfl) ?_
    refine lv_aload_n hx hb dX1_giveBye_18 rfl (lv_at hl 0 rfl) ?_
    refine lv_iload_n hx hb dX1_giveBye_19 rfl (lv_at hl 1 rfl) ?_
    obtain ⟨o5, ho5, hf1⟩ := z_ib hf
    replace hf := hf1
    clear hf1
    refine z_Vi (As := [.int v1]) (rest := [.int v1, .ref h0]) (w := (wX1 cI cZ cJ cA h0 a r4 x5 x6 x7 x8 x9 x10 x11 x12 x13 x14 x15 f0 f1 f2 f3 V4)) (w1 := (wX1 cI cZ cJ cA h0 a r4 x5 x6 x7 x8 x9 x10 x11 x12 x13 x14 x15 f0 f1 f2 f3 V4)) ⟨hx, hb, hml, hown, hts⟩ (k_X1_lastWithoutBye l dC dI cI cZ cJ cA h0 a r4 H.size N v1 x5 x6 x7 x8 x9 x10 x11 x12 x13 x14 x15 f0 f1 f2 f3 V4 o5 ho5) (cwV 1 hts gX1_giveBye_X1_lastWithoutBye rfl rfl rfl (by decide +kernel) ⟨Nat.le_trans (Nat.le_of_ble_eq_true rfl) hRf, Nat.le_trans (Nat.le_of_ble_eq_true rfl) hRl⟩) hK hP hD hS hA hN (ci := 1) rfl rfl rfl rfl hl.1 rfl (Nat.le_of_ble_eq_true rfl) dX1_giveBye_20 (fun H locs hP hD hS => ?_)
    obtain ⟨o6, ho6, hf1⟩ := z_ib hf
    replace hf := hf1
    clear hf1
    refine z_Vv (As := [.int v1, .int o5]) (rest := []) (w := (wX1 cI cZ cJ cA h0 a r4 x5 x6 x7 x8 x9 x10 x11 x12 x13 x14 x15 f0 f1 f2 f3 V4)) (w1 := (wX1 cI cZ cJ cA h0 a r4 x5 x6 x7 x8 x9 x10 x11 x12 x13 x14 x15 f0 f1 o6 f3 V4)) ⟨hx, hb, hml, hown, hts⟩ (k_X1_exchange l dC dI cI cZ cJ cA h0 a r4 H.size N v1 o5 x5 x6 x7 x8 x9 x10 x11 x12 x13 x14 x15 f0 f1 f2 f3 V4 o6 ho6) (cwV 2 hts gX1_giveBye_X1_exchange rfl rfl rfl (by decide +kernel) ⟨Nat.le_trans (Nat.le_of_ble_eq_true rfl) hRf, Nat.le_trans (Nat.le_of_ble_eq_true rfl) hRl⟩) hK hP hD hS hA hN (ci := 1) rfl rfl rfl rfl hl.1 rfl (Nat.le_of_ble_eq_true rfl) dX1_giveBye_23 (fun H locs hP hD hS => ?_)
    refine lv_aload_n hx hb dX1_giveBye_26 rfl (lv_at hl 0 rfl) ?_
    refine lv_aload_n hx hb dX1_giveBye_27 rfl (lv_at hl 0 rfl) ?_
    refine va_get (D := (dC, dI)) (ci := 1) (v := .ref (a 2)) (C := RX1) (T := TX1) (N := 16) hx hb hts (fun w hw => List.mem_cons_of_mem _ (List.mem_append_right _ hw)) hown hK hP 0 rfl rfl 2 (by decide) (hts (.fieldLink RX1 18 "OldStadium$Heats" "row" "[I") (List.mem_of_getElem? (i := 2) rfl)) (fun _ h9 => h9) rfl dX1_giveBye_28 ?_
    refine lv_iload_n hx hb dX1_giveBye_31 rfl (lv_at hl 1 rfl) ?_
    refine va_iald hx hb hK hP 3 0 rfl rfl b1 dX1_giveBye_32 ?_
    refine va_put (D := (dC, dI)) (ci := 1) (v := .int (o6 (Int32.toNatClampNeg v1))) (ty := .int) (C := RX1) (T := TX1) (N := 16) hx hb hts (fun w hw => List.mem_cons_of_mem _ (List.mem_append_right _ hw)) tyX1 tyX1_ok nmX1 hown hK hP hD hS 0 rfl rfl 12 (by decide) (hts (.fieldLink RX1 52 "OldStadium$Heats" "bye" "I") (List.mem_of_getElem? (i := 3) rfl)) (fun _ h9 => h9) rfl (by decide +kernel) rfl rfl (Nat.le_of_ble_eq_true rfl) dX1_giveBye_33 (fun H locs hP hD hS => ?_)
    replace hP : va_P (dC, dI) vwCl (wX1 cI cZ cJ cA h0 a r4 x5 x6 x7 x8 x9 x10 x11 (o6 (Int32.toNatClampNeg v1)) x13 x14 x15 f0 f1 o6 f3 V4) H := hP
    replace hD : va_D A (wX1 cI cZ cJ cA h0 a r4 x5 x6 x7 x8 x9 x10 x11 (o6 (Int32.toNatClampNeg v1)) x13 x14 x15 f0 f1 o6 f3 V4) := hD
    refine lv_aload_n hx hb dX1_giveBye_36 rfl (lv_at hl 0 rfl) ?_
    refine lv_dup hx hb dX1_giveBye_37 rfl ?_
    refine va_get (D := (dC, dI)) (ci := 1) (v := .int x13) (C := RX1) (T := TX1) (N := 16) hx hb hts (fun w hw => List.mem_cons_of_mem _ (List.mem_append_right _ hw)) hown hK hP 0 rfl rfl 13 (by decide) (hts (.fieldLink RX1 55 "OldStadium$Heats" "byesHad" "I") (List.mem_of_getElem? (i := 1) rfl)) (fun _ h9 => h9) rfl dX1_giveBye_38 ?_
    refine lv_iconst (v := 1) hx hb dX1_giveBye_41 (by decide) ?_
    refine lv_aload_n hx hb dX1_giveBye_42 rfl (lv_at hl 0 rfl) ?_
    refine va_get (D := (dC, dI)) (ci := 1) (v := .int (o6 (Int32.toNatClampNeg v1))) (C := RX1) (T := TX1) (N := 16) hx hb hts (fun w hw => List.mem_cons_of_mem _ (List.mem_append_right _ hw)) hown hK hP 0 rfl rfl 12 (by decide) (hts (.fieldLink RX1 52 "OldStadium$Heats" "bye" "I") (List.mem_of_getElem? (i := 3) rfl)) (fun _ h9 => h9) rfl dX1_giveBye_43 ?_
    refine lv_ishl hx hb dX1_giveBye_46 ?_
    refine lv_ior hx hb dX1_giveBye_47 ?_
    obtain ⟨n7, hn7, hf1⟩ := z_ib hf
    replace hf := hf1
    clear hf1
    refine lv_topi (fun y9 ey9 => ?_)
    obtain rfl : n7 = y9 := (Option.some.inj hn7).symm.trans ey9.symm
    refine va_put (D := (dC, dI)) (ci := 1) (v := .int n7) (ty := .int) (C := RX1) (T := TX1) (N := 16) hx hb hts (fun w hw => List.mem_cons_of_mem _ (List.mem_append_right _ hw)) tyX1 tyX1_ok nmX1 hown hK hP hD hS 0 rfl rfl 13 (by decide) (hts (.fieldLink RX1 55 "OldStadium$Heats" "byesHad" "I") (List.mem_of_getElem? (i := 1) rfl)) (fun _ h9 => h9) rfl (by decide +kernel) rfl rfl (Nat.le_of_ble_eq_true rfl) dX1_giveBye_48 (fun H locs hP hD hS => ?_)
    replace hP : va_P (dC, dI) vwCl (wX1 cI cZ cJ cA h0 a r4 x5 x6 x7 x8 x9 x10 x11 (o6 (Int32.toNatClampNeg v1)) n7 x14 x15 f0 f1 o6 f3 V4) H := hP
    replace hD : va_D A (wX1 cI cZ cJ cA h0 a r4 x5 x6 x7 x8 x9 x10 x11 (o6 (Int32.toNatClampNeg v1)) n7 x14 x15 f0 f1 o6 f3 V4) := hD
    obtain rfl := Option.some.inj hf
    exact hret _ _ _ _ dX1_giveBye_51 hP hD hS
set_option maxHeartbeats 4000000 in
set_option maxRecDepth 100000 in
theorem k_X1_giveBye (l : Launch) (dC : Nat → ClassId) (dI : Nat → Nat → Nat) (cI cZ cJ cA : ClassId) (h0 : Nat) (a : Nat → Nat) (r4 : Nat → Nat) (sz : Nat) (N : Nat) (v1 : Int32) (x5 : Int32) (x6 : Int32) (x7 : Int32) (x8 : Int32) (x9 : Int32) (x10 : Int32) (x11 : Int32) (x12 : Int32) (x13 : Int32) (x14 : Int32) (x15 : Int32) (f0 : (Nat → Int32)) (f1 : (Nat → Int32)) (f2 : (Nat → Int32)) (f3 : (Nat → Int32)) (V4 : (Nat → Nat → Int32)) (o : (Int32 × Int32 × (Nat → Int32))) (hf : q_X1_giveBye N v1 x12 x13 f2 = some o) : Met l yX1_giveBye wsX1_giveBye ({ frames := 2, cells := 0, slots := 0, locals := 43 } : Room) (z_Pre dC dI (z_ty cI cZ cJ cA) [.ref h0, .int v1] sz (wX1 cI cZ cJ cA h0 a r4 x5 x6 x7 x8 x9 x10 x11 x12 x13 x14 x15 f0 f1 f2 f3 V4)) (z_Pv dC dI (wX1 cI cZ cJ cA h0 a r4 x5 x6 x7 x8 x9 x10 x11 o.1 o.2.1 x14 x15 f0 f1 o.2.2 f3 V4) sz (wX1 cI cZ cJ cA h0 a r4 x5 x6 x7 x8 x9 x10 x11 x12 x13 x14 x15 f0 f1 f2 f3 V4)) 0 0 (va_A (wX1 cI cZ cJ cA h0 a r4 x5 x6 x7 x8 x9 x10 x11 x12 x13 x14 x15 f0 f1 f2 f3 V4) sz) := by
  refine Met.ofW (cc := cX1_giveBye) (maxL := 2) (ret := none) (by decide) rfl ?_
  intro p e s m args below meth c s₁ B hml hv
  obtain ⟨rfl, hsz, hP, hK, hD0, hN⟩ := hv
  subst hsz
  have hl := lv_entry ([.ref h0, .int v1]) (n := 2) (Nat.le_of_ble_eq_true rfl)
  rw [lg_entry_eq]
  refine b_X1_giveBye N ⟨⟨B.exec, B.bytes, hml, findClass_of_methodNamed B.named, atoms_spec (ws := wsX1_giveBye) B.pre⟩, Nat.le_refl _, Nat.le_refl _, fun q h => Or.inr h, hN, hK⟩ hf hP hD0.self va_S.rf hl (fun pc H locs ls hd hP hD hS => ?_)
  exact W.vret B.exec B.bytes B.returns (fun t ht hW => ⟨⟨(), rfl, trivial, by rw [ht]; exact hP, hD⟩, hS.F ht⟩) hS.2.2 hd
def q_X1_isHeat (N : Nat) (v1 : Int32) (x11 : Int32) : Option Int32 :=
  (if v1 < 0 then
   (some 0)
  else
   (if x11 ≤ v1 then
    (some 0)
   else
    (some 1)))
set_option maxHeartbeats 4000000 in
set_option maxRecDepth 100000 in
theorem b_X1_isHeat {p : Program} {l : Launch} {e : Env} {R : Room} {s : State} {m : MethodId} {args : Array Value} {below : List Frame} {meth : Method} {c : Code} {Q : State → Prop} {A : Nat → Prop} {dC : Nat → ClassId} {dI : Nat → Nat → Nat} {cI cZ cJ cA : ClassId} {h0 : Nat} {a : Nat → Nat} {r4 : Nat → Nat} (N : Nat) (C0 : z_Cx p s m args c cX1_isHeat 2 wsX1_isHeat RX1 R 0 0 A dC dI (z_ty cI cZ cJ cA)) {v1 : Int32} {x5 : Int32} {x6 : Int32} {x7 : Int32} {x8 : Int32} {x9 : Int32} {x10 : Int32} {x11 : Int32} {x12 : Int32} {x13 : Int32} {x14 : Int32} {x15 : Int32} {f0 : (Nat → Int32)} {f1 : (Nat → Int32)} {f2 : (Nat → Int32)} {f3 : (Nat → Int32)} {V4 : (Nat → Nat → Int32)} {o : Int32} {H : Heap} {locs : List Loc} {ls : Array Slot} (hf : q_X1_isHeat N v1 x11 = some o) (hP : va_P (dC, dI) vwCl (wX1 cI cZ cJ cA h0 a r4 x5 x6 x7 x8 x9 x10 x11 x12 x13 x14 x15 f0 f1 f2 f3 V4) H) (hD : va_D A (wX1 cI cZ cJ cA h0 a r4 x5 x6 x7 x8 x9 x10 x11 x12 x13 x14 x15 f0 f1 f2 f3 V4)) (hS : va_S A s.heap H locs) (hl : lv_has ls 2 [(0, .ref h0), (1, .int v1)])
    (hret : ∀ (pc : Nat) (H : Heap) (locs : List Loc) (ls : Array Slot) (r : Int32), decode cX1_isHeat pc = .ok (.ireturn, 1) → r = o → narrow .boolean (.int r) = .int r → va_P (dC, dI) vwCl (wX1 cI cZ cJ cA h0 a r4 x5 x6 x7 x8 x9 x10 x11 x12 x13 x14 x15 f0 f1 f2 f3 V4) H → va_D A (wX1 cI cZ cJ cA h0 a r4 x5 x6 x7 x8 x9 x10 x11 x12 x13 x14 x15 f0 f1 f2 f3 V4) → va_S A s.heap H locs → W p l e R s m args below meth c H locs 0 0 Q (F0 m pc ls [.int r])) :
    W p l e R s m args below meth c H locs 0 0 Q (F0 m 0 ls []) := by
  obtain ⟨⟨hx, hb, hml, hown, hts⟩, hRf, hRl, hA, hN, hK⟩ := C0
  unfold q_X1_isHeat at hf
  refine lv_iload_n hx hb dX1_isHeat_0 rfl (lv_at hl 1 rfl) ?_
  refine lv_if_lt (tgt := 16) hx hb dX1_isHeat_1 (by decide) (fun c1 => ?_) (fun c1 => ?_)
  · replace hf := z_ip hf c1
    refine lv_iconst (v := 0) hx hb dX1_isHeat_16 (by decide) ?_
    obtain rfl := Option.some.inj hf
    exact hret _ _ _ _ _ dX1_isHeat_17 rfl rfl hP hD hS
  · replace hf := z_im hf c1
    refine lv_iload_n hx hb dX1_isHeat_4 rfl (lv_at hl 1 rfl) ?_
    refine lv_aload_n hx hb dX1_isHeat_5 rfl (lv_at hl 0 rfl) ?_
    refine va_get (D := (dC, dI)) (ci := 1) (v := .int x11) (C := RX1) (T := TX1) (N := 16) hx hb hts (fun w hw => List.mem_cons_of_mem _ (List.mem_append_right _ hw)) hown hK hP 0 rfl rfl 11 (by decide) (hts (.fieldLink RX1 49 "OldStadium$Heats" "heats" "I") (List.mem_of_getElem? (i := 1) rfl)) (fun _ h9 => h9) rfl dX1_isHeat_6 ?_
    refine lv_icmp_ge (tgt := 16) hx hb dX1_isHeat_9 (by decide) (fun c2 => ?_) (fun c2 => ?_)
    · replace hf := z_ip hf c2
      refine lv_iconst (v := 0) hx hb dX1_isHeat_16 (by decide) ?_
      obtain rfl := Option.some.inj hf
      exact hret _ _ _ _ _ dX1_isHeat_17 rfl rfl hP hD hS
    · replace hf := z_im hf c2
      refine lv_iconst (v := 1) hx hb dX1_isHeat_12 (by decide) ?_
      refine lv_goto (tgt := 17) hx hb dX1_isHeat_13 (by decide) ?_
      obtain rfl := Option.some.inj hf
      exact hret _ _ _ _ _ dX1_isHeat_17 rfl rfl hP hD hS
set_option maxHeartbeats 4000000 in
set_option maxRecDepth 100000 in
theorem k_X1_isHeat (l : Launch) (dC : Nat → ClassId) (dI : Nat → Nat → Nat) (cI cZ cJ cA : ClassId) (h0 : Nat) (a : Nat → Nat) (r4 : Nat → Nat) (sz : Nat) (N : Nat) (v1 : Int32) (x5 : Int32) (x6 : Int32) (x7 : Int32) (x8 : Int32) (x9 : Int32) (x10 : Int32) (x11 : Int32) (x12 : Int32) (x13 : Int32) (x14 : Int32) (x15 : Int32) (f0 : (Nat → Int32)) (f1 : (Nat → Int32)) (f2 : (Nat → Int32)) (f3 : (Nat → Int32)) (V4 : (Nat → Nat → Int32)) (o : Int32) (hf : q_X1_isHeat N v1 x11 = some o) : Met l yX1_isHeat wsX1_isHeat ({ frames := 0, cells := 0, slots := 0, locals := 0 } : Room) (z_Pre dC dI (z_ty cI cZ cJ cA) [.ref h0, .int v1] sz (wX1 cI cZ cJ cA h0 a r4 x5 x6 x7 x8 x9 x10 x11 x12 x13 x14 x15 f0 f1 f2 f3 V4)) (z_Pi dC dI o (wX1 cI cZ cJ cA h0 a r4 x5 x6 x7 x8 x9 x10 x11 x12 x13 x14 x15 f0 f1 f2 f3 V4) sz (wX1 cI cZ cJ cA h0 a r4 x5 x6 x7 x8 x9 x10 x11 x12 x13 x14 x15 f0 f1 f2 f3 V4)) 0 0 (va_A (wX1 cI cZ cJ cA h0 a r4 x5 x6 x7 x8 x9 x10 x11 x12 x13 x14 x15 f0 f1 f2 f3 V4) sz) := by
  refine Met.ofW (cc := cX1_isHeat) (maxL := 2) (ret := (some .boolean)) (by decide) rfl ?_
  intro p e s m args below meth c s₁ B hml hv
  obtain ⟨rfl, hsz, hP, hK, hD0, hN⟩ := hv
  subst hsz
  have hl := lv_entry ([.ref h0, .int v1]) (n := 2) (Nat.le_of_ble_eq_true rfl)
  rw [lg_entry_eq]
  refine b_X1_isHeat N ⟨⟨B.exec, B.bytes, hml, findClass_of_methodNamed B.named, atoms_spec (ws := wsX1_isHeat) B.pre⟩, Nat.le_refl _, Nat.le_refl _, fun q h => Or.inr h, hN, hK⟩ hf hP hD0.self va_S.rf hl (fun pc H locs ls r hd hr hn hP hD hS => ?_)
  subst hr
  exact W.zret B.exec B.bytes B.returns hn (fun t ht hW => ⟨⟨_, (), rfl, rfl, by rw [ht]; exact hP, hD⟩, hS.F ht⟩) hS.2.2 hd
def q_X1_sizeOf (N : Nat) (v1 : Int32) (x9 : Int32) (x10 : Int32) : Option Int32 :=
  (some (z_min x9 (x10 - (v1 * x9))))
set_option maxHeartbeats 4000000 in
set_option maxRecDepth 100000 in
theorem b_X1_sizeOf {p : Program} {l : Launch} {e : Env} {R : Room} {s : State} {m : MethodId} {args : Array Value} {below : List Frame} {meth : Method} {c : Code} {Q : State → Prop} {A : Nat → Prop} {dC : Nat → ClassId} {dI : Nat → Nat → Nat} {cI cZ cJ cA : ClassId} {h0 : Nat} {a : Nat → Nat} {r4 : Nat → Nat} (N : Nat) (C0 : z_Cx p s m args c cX1_sizeOf 2 wsX1_sizeOf RX1 R 1 21 A dC dI (z_ty cI cZ cJ cA)) {v1 : Int32} {x5 : Int32} {x6 : Int32} {x7 : Int32} {x8 : Int32} {x9 : Int32} {x10 : Int32} {x11 : Int32} {x12 : Int32} {x13 : Int32} {x14 : Int32} {x15 : Int32} {f0 : (Nat → Int32)} {f1 : (Nat → Int32)} {f2 : (Nat → Int32)} {f3 : (Nat → Int32)} {V4 : (Nat → Nat → Int32)} {o : Int32} {H : Heap} {locs : List Loc} {ls : Array Slot} (hf : q_X1_sizeOf N v1 x9 x10 = some o) (hP : va_P (dC, dI) vwCl (wX1 cI cZ cJ cA h0 a r4 x5 x6 x7 x8 x9 x10 x11 x12 x13 x14 x15 f0 f1 f2 f3 V4) H) (hD : va_D A (wX1 cI cZ cJ cA h0 a r4 x5 x6 x7 x8 x9 x10 x11 x12 x13 x14 x15 f0 f1 f2 f3 V4)) (hS : va_S A s.heap H locs) (hl : lv_has ls 2 [(0, .ref h0), (1, .int v1)])
    (hret : ∀ (pc : Nat) (H : Heap) (locs : List Loc) (ls : Array Slot) (r : Int32), decode cX1_sizeOf pc = .ok (.ireturn, 1) → r = o → va_P (dC, dI) vwCl (wX1 cI cZ cJ cA h0 a r4 x5 x6 x7 x8 x9 x10 x11 x12 x13 x14 x15 f0 f1 f2 f3 V4) H → va_D A (wX1 cI cZ cJ cA h0 a r4 x5 x6 x7 x8 x9 x10 x11 x12 x13 x14 x15 f0 f1 f2 f3 V4) → va_S A s.heap H locs → W p l e R s m args below meth c H locs 0 0 Q (F0 m pc ls [.int r])) :
    W p l e R s m args below meth c H locs 0 0 Q (F0 m 0 ls []) := by
  obtain ⟨⟨hx, hb, hml, hown, hts⟩, hRf, hRl, hA, hN, hK⟩ := C0
  unfold q_X1_sizeOf at hf
  refine lv_aload_n hx hb dX1_sizeOf_0 rfl (lv_at hl 0 rfl) ?_
  refine va_get (D := (dC, dI)) (ci := 1) (v := .int x9) (C := RX1) (T := TX1) (N := 16) hx hb hts (fun w hw => List.mem_cons_of_mem _ (List.mem_append_right _ hw)) hown hK hP 0 rfl rfl 9 (by decide) (hts (.fieldLink RX1 43 "OldStadium$Heats" "size" "I") (List.mem_of_getElem? (i := 1) rfl)) (fun _ h9 => h9) rfl dX1_sizeOf_1 ?_
  refine lv_aload_n hx hb dX1_sizeOf_4 rfl (lv_at hl 0 rfl) ?_
  refine va_get (D := (dC, dI)) (ci := 1) (v := .int x10) (C := RX1) (T := TX1) (N := 16) hx hb hts (fun w hw => List.mem_cons_of_mem _ (List.mem_append_right _ hw)) hown hK hP 0 rfl rfl 10 (by decide) (hts (.fieldLink RX1 46 "OldStadium$Heats" "entered" "I") (List.mem_of_getElem? (i := 2) rfl)) (fun _ h9 => h9) rfl dX1_sizeOf_5 ?_
  refine lv_iload_n hx hb dX1_sizeOf_8 rfl (lv_at hl 1 rfl) ?_
  refine lv_aload_n hx hb dX1_sizeOf_9 rfl (lv_at hl 0 rfl) ?_
  refine va_get (D := (dC, dI)) (ci := 1) (v := .int x9) (C := RX1) (T := TX1) (N := 16) hx hb hts (fun w hw => List.mem_cons_of_mem _ (List.mem_append_right _ hw)) hown hK hP 0 rfl rfl 9 (by decide) (hts (.fieldLink RX1 43 "OldStadium$Heats" "size" "I") (List.mem_of_getElem? (i := 1) rfl)) (fun _ h9 => h9) rfl dX1_sizeOf_10 ?_
  refine lv_imul hx hb dX1_sizeOf_13 ?_
  refine lv_isub hx hb dX1_sizeOf_14 ?_
  refine z_mmin hx hb (hml.trans hl.1.symm) hown (hts (.methodLink RX1 101 Lib.Math.min.name) (List.mem_of_getElem? (i := 3) rfl)) (hts (.static Lib.Math.min.name) (List.mem_of_getElem? (i := 4) rfl)) (hts (.initialized "java/lang/Math") (List.mem_of_getElem? (i := 5) rfl)) (hts (.code Lib.Math.min.name Lib.Math.min.code 2 (some .int)) (List.mem_of_getElem? (i := 6) rfl)) (Nat.le_trans (Nat.le_of_ble_eq_true rfl) hRf) (Nat.le_trans (Nat.le_of_ble_eq_true rfl) hRl) (Nat.zero_le _) (Nat.zero_le _) dX1_sizeOf_15 ?_
  obtain rfl := Option.some.inj hf
  exact hret _ _ _ _ _ dX1_sizeOf_18 rfl hP hD hS
set_option maxHeartbeats 4000000 in
set_option maxRecDepth 100000 in
theorem k_X1_sizeOf (l : Launch) (dC : Nat → ClassId) (dI : Nat → Nat → Nat) (cI cZ cJ cA : ClassId) (h0 : Nat) (a : Nat → Nat) (r4 : Nat → Nat) (sz : Nat) (N : Nat) (v1 : Int32) (x5 : Int32) (x6 : Int32) (x7 : Int32) (x8 : Int32) (x9 : Int32) (x10 : Int32) (x11 : Int32) (x12 : Int32) (x13 : Int32) (x14 : Int32) (x15 : Int32) (f0 : (Nat → Int32)) (f1 : (Nat → Int32)) (f2 : (Nat → Int32)) (f3 : (Nat → Int32)) (V4 : (Nat → Nat → Int32)) (o : Int32) (hf : q_X1_sizeOf N v1 x9 x10 = some o) : Met l yX1_sizeOf wsX1_sizeOf ({ frames := 1, cells := 0, slots := 0, locals := 21 } : Room) (z_Pre dC dI (z_ty cI cZ cJ cA) [.ref h0, .int v1] sz (wX1 cI cZ cJ cA h0 a r4 x5 x6 x7 x8 x9 x10 x11 x12 x13 x14 x15 f0 f1 f2 f3 V4)) (z_Pi dC dI o (wX1 cI cZ cJ cA h0 a r4 x5 x6 x7 x8 x9 x10 x11 x12 x13 x14 x15 f0 f1 f2 f3 V4) sz (wX1 cI cZ cJ cA h0 a r4 x5 x6 x7 x8 x9 x10 x11 x12 x13 x14 x15 f0 f1 f2 f3 V4)) 0 0 (va_A (wX1 cI cZ cJ cA h0 a r4 x5 x6 x7 x8 x9 x10 x11 x12 x13 x14 x15 f0 f1 f2 f3 V4) sz) := by
  refine Met.ofW (cc := cX1_sizeOf) (maxL := 2) (ret := (some .int)) (by decide) rfl ?_
  intro p e s m args below meth c s₁ B hml hv
  obtain ⟨rfl, hsz, hP, hK, hD0, hN⟩ := hv
  subst hsz
  have hl := lv_entry ([.ref h0, .int v1]) (n := 2) (Nat.le_of_ble_eq_true rfl)
  rw [lg_entry_eq]
  refine b_X1_sizeOf N ⟨⟨B.exec, B.bytes, hml, findClass_of_methodNamed B.named, atoms_spec (ws := wsX1_sizeOf) B.pre⟩, Nat.le_refl _, Nat.le_refl _, fun q h => Or.inr h, hN, hK⟩ hf hP hD0.self va_S.rf hl (fun pc H locs ls r hd hr hP hD hS => ?_)
  subst hr
  exact W.iret B.exec B.bytes B.returns (fun t ht hW => ⟨⟨_, (), rfl, rfl, by rw [ht]; exact hP, hD⟩, hS.F ht⟩) hS.2.2 hd
def q_X1_runnerAt (N : Nat) (v1 : Int32) (v2 : Int32) (x9 : Int32) (x10 : Int32) (x11 : Int32) (f2 : (Nat → Int32)) : Option Int32 :=
  (Option.bind (q_X1_isHeat N v1 x11) (fun o1 =>
  (if o1 = 0 then
   (some (-1))
  else
   (if v2 < 0 then
    (some (-1))
   else
    (Option.bind (q_X1_sizeOf N v1 x9 x10) (fun o4 =>
    (if o4 ≤ v2 then
     (some (-1))
    else
     (if z_in ((v1 * x9) + v2) 24 then
     (some (f2 (Int32.toNatClampNeg ((v1 * x9) + v2))))
     else none))))))))
set_option maxHeartbeats 4000000 in
set_option maxRecDepth 100000 in
theorem b_X1_runnerAt {p : Program} {l : Launch} {e : Env} {R : Room} {s : State} {m : MethodId} {args : Array Value} {below : List Frame} {meth : Method} {c : Code} {Q : State → Prop} {A : Nat → Prop} {dC : Nat → ClassId} {dI : Nat → Nat → Nat} {cI cZ cJ cA : ClassId} {h0 : Nat} {a : Nat → Nat} {r4 : Nat → Nat} (N : Nat) (C0 : z_Cx p s m args c cX1_runnerAt 3 wsX1_runnerAt RX1 R 2 42 A dC dI (z_ty cI cZ cJ cA)) {v1 : Int32} {v2 : Int32} {x5 : Int32} {x6 : Int32} {x7 : Int32} {x8 : Int32} {x9 : Int32} {x10 : Int32} {x11 : Int32} {x12 : Int32} {x13 : Int32} {x14 : Int32} {x15 : Int32} {f0 : (Nat → Int32)} {f1 : (Nat → Int32)} {f2 : (Nat → Int32)} {f3 : (Nat → Int32)} {V4 : (Nat → Nat → Int32)} {o : Int32} {H : Heap} {locs : List Loc} {ls : Array Slot} (hf : q_X1_runnerAt N v1 v2 x9 x10 x11 f2 = some o) (hP : va_P (dC, dI) vwCl (wX1 cI cZ cJ cA h0 a r4 x5 x6 x7 x8 x9 x10 x11 x12 x13 x14 x15 f0 f1 f2 f3 V4) H) (hD : va_D A (wX1 cI cZ cJ cA h0 a r4 x5 x6 x7 x8 x9 x10 x11 x12 x13 x14 x15 f0 f1 f2 f3 V4)) (hS : va_S A s.heap H locs) (hl : lv_has ls 3 [(0, .ref h0), (1, .int v1), (2, .int v2)])
    (hret : ∀ (pc : Nat) (H : Heap) (locs : List Loc) (ls : Array Slot) (r : Int32), decode cX1_runnerAt pc = .ok (.ireturn, 1) → r = o → va_P (dC, dI) vwCl (wX1 cI cZ cJ cA h0 a r4 x5 x6 x7 x8 x9 x10 x11 x12 x13 x14 x15 f0 f1 f2 f3 V4) H → va_D A (wX1 cI cZ cJ cA h0 a r4 x5 x6 x7 x8 x9 x10 x11 x12 x13 x14 x15 f0 f1 f2 f3 V4) → va_S A s.heap H locs → W p l e R s m args below meth c H locs 0 0 Q (F0 m pc ls [.int r])) :
    W p l e R s m args below meth c H locs 0 0 Q (F0 m 0 ls []) := by
  obtain ⟨⟨hx, hb, hml, hown, hts⟩, hRf, hRl, hA, hN, hK⟩ := C0
  unfold q_X1_runnerAt at hf
  refine lv_aload_n hx hb dX1_runnerAt_0 rfl (lv_at hl 0 rfl) ?_
  refine lv_iload_n hx hb dX1_runnerAt_1 rfl (lv_at hl 1 rfl) ?_
  obtain ⟨o1, ho1, hf1⟩ := z_ib hf
  replace hf := hf1
  clear hf1
  refine z_Vi (As := [.int v1]) (rest := []) (w := (wX1 cI cZ cJ cA h0 a r4 x5 x6 x7 x8 x9 x10 x11 x12 x13 x14 x15 f0 f1 f2 f3 V4)) (w1 := (wX1 cI cZ cJ cA h0 a r4 x5 x6 x7 x8 x9 x10 x11 x12 x13 x14 x15 f0 f1 f2 f3 V4)) ⟨hx, hb, hml, hown, hts⟩ (k_X1_isHeat l dC dI cI cZ cJ cA h0 a r4 H.size N v1 x5 x6 x7 x8 x9 x10 x11 x12 x13 x14 x15 f0 f1 f2 f3 V4 o1 ho1) (cwV 1 hts gX1_runnerAt_X1_isHeat rfl rfl rfl (by decide +kernel) ⟨Nat.le_trans (Nat.le_of_ble_eq_true rfl) hRf, Nat.le_trans (Nat.le_of_ble_eq_true rfl) hRl⟩) hK hP hD hS hA hN (ci := 1) rfl rfl rfl rfl hl.1 rfl (Nat.le_of_ble_eq_true rfl) dX1_runnerAt_2 (fun H locs hP hD hS => ?_)
  refine lv_if_eq (tgt := 37) hx hb dX1_runnerAt_5 (by decide) (fun c2 => ?_) (fun c2 => ?_)
  · replace hf := z_ip hf c2
    refine lv_iconst (v := (-1)) hx hb dX1_runnerAt_37 (by decide) ?_
    obtain rfl := Option.some.inj hf
    exact hret _ _ _ _ _ dX1_runnerAt_38 rfl hP hD hS
  · replace hf := z_im hf c2
    refine lv_iload_n hx hb dX1_runnerAt_8 rfl (lv_at hl 2 rfl) ?_
    refine lv_if_lt (tgt := 37) hx hb dX1_runnerAt_9 (by decide) (fun c3 => ?_) (fun c3 => ?_)
    · replace hf := z_ip hf c3
      refine lv_iconst (v := (-1)) hx hb dX1_runnerAt_37 (by decide) ?_
      obtain rfl := Option.some.inj hf
      exact hret _ _ _ _ _ dX1_runnerAt_38 rfl hP hD hS
    · replace hf := z_im hf c3
      refine lv_iload_n hx hb dX1_runnerAt_12 rfl (lv_at hl 2 rfl) ?_
      refine lv_aload_n hx hb dX1_runnerAt_13 rfl (lv_at hl 0 rfl) ?_
      refine lv_iload_n hx hb dX1_runnerAt_14 rfl (lv_at hl 1 rfl) ?_
      obtain ⟨o4, ho4, hf1⟩ := z_ib hf
      replace hf := hf1
      clear hf1
      refine z_Vi (As := [.int v1]) (rest := [.int v2]) (w := (wX1 cI cZ cJ cA h0 a r4 x5 x6 x7 x8 x9 x10 x11 x12 x13 x14 x15 f0 f1 f2 f3 V4)) (w1 := (wX1 cI cZ cJ cA h0 a r4 x5 x6 x7 x8 x9 x10 x11 x12 x13 x14 x15 f0 f1 f2 f3 V4)) ⟨hx, hb, hml, hown, hts⟩ (k_X1_sizeOf l dC dI cI cZ cJ cA h0 a r4 H.size N v1 x5 x6 x7 x8 x9 x10 x11 x12 x13 x14 x15 f0 f1 f2 f3 V4 o4 ho4) (cwV 1 hts gX1_runnerAt_X1_sizeOf rfl rfl rfl (by decide +kernel) ⟨Nat.le_trans (Nat.le_of_ble_eq_true rfl) hRf, Nat.le_trans (Nat.le_of_ble_eq_true rfl) hRl⟩) hK hP hD hS hA hN (ci := 1) rfl rfl rfl rfl hl.1 rfl (Nat.le_of_ble_eq_true rfl) dX1_runnerAt_15 (fun H locs hP hD hS => ?_)
      refine lv_icmp_ge (tgt := 37) hx hb dX1_runnerAt_18 (by decide) (fun c5 => ?_) (fun c5 => ?_)
      · replace hf := z_ip hf c5
        refine lv_iconst (v := (-1)) hx hb dX1_runnerAt_37 (by decide) ?_
        obtain rfl := Option.some.inj hf
        exact hret _ _ _ _ _ dX1_runnerAt_38 rfl hP hD hS
      · replace hf := z_im hf c5
        refine lv_aload_n hx hb dX1_runnerAt_21 rfl (lv_at hl 0 rfl) ?_
        refine va_get (D := (dC, dI)) (ci := 1) (v := .ref (a 2)) (C := RX1) (T := TX1) (N := 16) hx hb hts (fun w hw => List.mem_cons_of_mem _ (List.mem_append_right _ hw)) hown hK hP 0 rfl rfl 2 (by decide) (hts (.fieldLink RX1 18 "OldStadium$Heats" "row" "[I") (List.mem_of_getElem? (i := 1) rfl)) (fun _ h9 => h9) rfl dX1_runnerAt_22 ?_
        refine lv_iload_n hx hb dX1_runnerAt_25 rfl (lv_at hl 1 rfl) ?_
        refine lv_aload_n hx hb dX1_runnerAt_26 rfl (lv_at hl 0 rfl) ?_
        refine va_get (D := (dC, dI)) (ci := 1) (v := .int x9) (C := RX1) (T := TX1) (N := 16) hx hb hts (fun w hw => List.mem_cons_of_mem _ (List.mem_append_right _ hw)) hown hK hP 0 rfl rfl 9 (by decide) (hts (.fieldLink RX1 43 "OldStadium$Heats" "size" "I") (List.mem_of_getElem? (i := 2) rfl)) (fun _ h9 => h9) rfl dX1_runnerAt_27 ?_
        refine lv_imul hx hb dX1_runnerAt_30 ?_
        refine lv_iload_n hx hb dX1_runnerAt_31 rfl (lv_at hl 2 rfl) ?_
        refine lv_iadd hx hb dX1_runnerAt_32 ?_
        have b6 := z_c1 hf
        replace hf := z_c2 hf
        refine va_iald hx hb hK hP 3 0 rfl rfl b6 dX1_runnerAt_33 ?_
        refine lv_goto (tgt := 38) hx hb dX1_runnerAt_34 (by decide) ?_
        obtain rfl := Option.some.inj hf
        exact hret _ _ _ _ _ dX1_runnerAt_38 rfl hP hD hS
set_option maxHeartbeats 4000000 in
set_option maxRecDepth 100000 in
theorem k_X1_runnerAt (l : Launch) (dC : Nat → ClassId) (dI : Nat → Nat → Nat) (cI cZ cJ cA : ClassId) (h0 : Nat) (a : Nat → Nat) (r4 : Nat → Nat) (sz : Nat) (N : Nat) (v1 : Int32) (v2 : Int32) (x5 : Int32) (x6 : Int32) (x7 : Int32) (x8 : Int32) (x9 : Int32) (x10 : Int32) (x11 : Int32) (x12 : Int32) (x13 : Int32) (x14 : Int32) (x15 : Int32) (f0 : (Nat → Int32)) (f1 : (Nat → Int32)) (f2 : (Nat → Int32)) (f3 : (Nat → Int32)) (V4 : (Nat → Nat → Int32)) (o : Int32) (hf : q_X1_runnerAt N v1 v2 x9 x10 x11 f2 = some o) : Met l yX1_runnerAt wsX1_runnerAt ({ frames := 2, cells := 0, slots := 0, locals := 42 } : Room) (z_Pre dC dI (z_ty cI cZ cJ cA) [.ref h0, .int v1, .int v2] sz (wX1 cI cZ cJ cA h0 a r4 x5 x6 x7 x8 x9 x10 x11 x12 x13 x14 x15 f0 f1 f2 f3 V4)) (z_Pi dC dI o (wX1 cI cZ cJ cA h0 a r4 x5 x6 x7 x8 x9 x10 x11 x12 x13 x14 x15 f0 f1 f2 f3 V4) sz (wX1 cI cZ cJ cA h0 a r4 x5 x6 x7 x8 x9 x10 x11 x12 x13 x14 x15 f0 f1 f2 f3 V4)) 0 0 (va_A (wX1 cI cZ cJ cA h0 a r4 x5 x6 x7 x8 x9 x10 x11 x12 x13 x14 x15 f0 f1 f2 f3 V4) sz) := by
  refine Met.ofW (cc := cX1_runnerAt) (maxL := 3) (ret := (some .int)) (by decide) rfl ?_
  intro p e s m args below meth c s₁ B hml hv
  obtain ⟨rfl, hsz, hP, hK, hD0, hN⟩ := hv
  subst hsz
  have hl := lv_entry ([.ref h0, .int v1, .int v2]) (n := 3) (Nat.le_of_ble_eq_true rfl)
  rw [lg_entry_eq]
  refine b_X1_runnerAt N ⟨⟨B.exec, B.bytes, hml, findClass_of_methodNamed B.named, atoms_spec (ws := wsX1_runnerAt) B.pre⟩, Nat.le_refl _, Nat.le_refl _, fun q h => Or.inr h, hN, hK⟩ hf hP hD0.self va_S.rf hl (fun pc H locs ls r hd hr hP hD hS => ?_)
  subst hr
  exact W.iret B.exec B.bytes B.returns (fun t ht hW => ⟨⟨_, (), rfl, rfl, by rw [ht]; exact hP, hD⟩, hS.F ht⟩) hS.2.2 hd
def q_X1_isIn_L2 (N : Nat) (v1 : Int32) (v2 : Int32) (x9 : Int32) (x10 : Int32) (x11 : Int32) (f2 : (Nat → Int32)) : Nat → Int32 → Option (Sum Int32 Unit)
  | 0, _ => none
  | n + 1, v3 =>
    (if x9 ≤ v3 then
     (some (Sum.inr ()))
    else
     (if v2 < 0 then
      (q_X1_isIn_L2 N v1 v2 x9 x10 x11 f2 n (v3 + 1))
     else
      (Option.bind (q_X1_runnerAt N v1 v3 x9 x10 x11 f2) (fun o3 =>
      (if o3 = v2 then
       (some (Sum.inl 1))
      else
       (q_X1_isIn_L2 N v1 v2 x9 x10 x11 f2 n (v3 + 1)))))))
set_option maxHeartbeats 4000000 in
set_option maxRecDepth 100000 in
theorem b_X1_isIn_L2 {p : Program} {l : Launch} {e : Env} {R : Room} {s : State} {m : MethodId} {args : Array Value} {below : List Frame} {meth : Method} {c : Code} {Q : State → Prop} {A : Nat → Prop} {dC : Nat → ClassId} {dI : Nat → Nat → Nat} {cI cZ cJ cA : ClassId} {h0 : Nat} {a : Nat → Nat} {r4 : Nat → Nat} (N : Nat) (C0 : z_Cx p s m args c cX1_isIn 4 wsX1_isIn RX1 R 3 64 A dC dI (z_ty cI cZ cJ cA)) : ∀ (n : Nat) {v1 : Int32} {v2 : Int32} {v3 : Int32} {x5 : Int32} {x6 : Int32} {x7 : Int32} {x8 : Int32} {x9 : Int32} {x10 : Int32} {x11 : Int32} {x12 : Int32} {x13 : Int32} {x14 : Int32} {x15 : Int32} {f0 : (Nat → Int32)} {f1 : (Nat → Int32)} {f2 : (Nat → Int32)} {f3 : (Nat → Int32)} {V4 : (Nat → Nat → Int32)} {o : (Sum Int32 Unit)} {H : Heap} {locs : List Loc} {ls : Array Slot}, q_X1_isIn_L2 N v1 v2 x9 x10 x11 f2 n v3 = some o → va_P (dC, dI) vwCl (wX1 cI cZ cJ cA h0 a r4 x5 x6 x7 x8 x9 x10 x11 x12 x13 x14 x15 f0 f1 f2 f3 V4) H → va_D A (wX1 cI cZ cJ cA h0 a r4 x5 x6 x7 x8 x9 x10 x11 x12 x13 x14 x15 f0 f1 f2 f3 V4) → va_S A s.heap H locs → lv_has ls 4 [(0, .ref h0), (1, .int v1), (2, .int v2), (3, .int v3)] →
    (∀ (t : Int32), o = Sum.inl t → ∀ (pc : Nat) (H : Heap) (locs : List Loc) (ls : Array Slot) (r : Int32), decode cX1_isIn pc = .ok (.ireturn, 1) → r = t → narrow .boolean (.int r) = .int r → va_P (dC, dI) vwCl (wX1 cI cZ cJ cA h0 a r4 x5 x6 x7 x8 x9 x10 x11 x12 x13 x14 x15 f0 f1 f2 f3 V4) H → va_D A (wX1 cI cZ cJ cA h0 a r4 x5 x6 x7 x8 x9 x10 x11 x12 x13 x14 x15 f0 f1 f2 f3 V4) → va_S A s.heap H locs → W p l e R s m args below meth c H locs 0 0 Q (F0 m pc ls [.int r])) →
    (∀ (t : Unit) (H : Heap) (locs : List Loc) (ls : Array Slot), o = Sum.inr t → va_P (dC, dI) vwCl (wX1 cI cZ cJ cA h0 a r4 x5 x6 x7 x8 x9 x10 x11 x12 x13 x14 x15 f0 f1 f2 f3 V4) H → va_D A (wX1 cI cZ cJ cA h0 a r4 x5 x6 x7 x8 x9 x10 x11 x12 x13 x14 x15 f0 f1 f2 f3 V4) → va_S A s.heap H locs → lv_has ls 4 [] → W p l e R s m args below meth c H locs 0 0 Q (F0 m 32 ls [])) →
    W p l e R s m args below meth c H locs 0 0 Q (F0 m 2 ls []) := by
  obtain ⟨⟨hx, hb, hml, hown, hts⟩, hRf, hRl, hA, hN, hK⟩ := C0
  intro n
  induction n with
  | zero =>
    intro v1 v2 v3 x5 x6 x7 x8 x9 x10 x11 x12 x13 x14 x15 f0 f1 f2 f3 V4 o H locs ls hf
    cases hf
  | succ n ih =>
    intro v1 v2 v3 x5 x6 x7 x8 x9 x10 x11 x12 x13 x14 x15 f0 f1 f2 f3 V4 o H locs ls hf hP hD hS hl hret hexit
    rw [q_X1_isIn_L2] at hf
    refine lv_iload_n hx hb dX1_isIn_2 rfl (lv_at hl 3 rfl) ?_
    refine lv_aload_n hx hb dX1_isIn_3 rfl (lv_at hl 0 rfl) ?_
    refine va_get (D := (dC, dI)) (ci := 1) (v := .int x9) (C := RX1) (T := TX1) (N := 16) hx hb hts (fun w hw => List.mem_cons_of_mem _ (List.mem_append_right _ hw)) hown hK hP 0 rfl rfl 9 (by decide) (hts (.fieldLink RX1 43 "OldStadium$Heats" "size" "I") (List.mem_of_getElem? (i := 1) rfl)) (fun _ h9 => h9) rfl dX1_isIn_4 ?_
    refine lv_icmp_ge (tgt := 32) hx hb dX1_isIn_7 (by decide) (fun c1 => ?_) (fun c1 => ?_)
    · replace hf := z_ip hf c1
      obtain rfl := Option.some.inj hf
      exact hexit _ _ _ _ rfl hP hD hS (lv_sub hl [] rfl)
    · replace hf := z_im hf c1
      refine lv_iload_n hx hb dX1_isIn_10 rfl (lv_at hl 2 rfl) ?_
      refine lv_if_lt (tgt := 26) hx hb dX1_isIn_11 (by decide) (fun c2 => ?_) (fun c2 => ?_)
      · replace hf := z_ip hf c2
        refine lv_iinc (v := (v3 + 1)) (lv' := [(3, .int (v3 + 1)), (0, .ref h0), (1, .int v1), (2, .int v2)]) hx hb dX1_isIn_26 hl (k := 3) rfl rfl (by decide) rfl (fun ls hl => ?_)
        refine lv_goto (tgt := 2) hx hb dX1_isIn_29 (by decide) ?_
        exact ih hf hP hD hS (lv_sub hl [1, 2, 3, 0] rfl) hret hexit
      · replace hf := z_im hf c2
        refine lv_aload_n hx hb dX1_isIn_14 rfl (lv_at hl 0 rfl) ?_
        refine lv_iload_n hx hb dX1_isIn_15 rfl (lv_at hl 1 rfl) ?_
        refine lv_iload_n hx hb dX1_isIn_16 rfl (lv_at hl 3 rfl) ?_
        obtain ⟨o3, ho3, hf1⟩ := z_ib hf
        replace hf := hf1
        clear hf1
        refine z_Vi (As := [.int v1, .int v3]) (rest := []) (w := (wX1 cI cZ cJ cA h0 a r4 x5 x6 x7 x8 x9 x10 x11 x12 x13 x14 x15 f0 f1 f2 f3 V4)) (w1 := (wX1 cI cZ cJ cA h0 a r4 x5 x6 x7 x8 x9 x10 x11 x12 x13 x14 x15 f0 f1 f2 f3 V4)) ⟨hx, hb, hml, hown, hts⟩ (k_X1_runnerAt l dC dI cI cZ cJ cA h0 a r4 H.size N v1 v3 x5 x6 x7 x8 x9 x10 x11 x12 x13 x14 x15 f0 f1 f2 f3 V4 o3 ho3) (cwV 2 hts gX1_isIn_X1_runnerAt rfl rfl rfl (by decide +kernel) ⟨Nat.le_trans (Nat.le_of_ble_eq_true rfl) hRf, Nat.le_trans (Nat.le_of_ble_eq_true rfl) hRl⟩) hK hP hD hS hA hN (ci := 1) rfl rfl rfl rfl hl.1 rfl (Nat.le_of_ble_eq_true rfl) dX1_isIn_17 (fun H locs hP hD hS => ?_)
        refine lv_iload_n hx hb dX1_isIn_20 rfl (lv_at hl 2 rfl) ?_
        refine lv_icmp_ne (tgt := 26) hx hb dX1_isIn_21 (by decide) (fun c4 => ?_) (fun c4 => ?_)
        · replace hf := z_im hf c4
          refine lv_iinc (v := (v3 + 1)) (lv' := [(3, .int (v3 + 1)), (0, .ref h0), (1, .int v1), (2, .int v2)]) hx hb dX1_isIn_26 hl (k := 3) rfl rfl (by decide) rfl (fun ls hl => ?_)
          refine lv_goto (tgt := 2) hx hb dX1_isIn_29 (by decide) ?_
          exact ih hf hP hD hS (lv_sub hl [1, 2, 3, 0] rfl) hret hexit
        · replace hf := z_ip hf c4
          refine lv_iconst (v := 1) hx hb dX1_isIn_24 (by decide) ?_
          obtain rfl := Option.some.inj hf
          exact hret _ rfl _ _ _ _ _ dX1_isIn_25 rfl rfl hP hD hS
def q_X1_isIn (N : Nat) (v1 : Int32) (v2 : Int32) (x9 : Int32) (x10 : Int32) (x11 : Int32) (f2 : (Nat → Int32)) : Option Int32 :=
  (Option.bind (q_X1_isIn_L2 N v1 v2 x9 x10 x11 f2 N 0) (Sum.elim (fun r3 => (some r3)) (fun s2 =>
  (some 0))))
set_option maxHeartbeats 4000000 in
set_option maxRecDepth 100000 in
theorem b_X1_isIn {p : Program} {l : Launch} {e : Env} {R : Room} {s : State} {m : MethodId} {args : Array Value} {below : List Frame} {meth : Method} {c : Code} {Q : State → Prop} {A : Nat → Prop} {dC : Nat → ClassId} {dI : Nat → Nat → Nat} {cI cZ cJ cA : ClassId} {h0 : Nat} {a : Nat → Nat} {r4 : Nat → Nat} (N : Nat) (C0 : z_Cx p s m args c cX1_isIn 4 wsX1_isIn RX1 R 3 64 A dC dI (z_ty cI cZ cJ cA)) {v1 : Int32} {v2 : Int32} {x5 : Int32} {x6 : Int32} {x7 : Int32} {x8 : Int32} {x9 : Int32} {x10 : Int32} {x11 : Int32} {x12 : Int32} {x13 : Int32} {x14 : Int32} {x15 : Int32} {f0 : (Nat → Int32)} {f1 : (Nat → Int32)} {f2 : (Nat → Int32)} {f3 : (Nat → Int32)} {V4 : (Nat → Nat → Int32)} {o : Int32} {H : Heap} {locs : List Loc} {ls : Array Slot} (hf : q_X1_isIn N v1 v2 x9 x10 x11 f2 = some o) (hP : va_P (dC, dI) vwCl (wX1 cI cZ cJ cA h0 a r4 x5 x6 x7 x8 x9 x10 x11 x12 x13 x14 x15 f0 f1 f2 f3 V4) H) (hD : va_D A (wX1 cI cZ cJ cA h0 a r4 x5 x6 x7 x8 x9 x10 x11 x12 x13 x14 x15 f0 f1 f2 f3 V4)) (hS : va_S A s.heap H locs) (hl : lv_has ls 4 [(0, .ref h0), (1, .int v1), (2, .int v2)])
    (hret : ∀ (pc : Nat) (H : Heap) (locs : List Loc) (ls : Array Slot) (r : Int32), decode cX1_isIn pc = .ok (.ireturn, 1) → r = o → narrow .boolean (.int r) = .int r → va_P (dC, dI) vwCl (wX1 cI cZ cJ cA h0 a r4 x5 x6 x7 x8 x9 x10 x11 x12 x13 x14 x15 f0 f1 f2 f3 V4) H → va_D A (wX1 cI cZ cJ cA h0 a r4 x5 x6 x7 x8 x9 x10 x11 x12 x13 x14 x15 f0 f1 f2 f3 V4) → va_S A s.heap H locs → W p l e R s m args below meth c H locs 0 0 Q (F0 m pc ls [.int r])) :
    W p l e R s m args below meth c H locs 0 0 Q (F0 m 0 ls []) := by
  obtain ⟨⟨hx, hb, hml, hown, hts⟩, hRf, hRl, hA, hN, hK⟩ := C0
  unfold q_X1_isIn at hf
  refine lv_iconst (v := 0) hx hb dX1_isIn_0 (by decide) ?_
  refine lv_istore_n (lv' := [(3, .int 0), (0, .ref h0), (1, .int v1), (2, .int v2)]) hx hb dX1_isIn_1 rfl hl (by decide) rfl (fun ls hl => ?_)
  obtain ⟨t1, ht1, hf1⟩ := z_ib hf
  replace hf := hf1
  clear hf1
  refine b_X1_isIn_L2 N ⟨⟨hx, hb, hml, hown, hts⟩, hRf, hRl, hA, hN, hK⟩ N ht1 hP hD hS (lv_sub hl [1, 2, 3, 0] rfl) (fun r3 e1 pc H locs ls r0 hd hr hn hP hD hS => ?_) (fun s2 H locs ls e1 hP hD hS hl => ?_)
  · subst e1
    have hf := z_sl hf
    obtain rfl := Option.some.inj hf
    exact hret pc H locs ls r0 hd hr hn hP hD hS
  subst e1
  replace hf := z_sr hf
  refine lv_iconst (v := 0) hx hb dX1_isIn_32 (by decide) ?_
  obtain rfl := Option.some.inj hf
  exact hret _ _ _ _ _ dX1_isIn_33 rfl rfl hP hD hS
set_option maxHeartbeats 4000000 in
set_option maxRecDepth 100000 in
theorem k_X1_isIn (l : Launch) (dC : Nat → ClassId) (dI : Nat → Nat → Nat) (cI cZ cJ cA : ClassId) (h0 : Nat) (a : Nat → Nat) (r4 : Nat → Nat) (sz : Nat) (N : Nat) (v1 : Int32) (v2 : Int32) (x5 : Int32) (x6 : Int32) (x7 : Int32) (x8 : Int32) (x9 : Int32) (x10 : Int32) (x11 : Int32) (x12 : Int32) (x13 : Int32) (x14 : Int32) (x15 : Int32) (f0 : (Nat → Int32)) (f1 : (Nat → Int32)) (f2 : (Nat → Int32)) (f3 : (Nat → Int32)) (V4 : (Nat → Nat → Int32)) (o : Int32) (hf : q_X1_isIn N v1 v2 x9 x10 x11 f2 = some o) : Met l yX1_isIn wsX1_isIn ({ frames := 3, cells := 0, slots := 0, locals := 64 } : Room) (z_Pre dC dI (z_ty cI cZ cJ cA) [.ref h0, .int v1, .int v2] sz (wX1 cI cZ cJ cA h0 a r4 x5 x6 x7 x8 x9 x10 x11 x12 x13 x14 x15 f0 f1 f2 f3 V4)) (z_Pi dC dI o (wX1 cI cZ cJ cA h0 a r4 x5 x6 x7 x8 x9 x10 x11 x12 x13 x14 x15 f0 f1 f2 f3 V4) sz (wX1 cI cZ cJ cA h0 a r4 x5 x6 x7 x8 x9 x10 x11 x12 x13 x14 x15 f0 f1 f2 f3 V4)) 0 0 (va_A (wX1 cI cZ cJ cA h0 a r4 x5 x6 x7 x8 x9 x10 x11 x12 x13 x14 x15 f0 f1 f2 f3 V4) sz) := by
  refine Met.ofW (cc := cX1_isIn) (maxL := 4) (ret := (some .boolean)) (by decide) rfl ?_
  intro p e s m args below meth c s₁ B hml hv
  obtain ⟨rfl, hsz, hP, hK, hD0, hN⟩ := hv
  subst hsz
  have hl := lv_entry ([.ref h0, .int v1, .int v2]) (n := 4) (Nat.le_of_ble_eq_true rfl)
  rw [lg_entry_eq]
  refine b_X1_isIn N ⟨⟨B.exec, B.bytes, hml, findClass_of_methodNamed B.named, atoms_spec (ws := wsX1_isIn) B.pre⟩, Nat.le_refl _, Nat.le_refl _, fun q h => Or.inr h, hN, hK⟩ hf hP hD0.self va_S.rf hl (fun pc H locs ls r hd hr hn hP hD hS => ?_)
  subst hr
  exact W.zret B.exec B.bytes B.returns hn (fun t ht hW => ⟨⟨_, (), rfl, rfl, by rw [ht]; exact hP, hD⟩, hS.F ht⟩) hS.2.2 hd
def q_X1_heatOf_L2 (N : Nat) (v1 : Int32) (x7 : Int32) (x9 : Int32) (x10 : Int32) (x11 : Int32) (f2 : (Nat → Int32)) : Nat → Int32 → Option (Sum Int32 Unit)
  | 0, _ => none
  | n + 1, v2 =>
    (if x7 = 0 then
     (some (Sum.inr ()))
    else
     (if x11 ≤ v2 then
      (some (Sum.inr ()))
     else
      (Option.bind (q_X1_isIn N v2 v1 x9 x10 x11 f2) (fun o3 =>
      (if o3 = 0 then
       (q_X1_heatOf_L2 N v1 x7 x9 x10 x11 f2 n (v2 + 1))
      else
       (some (Sum.inl v2)))))))
set_option maxHeartbeats 4000000 in
set_option maxRecDepth 100000 in
theorem b_X1_heatOf_L2 {p : Program} {l : Launch} {e : Env} {R : Room} {s : State} {m : MethodId} {args : Array Value} {below : List Frame} {meth : Method} {c : Code} {Q : State → Prop} {A : Nat → Prop} {dC : Nat → ClassId} {dI : Nat → Nat → Nat} {cI cZ cJ cA : ClassId} {h0 : Nat} {a : Nat → Nat} {r4 : Nat → Nat} (N : Nat) (C0 : z_Cx p s m args c cX1_heatOf 3 wsX1_heatOf RX1 R 4 87 A dC dI (z_ty cI cZ cJ cA)) : ∀ (n : Nat) {v1 : Int32} {v2 : Int32} {x5 : Int32} {x6 : Int32} {x7 : Int32} {x8 : Int32} {x9 : Int32} {x10 : Int32} {x11 : Int32} {x12 : Int32} {x13 : Int32} {x14 : Int32} {x15 : Int32} {f0 : (Nat → Int32)} {f1 : (Nat → Int32)} {f2 : (Nat → Int32)} {f3 : (Nat → Int32)} {V4 : (Nat → Nat → Int32)} {o : (Sum Int32 Unit)} {H : Heap} {locs : List Loc} {ls : Array Slot}, q_X1_heatOf_L2 N v1 x7 x9 x10 x11 f2 n v2 = some o → va_P (dC, dI) vwCl (wX1 cI cZ cJ cA h0 a r4 x5 x6 x7 x8 x9 x10 x11 x12 x13 x14 x15 f0 f1 f2 f3 V4) H → va_D A (wX1 cI cZ cJ cA h0 a r4 x5 x6 x7 x8 x9 x10 x11 x12 x13 x14 x15 f0 f1 f2 f3 V4) → va_S A s.heap H locs → lv_has ls 3 [(0, .ref h0), (1, .int v1), (2, .int v2)] →
    (∀ (t : Int32), o = Sum.inl t → ∀ (pc : Nat) (H : Heap) (locs : List Loc) (ls : Array Slot) (r : Int32), decode cX1_heatOf pc = .ok (.ireturn, 1) → r = t → va_P (dC, dI) vwCl (wX1 cI cZ cJ cA h0 a r4 x5 x6 x7 x8 x9 x10 x11 x12 x13 x14 x15 f0 f1 f2 f3 V4) H → va_D A (wX1 cI cZ cJ cA h0 a r4 x5 x6 x7 x8 x9 x10 x11 x12 x13 x14 x15 f0 f1 f2 f3 V4) → va_S A s.heap H locs → W p l e R s m args below meth c H locs 0 0 Q (F0 m pc ls [.int r])) →
    (∀ (t : Unit) (H : Heap) (locs : List Loc) (ls : Array Slot), o = Sum.inr t → va_P (dC, dI) vwCl (wX1 cI cZ cJ cA h0 a r4 x5 x6 x7 x8 x9 x10 x11 x12 x13 x14 x15 f0 f1 f2 f3 V4) H → va_D A (wX1 cI cZ cJ cA h0 a r4 x5 x6 x7 x8 x9 x10 x11 x12 x13 x14 x15 f0 f1 f2 f3 V4) → va_S A s.heap H locs → lv_has ls 3 [] → W p l e R s m args below meth c H locs 0 0 Q (F0 m 34 ls [])) →
    W p l e R s m args below meth c H locs 0 0 Q (F0 m 2 ls []) := by
  obtain ⟨⟨hx, hb, hml, hown, hts⟩, hRf, hRl, hA, hN, hK⟩ := C0
  intro n
  induction n with
  | zero =>
    intro v1 v2 x5 x6 x7 x8 x9 x10 x11 x12 x13 x14 x15 f0 f1 f2 f3 V4 o H locs ls hf
    cases hf
  | succ n ih =>
    intro v1 v2 x5 x6 x7 x8 x9 x10 x11 x12 x13 x14 x15 f0 f1 f2 f3 V4 o H locs ls hf hP hD hS hl hret hexit
    rw [q_X1_heatOf_L2] at hf
    refine lv_aload_n hx hb dX1_heatOf_2 rfl (lv_at hl 0 rfl) ?_
    refine va_get (D := (dC, dI)) (ci := 1) (v := .int x7) (C := RX1) (T := TX1) (N := 16) hx hb hts (fun w hw => List.mem_cons_of_mem _ (List.mem_append_right _ hw)) hown hK hP 0 rfl rfl 7 (by decide) (hts (.fieldLink RX1 36 "OldStadium$Heats" "going" "Z") (List.mem_of_getElem? (i := 1) rfl)) (fun _ h9 => h9) rfl dX1_heatOf_3 ?_
    refine lv_if_eq (tgt := 34) hx hb dX1_heatOf_6 (by decide) (fun c1 => ?_) (fun c1 => ?_)
    · replace hf := z_ip hf c1
      obtain rfl := Option.some.inj hf
      exact hexit _ _ _ _ rfl hP hD hS (lv_sub hl [] rfl)
    · replace hf := z_im hf c1
      refine lv_iload_n hx hb dX1_heatOf_9 rfl (lv_at hl 2 rfl) ?_
      refine lv_aload_n hx hb dX1_heatOf_10 rfl (lv_at hl 0 rfl) ?_
      refine va_get (D := (dC, dI)) (ci := 1) (v := .int x11) (C := RX1) (T := TX1) (N := 16) hx hb hts (fun w hw => List.mem_cons_of_mem _ (List.mem_append_right _ hw)) hown hK hP 0 rfl rfl 11 (by decide) (hts (.fieldLink RX1 49 "OldStadium$Heats" "heats" "I") (List.mem_of_getElem? (i := 2) rfl)) (fun _ h9 => h9) rfl dX1_heatOf_11 ?_
      refine lv_icmp_ge (tgt := 34) hx hb dX1_heatOf_14 (by decide) (fun c2 => ?_) (fun c2 => ?_)
      · replace hf := z_ip hf c2
        obtain rfl := Option.some.inj hf
        exact hexit _ _ _ _ rfl hP hD hS (lv_sub hl [] rfl)
      · replace hf := z_im hf c2
        refine lv_aload_n hx hb dX1_heatOf_17 rfl (lv_at hl 0 rfl) ?_
        refine lv_iload_n hx hb dX1_heatOf_18 rfl (lv_at hl 2 rfl) ?_
        refine lv_iload_n hx hb dX1_heatOf_19 rfl (lv_at hl 1 rfl) ?_
        obtain ⟨o3, ho3, hf1⟩ := z_ib hf
        replace hf := hf1
        clear hf1
        refine z_Vi (As := [.int v2, .int v1]) (rest := []) (w := (wX1 cI cZ cJ cA h0 a r4 x5 x6 x7 x8 x9 x10 x11 x12 x13 x14 x15 f0 f1 f2 f3 V4)) (w1 := (wX1 cI cZ cJ cA h0 a r4 x5 x6 x7 x8 x9 x10 x11 x12 x13 x14 x15 f0 f1 f2 f3 V4)) ⟨hx, hb, hml, hown, hts⟩ (k_X1_isIn l dC dI cI cZ cJ cA h0 a r4 H.size N v2 v1 x5 x6 x7 x8 x9 x10 x11 x12 x13 x14 x15 f0 f1 f2 f3 V4 o3 ho3) (cwV 2 hts gX1_heatOf_X1_isIn rfl rfl rfl (by decide +kernel) ⟨Nat.le_trans (Nat.le_of_ble_eq_true rfl) hRf, Nat.le_trans (Nat.le_of_ble_eq_true rfl) hRl⟩) hK hP hD hS hA hN (ci := 1) rfl rfl rfl rfl hl.1 rfl (Nat.le_of_ble_eq_true rfl) dX1_heatOf_20 (fun H locs hP hD hS => ?_)
        refine lv_if_eq (tgt := 28) hx hb dX1_heatOf_23 (by decide) (fun c4 => ?_) (fun c4 => ?_)
        · replace hf := z_ip hf c4
          refine lv_iinc (v := (v2 + 1)) (lv' := [(2, .int (v2 + 1)), (0, .ref h0), (1, .int v1)]) hx hb dX1_heatOf_28 hl (k := 2) rfl rfl (by decide) rfl (fun ls hl => ?_)
          refine lv_goto (tgt := 2) hx hb dX1_heatOf_31 (by decide) ?_
          exact ih hf hP hD hS (lv_sub hl [1, 2, 0] rfl) hret hexit
        · replace hf := z_im hf c4
          refine lv_iload_n hx hb dX1_heatOf_26 rfl (lv_at hl 2 rfl) ?_
          obtain rfl := Option.some.inj hf
          exact hret _ rfl _ _ _ _ _ dX1_heatOf_27 rfl hP hD hS
def q_X1_heatOf (N : Nat) (v1 : Int32) (x7 : Int32) (x9 : Int32) (x10 : Int32) (x11 : Int32) (f2 : (Nat → Int32)) : Option Int32 :=
  (Option.bind (q_X1_heatOf_L2 N v1 x7 x9 x10 x11 f2 N 0) (Sum.elim (fun r3 => (some r3)) (fun s2 =>
  (some (-1)))))
set_option maxHeartbeats 4000000 in
set_option maxRecDepth 100000 in
theorem b_X1_heatOf {p : Program} {l : Launch} {e : Env} {R : Room} {s : State} {m : MethodId} {args : Array Value} {below : List Frame} {meth : Method} {c : Code} {Q : State → Prop} {A : Nat → Prop} {dC : Nat → ClassId} {dI : Nat → Nat → Nat} {cI cZ cJ cA : ClassId} {h0 : Nat} {a : Nat → Nat} {r4 : Nat → Nat} (N : Nat) (C0 : z_Cx p s m args c cX1_heatOf 3 wsX1_heatOf RX1 R 4 87 A dC dI (z_ty cI cZ cJ cA)) {v1 : Int32} {x5 : Int32} {x6 : Int32} {x7 : Int32} {x8 : Int32} {x9 : Int32} {x10 : Int32} {x11 : Int32} {x12 : Int32} {x13 : Int32} {x14 : Int32} {x15 : Int32} {f0 : (Nat → Int32)} {f1 : (Nat → Int32)} {f2 : (Nat → Int32)} {f3 : (Nat → Int32)} {V4 : (Nat → Nat → Int32)} {o : Int32} {H : Heap} {locs : List Loc} {ls : Array Slot} (hf : q_X1_heatOf N v1 x7 x9 x10 x11 f2 = some o) (hP : va_P (dC, dI) vwCl (wX1 cI cZ cJ cA h0 a r4 x5 x6 x7 x8 x9 x10 x11 x12 x13 x14 x15 f0 f1 f2 f3 V4) H) (hD : va_D A (wX1 cI cZ cJ cA h0 a r4 x5 x6 x7 x8 x9 x10 x11 x12 x13 x14 x15 f0 f1 f2 f3 V4)) (hS : va_S A s.heap H locs) (hl : lv_has ls 3 [(0, .ref h0), (1, .int v1)])
    (hret : ∀ (pc : Nat) (H : Heap) (locs : List Loc) (ls : Array Slot) (r : Int32), decode cX1_heatOf pc = .ok (.ireturn, 1) → r = o → va_P (dC, dI) vwCl (wX1 cI cZ cJ cA h0 a r4 x5 x6 x7 x8 x9 x10 x11 x12 x13 x14 x15 f0 f1 f2 f3 V4) H → va_D A (wX1 cI cZ cJ cA h0 a r4 x5 x6 x7 x8 x9 x10 x11 x12 x13 x14 x15 f0 f1 f2 f3 V4) → va_S A s.heap H locs → W p l e R s m args below meth c H locs 0 0 Q (F0 m pc ls [.int r])) :
    W p l e R s m args below meth c H locs 0 0 Q (F0 m 0 ls []) := by
  obtain ⟨⟨hx, hb, hml, hown, hts⟩, hRf, hRl, hA, hN, hK⟩ := C0
  unfold q_X1_heatOf at hf
  refine lv_iconst (v := 0) hx hb dX1_heatOf_0 (by decide) ?_
  refine lv_istore_n (lv' := [(2, .int 0), (0, .ref h0), (1, .int v1)]) hx hb dX1_heatOf_1 rfl hl (by decide) rfl (fun ls hl => ?_)
  obtain ⟨t1, ht1, hf1⟩ := z_ib hf
  replace hf := hf1
  clear hf1
  refine b_X1_heatOf_L2 N ⟨⟨hx, hb, hml, hown, hts⟩, hRf, hRl, hA, hN, hK⟩ N ht1 hP hD hS (lv_sub hl [1, 2, 0] rfl) (fun r3 e1 pc H locs ls r0 hd hr hP hD hS => ?_) (fun s2 H locs ls e1 hP hD hS hl => ?_)
  · subst e1
    have hf := z_sl hf
    obtain rfl := Option.some.inj hf
    exact hret pc H locs ls r0 hd hr hP hD hS
  subst e1
  replace hf := z_sr hf
  refine lv_iconst (v := (-1)) hx hb dX1_heatOf_34 (by decide) ?_
  obtain rfl := Option.some.inj hf
  exact hret _ _ _ _ _ dX1_heatOf_35 rfl hP hD hS
set_option maxHeartbeats 4000000 in
set_option maxRecDepth 100000 in
theorem k_X1_heatOf (l : Launch) (dC : Nat → ClassId) (dI : Nat → Nat → Nat) (cI cZ cJ cA : ClassId) (h0 : Nat) (a : Nat → Nat) (r4 : Nat → Nat) (sz : Nat) (N : Nat) (v1 : Int32) (x5 : Int32) (x6 : Int32) (x7 : Int32) (x8 : Int32) (x9 : Int32) (x10 : Int32) (x11 : Int32) (x12 : Int32) (x13 : Int32) (x14 : Int32) (x15 : Int32) (f0 : (Nat → Int32)) (f1 : (Nat → Int32)) (f2 : (Nat → Int32)) (f3 : (Nat → Int32)) (V4 : (Nat → Nat → Int32)) (o : Int32) (hf : q_X1_heatOf N v1 x7 x9 x10 x11 f2 = some o) : Met l yX1_heatOf wsX1_heatOf ({ frames := 4, cells := 0, slots := 0, locals := 87 } : Room) (z_Pre dC dI (z_ty cI cZ cJ cA) [.ref h0, .int v1] sz (wX1 cI cZ cJ cA h0 a r4 x5 x6 x7 x8 x9 x10 x11 x12 x13 x14 x15 f0 f1 f2 f3 V4)) (z_Pi dC dI o (wX1 cI cZ cJ cA h0 a r4 x5 x6 x7 x8 x9 x10 x11 x12 x13 x14 x15 f0 f1 f2 f3 V4) sz (wX1 cI cZ cJ cA h0 a r4 x5 x6 x7 x8 x9 x10 x11 x12 x13 x14 x15 f0 f1 f2 f3 V4)) 0 0 (va_A (wX1 cI cZ cJ cA h0 a r4 x5 x6 x7 x8 x9 x10 x11 x12 x13 x14 x15 f0 f1 f2 f3 V4) sz) := by
  refine Met.ofW (cc := cX1_heatOf) (maxL := 3) (ret := (some .int)) (by decide) rfl ?_
  intro p e s m args below meth c s₁ B hml hv
  obtain ⟨rfl, hsz, hP, hK, hD0, hN⟩ := hv
  subst hsz
  have hl := lv_entry ([.ref h0, .int v1]) (n := 3) (Nat.le_of_ble_eq_true rfl)
  rw [lg_entry_eq]
  refine b_X1_heatOf N ⟨⟨B.exec, B.bytes, hml, findClass_of_methodNamed B.named, atoms_spec (ws := wsX1_heatOf) B.pre⟩, Nat.le_refl _, Nat.le_refl _, fun q h => Or.inr h, hN, hK⟩ hf hP hD0.self va_S.rf hl (fun pc H locs ls r hd hr hP hD hS => ?_)
  subst hr
  exact W.iret B.exec B.bytes B.returns (fun t ht hW => ⟨⟨_, (), rfl, rfl, by rw [ht]; exact hP, hD⟩, hS.F ht⟩) hS.2.2 hd
def q_X1_openHeats_L4 (N : Nat) (x11 : Int32) (f3 : (Nat → Int32)) : Nat → Int32 → Int32 → Option Int32
  | 0, _, _ => none
  | n + 1, v1, v2 =>
    (if x11 ≤ v2 then
     (some v1)
    else
     (if z_in v2 12 then
     (if (f3 (Int32.toNatClampNeg v2)) = (-1) then
      (q_X1_openHeats_L4 N x11 f3 n (v1 + 1) (v2 + 1))
     else
      (q_X1_openHeats_L4 N x11 f3 n v1 (v2 + 1)))
     else none))
set_option maxHeartbeats 4000000 in
set_option maxRecDepth 100000 in
theorem b_X1_openHeats_L4 {p : Program} {l : Launch} {e : Env} {R : Room} {s : State} {m : MethodId} {args : Array Value} {below : List Frame} {meth : Method} {c : Code} {Q : State → Prop} {A : Nat → Prop} {dC : Nat → ClassId} {dI : Nat → Nat → Nat} {cI cZ cJ cA : ClassId} {h0 : Nat} {a : Nat → Nat} {r4 : Nat → Nat} (N : Nat) (C0 : z_Cx p s m args c cX1_openHeats 3 wsX1_openHeats RX1 R 0 0 A dC dI (z_ty cI cZ cJ cA)) : ∀ (n : Nat) {v1 : Int32} {v2 : Int32} {x5 : Int32} {x6 : Int32} {x7 : Int32} {x8 : Int32} {x9 : Int32} {x10 : Int32} {x11 : Int32} {x12 : Int32} {x13 : Int32} {x14 : Int32} {x15 : Int32} {f0 : (Nat → Int32)} {f1 : (Nat → Int32)} {f2 : (Nat → Int32)} {f3 : (Nat → Int32)} {V4 : (Nat → Nat → Int32)} {o : Int32} {H : Heap} {locs : List Loc} {ls : Array Slot}, q_X1_openHeats_L4 N x11 f3 n v1 v2 = some o → va_P (dC, dI) vwCl (wX1 cI cZ cJ cA h0 a r4 x5 x6 x7 x8 x9 x10 x11 x12 x13 x14 x15 f0 f1 f2 f3 V4) H → va_D A (wX1 cI cZ cJ cA h0 a r4 x5 x6 x7 x8 x9 x10 x11 x12 x13 x14 x15 f0 f1 f2 f3 V4) → va_S A s.heap H locs → lv_has ls 3 [(0, .ref h0), (1, .int v1), (2, .int v2)] →
    (∀ (H : Heap) (locs : List Loc) (ls : Array Slot), va_P (dC, dI) vwCl (wX1 cI cZ cJ cA h0 a r4 x5 x6 x7 x8 x9 x10 x11 x12 x13 x14 x15 f0 f1 f2 f3 V4) H → va_D A (wX1 cI cZ cJ cA h0 a r4 x5 x6 x7 x8 x9 x10 x11 x12 x13 x14 x15 f0 f1 f2 f3 V4) → va_S A s.heap H locs → lv_has ls 3 [(1, .int o)] → W p l e R s m args below meth c H locs 0 0 Q (F0 m 31 ls [])) →
    W p l e R s m args below meth c H locs 0 0 Q (F0 m 4 ls []) := by
  obtain ⟨⟨hx, hb, hml, hown, hts⟩, hRf, hRl, hA, hN, hK⟩ := C0
  intro n
  induction n with
  | zero =>
    intro v1 v2 x5 x6 x7 x8 x9 x10 x11 x12 x13 x14 x15 f0 f1 f2 f3 V4 o H locs ls hf
    cases hf
  | succ n ih =>
    intro v1 v2 x5 x6 x7 x8 x9 x10 x11 x12 x13 x14 x15 f0 f1 f2 f3 V4 o H locs ls hf hP hD hS hl hexit
    rw [q_X1_openHeats_L4] at hf
    refine lv_iload_n hx hb dX1_openHeats_4 rfl (lv_at hl 2 rfl) ?_
    refine lv_aload_n hx hb dX1_openHeats_5 rfl (lv_at hl 0 rfl) ?_
    refine va_get (D := (dC, dI)) (ci := 1) (v := .int x11) (C := RX1) (T := TX1) (N := 16) hx hb hts (fun w hw => List.mem_cons_of_mem _ (List.mem_append_right _ hw)) hown hK hP 0 rfl rfl 11 (by decide) (hts (.fieldLink RX1 49 "OldStadium$Heats" "heats" "I") (List.mem_of_getElem? (i := 1) rfl)) (fun _ h9 => h9) rfl dX1_openHeats_6 ?_
    refine lv_icmp_ge (tgt := 31) hx hb dX1_openHeats_9 (by decide) (fun c1 => ?_) (fun c1 => ?_)
    · replace hf := z_ip hf c1
      obtain rfl := Option.some.inj hf
      exact hexit _ _ _ hP hD hS (lv_sub hl [1] rfl)
    · replace hf := z_im hf c1
      refine lv_aload_n hx hb dX1_openHeats_12 rfl (lv_at hl 0 rfl) ?_
      refine va_get (D := (dC, dI)) (ci := 1) (v := .ref (a 3)) (C := RX1) (T := TX1) (N := 16) hx hb hts (fun w hw => List.mem_cons_of_mem _ (List.mem_append_right _ hw)) hown hK hP 0 rfl rfl 3 (by decide) (hts (.fieldLink RX1 21 "OldStadium$Heats" "winners" "[I") (List.mem_of_getElem? (i := 2) rfl)) (fun _ h9 => h9) rfl dX1_openHeats_13 ?_
      refine lv_iload_n hx hb dX1_openHeats_16 rfl (lv_at hl 2 rfl) ?_
      have b2 := z_c1 hf
      replace hf := z_c2 hf
      refine va_iald hx hb hK hP 4 0 rfl rfl b2 dX1_openHeats_17 ?_
      refine lv_iconst (v := (-1)) hx hb dX1_openHeats_18 (by decide) ?_
      refine lv_icmp_ne (tgt := 25) hx hb dX1_openHeats_19 (by decide) (fun c3 => ?_) (fun c3 => ?_)
      · replace hf := z_im hf c3
        refine lv_iinc (v := (v2 + 1)) (lv' := [(2, .int (v2 + 1)), (0, .ref h0), (1, .int v1)]) hx hb dX1_openHeats_25 hl (k := 2) rfl rfl (by decide) rfl (fun ls hl => ?_)
        refine lv_goto (tgt := 4) hx hb dX1_openHeats_28 (by decide) ?_
        exact ih hf hP hD hS (lv_sub hl [1, 2, 0] rfl) hexit
      · replace hf := z_ip hf c3
        refine lv_iinc (v := (v1 + 1)) (lv' := [(1, .int (v1 + 1)), (0, .ref h0), (2, .int v2)]) hx hb dX1_openHeats_22 hl (k := 1) rfl rfl (by decide) rfl (fun ls hl => ?_)
        refine lv_iinc (v := (v2 + 1)) (lv' := [(2, .int (v2 + 1)), (1, .int (v1 + 1)), (0, .ref h0)]) hx hb dX1_openHeats_25 hl (k := 2) rfl rfl (by decide) rfl (fun ls hl => ?_)
        refine lv_goto (tgt := 4) hx hb dX1_openHeats_28 (by decide) ?_
        exact ih hf hP hD hS (lv_sub hl [2, 1, 0] rfl) hexit
def q_X1_openHeats (N : Nat) (x11 : Int32) (f3 : (Nat → Int32)) : Option Int32 :=
  (Option.bind (q_X1_openHeats_L4 N x11 f3 N 0 0) (fun t1 =>
  (some t1)))
set_option maxHeartbeats 4000000 in
set_option maxRecDepth 100000 in
theorem b_X1_openHeats {p : Program} {l : Launch} {e : Env} {R : Room} {s : State} {m : MethodId} {args : Array Value} {below : List Frame} {meth : Method} {c : Code} {Q : State → Prop} {A : Nat → Prop} {dC : Nat → ClassId} {dI : Nat → Nat → Nat} {cI cZ cJ cA : ClassId} {h0 : Nat} {a : Nat → Nat} {r4 : Nat → Nat} (N : Nat) (C0 : z_Cx p s m args c cX1_openHeats 3 wsX1_openHeats RX1 R 0 0 A dC dI (z_ty cI cZ cJ cA)) {x5 : Int32} {x6 : Int32} {x7 : Int32} {x8 : Int32} {x9 : Int32} {x10 : Int32} {x11 : Int32} {x12 : Int32} {x13 : Int32} {x14 : Int32} {x15 : Int32} {f0 : (Nat → Int32)} {f1 : (Nat → Int32)} {f2 : (Nat → Int32)} {f3 : (Nat → Int32)} {V4 : (Nat → Nat → Int32)} {o : Int32} {H : Heap} {locs : List Loc} {ls : Array Slot} (hf : q_X1_openHeats N x11 f3 = some o) (hP : va_P (dC, dI) vwCl (wX1 cI cZ cJ cA h0 a r4 x5 x6 x7 x8 x9 x10 x11 x12 x13 x14 x15 f0 f1 f2 f3 V4) H) (hD : va_D A (wX1 cI cZ cJ cA h0 a r4 x5 x6 x7 x8 x9 x10 x11 x12 x13 x14 x15 f0 f1 f2 f3 V4)) (hS : va_S A s.heap H locs) (hl : lv_has ls 3 [(0, .ref h0)])
    (hret : ∀ (pc : Nat) (H : Heap) (locs : List Loc) (ls : Array Slot) (r : Int32), decode cX1_openHeats pc = .ok (.ireturn, 1) → r = o → va_P (dC, dI) vwCl (wX1 cI cZ cJ cA h0 a r4 x5 x6 x7 x8 x9 x10 x11 x12 x13 x14 x15 f0 f1 f2 f3 V4) H → va_D A (wX1 cI cZ cJ cA h0 a r4 x5 x6 x7 x8 x9 x10 x11 x12 x13 x14 x15 f0 f1 f2 f3 V4) → va_S A s.heap H locs → W p l e R s m args below meth c H locs 0 0 Q (F0 m pc ls [.int r])) :
    W p l e R s m args below meth c H locs 0 0 Q (F0 m 0 ls []) := by
  obtain ⟨⟨hx, hb, hml, hown, hts⟩, hRf, hRl, hA, hN, hK⟩ := C0
  unfold q_X1_openHeats at hf
  refine lv_iconst (v := 0) hx hb dX1_openHeats_0 (by decide) ?_
  refine lv_istore_n (lv' := [(1, .int 0), (0, .ref h0)]) hx hb dX1_openHeats_1 rfl hl (by decide) rfl (fun ls hl => ?_)
  refine lv_iconst (v := 0) hx hb dX1_openHeats_2 (by decide) ?_
  refine lv_istore_n (lv' := [(2, .int 0), (1, .int 0), (0, .ref h0)]) hx hb dX1_openHeats_3 rfl hl (by decide) rfl (fun ls hl => ?_)
  obtain ⟨t1, ht1, hf1⟩ := z_ib hf
  replace hf := hf1
  clear hf1
  refine b_X1_openHeats_L4 N ⟨⟨hx, hb, hml, hown, hts⟩, hRf, hRl, hA, hN, hK⟩ N ht1 hP hD hS (lv_sub hl [2, 1, 0] rfl) (fun H locs ls hP hD hS hl => ?_)
  refine lv_iload_n hx hb dX1_openHeats_31 rfl (lv_at hl 0 rfl) ?_
  obtain rfl := Option.some.inj hf
  exact hret _ _ _ _ _ dX1_openHeats_32 rfl hP hD hS
set_option maxHeartbeats 4000000 in
set_option maxRecDepth 100000 in
theorem k_X1_openHeats (l : Launch) (dC : Nat → ClassId) (dI : Nat → Nat → Nat) (cI cZ cJ cA : ClassId) (h0 : Nat) (a : Nat → Nat) (r4 : Nat → Nat) (sz : Nat) (N : Nat) (x5 : Int32) (x6 : Int32) (x7 : Int32) (x8 : Int32) (x9 : Int32) (x10 : Int32) (x11 : Int32) (x12 : Int32) (x13 : Int32) (x14 : Int32) (x15 : Int32) (f0 : (Nat → Int32)) (f1 : (Nat → Int32)) (f2 : (Nat → Int32)) (f3 : (Nat → Int32)) (V4 : (Nat → Nat → Int32)) (o : Int32) (hf : q_X1_openHeats N x11 f3 = some o) : Met l yX1_openHeats wsX1_openHeats ({ frames := 0, cells := 0, slots := 0, locals := 0 } : Room) (z_Pre dC dI (z_ty cI cZ cJ cA) [.ref h0] sz (wX1 cI cZ cJ cA h0 a r4 x5 x6 x7 x8 x9 x10 x11 x12 x13 x14 x15 f0 f1 f2 f3 V4)) (z_Pi dC dI o (wX1 cI cZ cJ cA h0 a r4 x5 x6 x7 x8 x9 x10 x11 x12 x13 x14 x15 f0 f1 f2 f3 V4) sz (wX1 cI cZ cJ cA h0 a r4 x5 x6 x7 x8 x9 x10 x11 x12 x13 x14 x15 f0 f1 f2 f3 V4)) 0 0 (va_A (wX1 cI cZ cJ cA h0 a r4 x5 x6 x7 x8 x9 x10 x11 x12 x13 x14 x15 f0 f1 f2 f3 V4) sz) := by
  refine Met.ofW (cc := cX1_openHeats) (maxL := 3) (ret := (some .int)) (by decide) rfl ?_
  intro p e s m args below meth c s₁ B hml hv
  obtain ⟨rfl, hsz, hP, hK, hD0, hN⟩ := hv
  subst hsz
  have hl := lv_entry ([.ref h0]) (n := 3) (Nat.le_of_ble_eq_true rfl)
  rw [lg_entry_eq]
  refine b_X1_openHeats N ⟨⟨B.exec, B.bytes, hml, findClass_of_methodNamed B.named, atoms_spec (ws := wsX1_openHeats) B.pre⟩, Nat.le_refl _, Nat.le_refl _, fun q h => Or.inr h, hN, hK⟩ hf hP hD0.self va_S.rf hl (fun pc H locs ls r hd hr hP hD hS => ?_)
  subst hr
  exact W.iret B.exec B.bytes B.returns (fun t ht hW => ⟨⟨_, (), rfl, rfl, by rw [ht]; exact hP, hD⟩, hS.F ht⟩) hS.2.2 hd
def q_X1_tell (N : Nat) (v1 : Int32) (x5 : Int32) (x6 : Int32) (x8 : Int32) (x11 : Int32) (x12 : Int32) (x14 : Int32) (x15 : Int32) (f3 : (Nat → Int32)) : Option Int32 :=
  (if v1 = 0 then
   (some x5)
  else
  (if v1 = 1 then
   (some x6)
  else
  (if v1 = 2 then
   (some x8)
  else
  (if v1 = 3 then
   (some x11)
  else
  (if v1 = 4 then
   (some x12)
  else
  (if v1 = 5 then
   (some x14)
  else
  (if v1 = 6 then
   (some x15)
  else
  (if v1 = 7 then
   (Option.bind (q_X1_openHeats N x11 f3) (fun o9 =>
   (some o9)))
  else
  (some (-1))))))))))
set_option maxHeartbeats 4000000 in
set_option maxRecDepth 100000 in
theorem b_X1_tell {p : Program} {l : Launch} {e : Env} {R : Room} {s : State} {m : MethodId} {args : Array Value} {below : List Frame} {meth : Method} {c : Code} {Q : State → Prop} {A : Nat → Prop} {dC : Nat → ClassId} {dI : Nat → Nat → Nat} {cI cZ cJ cA : ClassId} {h0 : Nat} {a : Nat → Nat} {r4 : Nat → Nat} (N : Nat) (C0 : z_Cx p s m args c cX1_tell 2 wsX1_tell RX1 R 1 22 A dC dI (z_ty cI cZ cJ cA)) {v1 : Int32} {x5 : Int32} {x6 : Int32} {x7 : Int32} {x8 : Int32} {x9 : Int32} {x10 : Int32} {x11 : Int32} {x12 : Int32} {x13 : Int32} {x14 : Int32} {x15 : Int32} {f0 : (Nat → Int32)} {f1 : (Nat → Int32)} {f2 : (Nat → Int32)} {f3 : (Nat → Int32)} {V4 : (Nat → Nat → Int32)} {o : Int32} {H : Heap} {locs : List Loc} {ls : Array Slot} (hf : q_X1_tell N v1 x5 x6 x8 x11 x12 x14 x15 f3 = some o) (hP : va_P (dC, dI) vwCl (wX1 cI cZ cJ cA h0 a r4 x5 x6 x7 x8 x9 x10 x11 x12 x13 x14 x15 f0 f1 f2 f3 V4) H) (hD : va_D A (wX1 cI cZ cJ cA h0 a r4 x5 x6 x7 x8 x9 x10 x11 x12 x13 x14 x15 f0 f1 f2 f3 V4)) (hS : va_S A s.heap H locs) (hl : lv_has ls 2 [(0, .ref h0), (1, .int v1)])
    (hret : ∀ (pc : Nat) (H : Heap) (locs : List Loc) (ls : Array Slot) (r : Int32), decode cX1_tell pc = .ok (.ireturn, 1) → r = o → va_P (dC, dI) vwCl (wX1 cI cZ cJ cA h0 a r4 x5 x6 x7 x8 x9 x10 x11 x12 x13 x14 x15 f0 f1 f2 f3 V4) H → va_D A (wX1 cI cZ cJ cA h0 a r4 x5 x6 x7 x8 x9 x10 x11 x12 x13 x14 x15 f0 f1 f2 f3 V4) → va_S A s.heap H locs → W p l e R s m args below meth c H locs 0 0 Q (F0 m pc ls [.int r])) :
    W p l e R s m args below meth c H locs 0 0 Q (F0 m 0 ls []) := by
  obtain ⟨⟨hx, hb, hml, hown, hts⟩, hRf, hRl, hA, hN, hK⟩ := C0
  unfold q_X1_tell at hf
  refine lv_iload_n hx hb dX1_tell_0 rfl (lv_at hl 1 rfl) ?_
  by_cases c1 : v1 = 0
  · replace hf := z_ip hf c1
    refine lv_tableIn (tgt := 48) hx hb dX1_tell_1 (by rw [z_tin (k := 0) c1 (by omega)]; decide) (by rw [z_tin (k := 0) c1 (by omega)]; decide) (by rw [z_tin (k := 0) c1 (by omega)]; rfl) (by decide) ?_
    refine lv_aload_n hx hb dX1_tell_48 rfl (lv_at hl 0 rfl) ?_
    refine va_get (D := (dC, dI)) (ci := 1) (v := .int x5) (C := RX1) (T := TX1) (N := 16) hx hb hts (fun w hw => List.mem_cons_of_mem _ (List.mem_append_right _ hw)) hown hK hP 0 rfl rfl 5 (by decide) (hts (.fieldLink RX1 29 "OldStadium$Heats" "runners" "I") (List.mem_of_getElem? (i := 1) rfl)) (fun _ h9 => h9) rfl dX1_tell_49 ?_
    obtain rfl := Option.some.inj hf
    exact hret _ _ _ _ _ dX1_tell_52 rfl hP hD hS
  replace hf := z_im hf c1
  by_cases c2 : v1 = 1
  · replace hf := z_ip hf c2
    refine lv_tableIn (tgt := 53) hx hb dX1_tell_1 (by rw [z_tin (k := 1) c2 (by omega)]; decide) (by rw [z_tin (k := 1) c2 (by omega)]; decide) (by rw [z_tin (k := 1) c2 (by omega)]; rfl) (by decide) ?_
    refine lv_aload_n hx hb dX1_tell_53 rfl (lv_at hl 0 rfl) ?_
    refine va_get (D := (dC, dI)) (ci := 1) (v := .int x6) (C := RX1) (T := TX1) (N := 16) hx hb hts (fun w hw => List.mem_cons_of_mem _ (List.mem_append_right _ hw)) hown hK hP 0 rfl rfl 6 (by decide) (hts (.fieldLink RX1 33 "OldStadium$Heats" "judges" "I") (List.mem_of_getElem? (i := 2) rfl)) (fun _ h9 => h9) rfl dX1_tell_54 ?_
    obtain rfl := Option.some.inj hf
    exact hret _ _ _ _ _ dX1_tell_57 rfl hP hD hS
  replace hf := z_im hf c2
  by_cases c3 : v1 = 2
  · replace hf := z_ip hf c3
    refine lv_tableIn (tgt := 58) hx hb dX1_tell_1 (by rw [z_tin (k := 2) c3 (by omega)]; decide) (by rw [z_tin (k := 2) c3 (by omega)]; decide) (by rw [z_tin (k := 2) c3 (by omega)]; rfl) (by decide) ?_
    refine lv_aload_n hx hb dX1_tell_58 rfl (lv_at hl 0 rfl) ?_
    refine va_get (D := (dC, dI)) (ci := 1) (v := .int x8) (C := RX1) (T := TX1) (N := 16) hx hb hts (fun w hw => List.mem_cons_of_mem _ (List.mem_append_right _ hw)) hown hK hP 0 rfl rfl 8 (by decide) (hts (.fieldLink RX1 40 "OldStadium$Heats" "round" "I") (List.mem_of_getElem? (i := 3) rfl)) (fun _ h9 => h9) rfl dX1_tell_59 ?_
    obtain rfl := Option.some.inj hf
    exact hret _ _ _ _ _ dX1_tell_62 rfl hP hD hS
  replace hf := z_im hf c3
  by_cases c4 : v1 = 3
  · replace hf := z_ip hf c4
    refine lv_tableIn (tgt := 63) hx hb dX1_tell_1 (by rw [z_tin (k := 3) c4 (by omega)]; decide) (by rw [z_tin (k := 3) c4 (by omega)]; decide) (by rw [z_tin (k := 3) c4 (by omega)]; rfl) (by decide) ?_
    refine lv_aload_n hx hb dX1_tell_63 rfl (lv_at hl 0 rfl) ?_
    refine va_get (D := (dC, dI)) (ci := 1) (v := .int x11) (C := RX1) (T := TX1) (N := 16) hx hb hts (fun w hw => List.mem_cons_of_mem _ (List.mem_append_right _ hw)) hown hK hP 0 rfl rfl 11 (by decide) (hts (.fieldLink RX1 49 "OldStadium$Heats" "heats" "I") (List.mem_of_getElem? (i := 4) rfl)) (fun _ h9 => h9) rfl dX1_tell_64 ?_
    obtain rfl := Option.some.inj hf
    exact hret _ _ _ _ _ dX1_tell_67 rfl hP hD hS
  replace hf := z_im hf c4
  by_cases c5 : v1 = 4
  · replace hf := z_ip hf c5
    refine lv_tableIn (tgt := 68) hx hb dX1_tell_1 (by rw [z_tin (k := 4) c5 (by omega)]; decide) (by rw [z_tin (k := 4) c5 (by omega)]; decide) (by rw [z_tin (k := 4) c5 (by omega)]; rfl) (by decide) ?_
    refine lv_aload_n hx hb dX1_tell_68 rfl (lv_at hl 0 rfl) ?_
    refine va_get (D := (dC, dI)) (ci := 1) (v := .int x12) (C := RX1) (T := TX1) (N := 16) hx hb hts (fun w hw => List.mem_cons_of_mem _ (List.mem_append_right _ hw)) hown hK hP 0 rfl rfl 12 (by decide) (hts (.fieldLink RX1 52 "OldStadium$Heats" "bye" "I") (List.mem_of_getElem? (i := 5) rfl)) (fun _ h9 => h9) rfl dX1_tell_69 ?_
    obtain rfl := Option.some.inj hf
    exact hret _ _ _ _ _ dX1_tell_72 rfl hP hD hS
  replace hf := z_im hf c5
  by_cases c6 : v1 = 5
  · replace hf := z_ip hf c6
    refine lv_tableIn (tgt := 73) hx hb dX1_tell_1 (by rw [z_tin (k := 5) c6 (by omega)]; decide) (by rw [z_tin (k := 5) c6 (by omega)]; decide) (by rw [z_tin (k := 5) c6 (by omega)]; rfl) (by decide) ?_
    refine lv_aload_n hx hb dX1_tell_73 rfl (lv_at hl 0 rfl) ?_
    refine va_get (D := (dC, dI)) (ci := 1) (v := .int x14) (C := RX1) (T := TX1) (N := 16) hx hb hts (fun w hw => List.mem_cons_of_mem _ (List.mem_append_right _ hw)) hown hK hP 0 rfl rfl 14 (by decide) (hts (.fieldLink RX1 58 "OldStadium$Heats" "victo\x72" "I") (List.mem_of_getElem? (i := 6) rfl)) (fun _ h9 => h9) rfl dX1_tell_74 ?_
    obtain rfl := Option.some.inj hf
    exact hret _ _ _ _ _ dX1_tell_77 rfl hP hD hS
  replace hf := z_im hf c6
  by_cases c7 : v1 = 6
  · replace hf := z_ip hf c7
    refine lv_tableIn (tgt := 78) hx hb dX1_tell_1 (by rw [z_tin (k := 6) c7 (by omega)]; decide) (by rw [z_tin (k := 6) c7 (by omega)]; decide) (by rw [z_tin (k := 6) c7 (by omega)]; rfl) (by decide) ?_
    refine lv_aload_n hx hb dX1_tell_78 rfl (lv_at hl 0 rfl) ?_
    refine va_get (D := (dC, dI)) (ci := 1) (v := .int x15) (C := RX1) (T := TX1) (N := 16) hx hb hts (fun w hw => List.mem_cons_of_mem _ (List.mem_append_right _ hw)) hown hK hP 0 rfl rfl 15 (by decide) (hts (.fieldLink RX1 61 "OldStadium$Heats" "lot" "I") (List.mem_of_getElem? (i := 7) rfl)) (fun _ h9 => h9) rfl dX1_tell_79 ?_
    obtain rfl := Option.some.inj hf
    exact hret _ _ _ _ _ dX1_tell_82 rfl hP hD hS
  replace hf := z_im hf c7
  by_cases c8 : v1 = 7
  · replace hf := z_ip hf c8
    refine lv_tableIn (tgt := 83) hx hb dX1_tell_1 (by rw [z_tin (k := 7) c8 (by omega)]; decide) (by rw [z_tin (k := 7) c8 (by omega)]; decide) (by rw [z_tin (k := 7) c8 (by omega)]; rfl) (by decide) ?_
    refine lv_aload_n hx hb dX1_tell_83 rfl (lv_at hl 0 rfl) ?_
    obtain ⟨o9, ho9, hf1⟩ := z_ib hf
    replace hf := hf1
    clear hf1
    refine z_Vi (As := []) (rest := []) (w := (wX1 cI cZ cJ cA h0 a r4 x5 x6 x7 x8 x9 x10 x11 x12 x13 x14 x15 f0 f1 f2 f3 V4)) (w1 := (wX1 cI cZ cJ cA h0 a r4 x5 x6 x7 x8 x9 x10 x11 x12 x13 x14 x15 f0 f1 f2 f3 V4)) ⟨hx, hb, hml, hown, hts⟩ (k_X1_openHeats l dC dI cI cZ cJ cA h0 a r4 H.size N x5 x6 x7 x8 x9 x10 x11 x12 x13 x14 x15 f0 f1 f2 f3 V4 o9 ho9) (cwV 0 hts gX1_tell_X1_openHeats rfl rfl rfl (by decide +kernel) ⟨Nat.le_trans (Nat.le_of_ble_eq_true rfl) hRf, Nat.le_trans (Nat.le_of_ble_eq_true rfl) hRl⟩) hK hP hD hS hA hN (ci := 1) rfl rfl rfl rfl hl.1 rfl (Nat.le_of_ble_eq_true rfl) dX1_tell_84 (fun H locs hP hD hS => ?_)
    obtain rfl := Option.some.inj hf
    exact hret _ _ _ _ _ dX1_tell_87 rfl hP hD hS
  replace hf := z_im hf c8
  refine lv_tableOut (tgt := 88) hx hb dX1_tell_1 (z_tout (n := 7) ⟨⟨⟨⟨⟨⟨⟨⟨trivial, c1⟩, c2⟩, c3⟩, c4⟩, c5⟩, c6⟩, c7⟩, c8⟩ (by omega)) (by decide) ?_
  refine lv_iconst (v := (-1)) hx hb dX1_tell_88 (by decide) ?_
  obtain rfl := Option.some.inj hf
  exact hret _ _ _ _ _ dX1_tell_89 rfl hP hD hS
set_option maxHeartbeats 4000000 in
set_option maxRecDepth 100000 in
theorem k_X1_tell (l : Launch) (dC : Nat → ClassId) (dI : Nat → Nat → Nat) (cI cZ cJ cA : ClassId) (h0 : Nat) (a : Nat → Nat) (r4 : Nat → Nat) (sz : Nat) (N : Nat) (v1 : Int32) (x5 : Int32) (x6 : Int32) (x7 : Int32) (x8 : Int32) (x9 : Int32) (x10 : Int32) (x11 : Int32) (x12 : Int32) (x13 : Int32) (x14 : Int32) (x15 : Int32) (f0 : (Nat → Int32)) (f1 : (Nat → Int32)) (f2 : (Nat → Int32)) (f3 : (Nat → Int32)) (V4 : (Nat → Nat → Int32)) (o : Int32) (hf : q_X1_tell N v1 x5 x6 x8 x11 x12 x14 x15 f3 = some o) : Met l yX1_tell wsX1_tell ({ frames := 1, cells := 0, slots := 0, locals := 22 } : Room) (z_Pre dC dI (z_ty cI cZ cJ cA) [.ref h0, .int v1] sz (wX1 cI cZ cJ cA h0 a r4 x5 x6 x7 x8 x9 x10 x11 x12 x13 x14 x15 f0 f1 f2 f3 V4)) (z_Pi dC dI o (wX1 cI cZ cJ cA h0 a r4 x5 x6 x7 x8 x9 x10 x11 x12 x13 x14 x15 f0 f1 f2 f3 V4) sz (wX1 cI cZ cJ cA h0 a r4 x5 x6 x7 x8 x9 x10 x11 x12 x13 x14 x15 f0 f1 f2 f3 V4)) 0 0 (va_A (wX1 cI cZ cJ cA h0 a r4 x5 x6 x7 x8 x9 x10 x11 x12 x13 x14 x15 f0 f1 f2 f3 V4) sz) := by
  refine Met.ofW (cc := cX1_tell) (maxL := 2) (ret := (some .int)) (by decide) rfl ?_
  intro p e s m args below meth c s₁ B hml hv
  obtain ⟨rfl, hsz, hP, hK, hD0, hN⟩ := hv
  subst hsz
  have hl := lv_entry ([.ref h0, .int v1]) (n := 2) (Nat.le_of_ble_eq_true rfl)
  rw [lg_entry_eq]
  refine b_X1_tell N ⟨⟨B.exec, B.bytes, hml, findClass_of_methodNamed B.named, atoms_spec (ws := wsX1_tell) B.pre⟩, Nat.le_refl _, Nat.le_refl _, fun q h => Or.inr h, hN, hK⟩ hf hP hD0.self va_S.rf hl (fun pc H locs ls r hd hr hP hD hS => ?_)
  subst hr
  exact W.iret B.exec B.bytes B.returns (fun t ht hW => ⟨⟨_, (), rfl, rfl, by rw [ht]; exact hP, hD⟩, hS.F ht⟩) hS.2.2 hd
def q_X1_setWinner (N : Nat) (v1 : Int32) (v2 : Int32) (x7 : Int32) (x9 : Int32) (x10 : Int32) (x11 : Int32) (f2 : (Nat → Int32)) (f3 : (Nat → Int32)) : Option (Int32 × (Nat → Int32)) :=
  (if x7 = 0 then
   (some (0, f3))
  else
   (Option.bind (q_X1_isHeat N v1 x11) (fun o2 =>
   (if o2 = 0 then
    (some (0, f3))
   else
    (Option.bind (q_X1_isIn N v1 v2 x9 x10 x11 f2) (fun o4 =>
    (if o4 = 0 then
     (some (0, f3))
    else
     (if z_in v1 12 then
     (some (1, (upd f3 (Int32.toNatClampNeg v1) v2)))
     else none))))))))
set_option maxHeartbeats 4000000 in
set_option maxRecDepth 100000 in
theorem b_X1_setWinner {p : Program} {l : Launch} {e : Env} {R : Room} {s : State} {m : MethodId} {args : Array Value} {below : List Frame} {meth : Method} {c : Code} {Q : State → Prop} {A : Nat → Prop} {dC : Nat → ClassId} {dI : Nat → Nat → Nat} {cI cZ cJ cA : ClassId} {h0 : Nat} {a : Nat → Nat} {r4 : Nat → Nat} (N : Nat) (C0 : z_Cx p s m args c cX1_setWinner 3 wsX1_setWinner RX1 R 4 87 A dC dI (z_ty cI cZ cJ cA)) {v1 : Int32} {v2 : Int32} {x5 : Int32} {x6 : Int32} {x7 : Int32} {x8 : Int32} {x9 : Int32} {x10 : Int32} {x11 : Int32} {x12 : Int32} {x13 : Int32} {x14 : Int32} {x15 : Int32} {f0 : (Nat → Int32)} {f1 : (Nat → Int32)} {f2 : (Nat → Int32)} {f3 : (Nat → Int32)} {V4 : (Nat → Nat → Int32)} {o : (Int32 × (Nat → Int32))} {H : Heap} {locs : List Loc} {ls : Array Slot} (hf : q_X1_setWinner N v1 v2 x7 x9 x10 x11 f2 f3 = some o) (hP : va_P (dC, dI) vwCl (wX1 cI cZ cJ cA h0 a r4 x5 x6 x7 x8 x9 x10 x11 x12 x13 x14 x15 f0 f1 f2 f3 V4) H) (hD : va_D A (wX1 cI cZ cJ cA h0 a r4 x5 x6 x7 x8 x9 x10 x11 x12 x13 x14 x15 f0 f1 f2 f3 V4)) (hS : va_S A s.heap H locs) (hl : lv_has ls 3 [(0, .ref h0), (1, .int v1), (2, .int v2)])
    (hret : ∀ (pc : Nat) (H : Heap) (locs : List Loc) (ls : Array Slot) (r : Int32), decode cX1_setWinner pc = .ok (.ireturn, 1) → r = o.1 → narrow .boolean (.int r) = .int r → va_P (dC, dI) vwCl (wX1 cI cZ cJ cA h0 a r4 x5 x6 x7 x8 x9 x10 x11 x12 x13 x14 x15 f0 f1 f2 o.2 V4) H → va_D A (wX1 cI cZ cJ cA h0 a r4 x5 x6 x7 x8 x9 x10 x11 x12 x13 x14 x15 f0 f1 f2 o.2 V4) → va_S A s.heap H locs → W p l e R s m args below meth c H locs 0 0 Q (F0 m pc ls [.int r])) :
    W p l e R s m args below meth c H locs 0 0 Q (F0 m 0 ls []) := by
  obtain ⟨⟨hx, hb, hml, hown, hts⟩, hRf, hRl, hA, hN, hK⟩ := C0
  unfold q_X1_setWinner at hf
  refine lv_aload_n hx hb dX1_setWinner_0 rfl (lv_at hl 0 rfl) ?_
  refine va_get (D := (dC, dI)) (ci := 1) (v := .int x7) (C := RX1) (T := TX1) (N := 16) hx hb hts (fun w hw => List.mem_cons_of_mem _ (List.mem_append_right _ hw)) hown hK hP 0 rfl rfl 7 (by decide) (hts (.fieldLink RX1 36 "OldStadium$Heats" "going" "Z") (List.mem_of_getElem? (i := 1) rfl)) (fun _ h9 => h9) rfl dX1_setWinner_1 ?_
  refine lv_if_eq (tgt := 24) hx hb dX1_setWinner_4 (by decide) (fun c1 => ?_) (fun c1 => ?_)
  · replace hf := z_ip hf c1
    refine lv_iconst (v := 0) hx hb dX1_setWinner_24 (by decide) ?_
    obtain rfl := Option.some.inj hf
    exact hret _ _ _ _ _ dX1_setWinner_25 rfl rfl hP hD hS
  · replace hf := z_im hf c1
    refine lv_aload_n hx hb dX1_setWinner_7 rfl (lv_at hl 0 rfl) ?_
    refine lv_iload_n hx hb dX1_setWinner_8 rfl (lv_at hl 1 rfl) ?_
    obtain ⟨o2, ho2, hf1⟩ := z_ib hf
    replace hf := hf1
    clear hf1
    refine z_Vi (As := [.int v1]) (rest := []) (w := (wX1 cI cZ cJ cA h0 a r4 x5 x6 x7 x8 x9 x10 x11 x12 x13 x14 x15 f0 f1 f2 f3 V4)) (w1 := (wX1 cI cZ cJ cA h0 a r4 x5 x6 x7 x8 x9 x10 x11 x12 x13 x14 x15 f0 f1 f2 f3 V4)) ⟨hx, hb, hml, hown, hts⟩ (k_X1_isHeat l dC dI cI cZ cJ cA h0 a r4 H.size N v1 x5 x6 x7 x8 x9 x10 x11 x12 x13 x14 x15 f0 f1 f2 f3 V4 o2 ho2) (cwV 1 hts gX1_setWinner_X1_isHeat rfl rfl rfl (by decide +kernel) ⟨Nat.le_trans (Nat.le_of_ble_eq_true rfl) hRf, Nat.le_trans (Nat.le_of_ble_eq_true rfl) hRl⟩) hK hP hD hS hA hN (ci := 1) rfl rfl rfl rfl hl.1 rfl (Nat.le_of_ble_eq_true rfl) dX1_setWinner_9 (fun H locs hP hD hS => ?_)
    refine lv_if_eq (tgt := 24) hx hb dX1_setWinner_12 (by decide) (fun c3 => ?_) (fun c3 => ?_)
    · replace hf := z_ip hf c3
      refine lv_iconst (v := 0) hx hb dX1_setWinner_24 (by decide) ?_
      obtain rfl := Option.some.inj hf
      exact hret _ _ _ _ _ dX1_setWinner_25 rfl rfl hP hD hS
    · replace hf := z_im hf c3
      refine lv_aload_n hx hb dX1_setWinner_15 rfl (lv_at hl 0 rfl) ?_
      refine lv_iload_n hx hb dX1_setWinner_16 rfl (lv_at hl 1 rfl) ?_
      refine lv_iload_n hx hb dX1_setWinner_17 rfl (lv_at hl 2 rfl) ?_
      obtain ⟨o4, ho4, hf1⟩ := z_ib hf
      replace hf := hf1
      clear hf1
      refine z_Vi (As := [.int v1, .int v2]) (rest := []) (w := (wX1 cI cZ cJ cA h0 a r4 x5 x6 x7 x8 x9 x10 x11 x12 x13 x14 x15 f0 f1 f2 f3 V4)) (w1 := (wX1 cI cZ cJ cA h0 a r4 x5 x6 x7 x8 x9 x10 x11 x12 x13 x14 x15 f0 f1 f2 f3 V4)) ⟨hx, hb, hml, hown, hts⟩ (k_X1_isIn l dC dI cI cZ cJ cA h0 a r4 H.size N v1 v2 x5 x6 x7 x8 x9 x10 x11 x12 x13 x14 x15 f0 f1 f2 f3 V4 o4 ho4) (cwV 2 hts gX1_setWinner_X1_isIn rfl rfl rfl (by decide +kernel) ⟨Nat.le_trans (Nat.le_of_ble_eq_true rfl) hRf, Nat.le_trans (Nat.le_of_ble_eq_true rfl) hRl⟩) hK hP hD hS hA hN (ci := 1) rfl rfl rfl rfl hl.1 rfl (Nat.le_of_ble_eq_true rfl) dX1_setWinner_18 (fun H locs hP hD hS => ?_)
      refine lv_if_ne (tgt := 26) hx hb dX1_setWinner_21 (by decide) (fun c5 => ?_) (fun c5 => ?_)
      · replace hf := z_im hf c5
        refine lv_aload_n hx hb dX1_setWinner_26 rfl (lv_at hl 0 rfl) ?_
        refine va_get (D := (dC, dI)) (ci := 1) (v := .ref (a 3)) (C := RX1) (T := TX1) (N := 16) hx hb hts (fun w hw => List.mem_cons_of_mem _ (List.mem_append_right _ hw)) hown hK hP 0 rfl rfl 3 (by decide) (hts (.fieldLink RX1 21 "OldStadium$Heats" "winners" "[I") (List.mem_of_getElem? (i := 2) rfl)) (fun _ h9 => h9) rfl dX1_setWinner_27 ?_
        refine lv_iload_n hx hb dX1_setWinner_30 rfl (lv_at hl 1 rfl) ?_
        refine lv_iload_n hx hb dX1_setWinner_31 rfl (lv_at hl 2 rfl) ?_
        have b6 := z_c1 hf
        replace hf := z_c2 hf
        refine va_iast hx hb hK hP hD hS 4 0 rfl rfl b6 dX1_setWinner_32 (fun H locs hP hD hS => ?_)
        replace hP : va_P (dC, dI) vwCl (wX1 cI cZ cJ cA h0 a r4 x5 x6 x7 x8 x9 x10 x11 x12 x13 x14 x15 f0 f1 f2 (upd f3 (Int32.toNatClampNeg v1) v2) V4) H := hP
        replace hD : va_D A (wX1 cI cZ cJ cA h0 a r4 x5 x6 x7 x8 x9 x10 x11 x12 x13 x14 x15 f0 f1 f2 (upd f3 (Int32.toNatClampNeg v1) v2) V4) := hD
        refine lv_iconst (v := 1) hx hb dX1_setWinner_33 (by decide) ?_
        obtain rfl := Option.some.inj hf
        exact hret _ _ _ _ _ dX1_setWinner_34 rfl rfl hP hD hS
      · replace hf := z_ip hf c5
        refine lv_iconst (v := 0) hx hb dX1_setWinner_24 (by decide) ?_
        obtain rfl := Option.some.inj hf
        exact hret _ _ _ _ _ dX1_setWinner_25 rfl rfl hP hD hS
set_option maxHeartbeats 4000000 in
set_option maxRecDepth 100000 in
theorem k_X1_setWinner (l : Launch) (dC : Nat → ClassId) (dI : Nat → Nat → Nat) (cI cZ cJ cA : ClassId) (h0 : Nat) (a : Nat → Nat) (r4 : Nat → Nat) (sz : Nat) (N : Nat) (v1 : Int32) (v2 : Int32) (x5 : Int32) (x6 : Int32) (x7 : Int32) (x8 : Int32) (x9 : Int32) (x10 : Int32) (x11 : Int32) (x12 : Int32) (x13 : Int32) (x14 : Int32) (x15 : Int32) (f0 : (Nat → Int32)) (f1 : (Nat → Int32)) (f2 : (Nat → Int32)) (f3 : (Nat → Int32)) (V4 : (Nat → Nat → Int32)) (o : (Int32 × (Nat → Int32))) (hf : q_X1_setWinner N v1 v2 x7 x9 x10 x11 f2 f3 = some o) : Met l yX1_setWinner wsX1_setWinner ({ frames := 4, cells := 0, slots := 0, locals := 87 } : Room) (z_Pre dC dI (z_ty cI cZ cJ cA) [.ref h0, .int v1, .int v2] sz (wX1 cI cZ cJ cA h0 a r4 x5 x6 x7 x8 x9 x10 x11 x12 x13 x14 x15 f0 f1 f2 f3 V4)) (z_Pi dC dI o.1 (wX1 cI cZ cJ cA h0 a r4 x5 x6 x7 x8 x9 x10 x11 x12 x13 x14 x15 f0 f1 f2 o.2 V4) sz (wX1 cI cZ cJ cA h0 a r4 x5 x6 x7 x8 x9 x10 x11 x12 x13 x14 x15 f0 f1 f2 f3 V4)) 0 0 (va_A (wX1 cI cZ cJ cA h0 a r4 x5 x6 x7 x8 x9 x10 x11 x12 x13 x14 x15 f0 f1 f2 f3 V4) sz) := by
  refine Met.ofW (cc := cX1_setWinner) (maxL := 3) (ret := (some .boolean)) (by decide) rfl ?_
  intro p e s m args below meth c s₁ B hml hv
  obtain ⟨rfl, hsz, hP, hK, hD0, hN⟩ := hv
  subst hsz
  have hl := lv_entry ([.ref h0, .int v1, .int v2]) (n := 3) (Nat.le_of_ble_eq_true rfl)
  rw [lg_entry_eq]
  refine b_X1_setWinner N ⟨⟨B.exec, B.bytes, hml, findClass_of_methodNamed B.named, atoms_spec (ws := wsX1_setWinner) B.pre⟩, Nat.le_refl _, Nat.le_refl _, fun q h => Or.inr h, hN, hK⟩ hf hP hD0.self va_S.rf hl (fun pc H locs ls r hd hr hn hP hD hS => ?_)
  subst hr
  exact W.zret B.exec B.bytes B.returns hn (fun t ht hW => ⟨⟨_, (), rfl, rfl, by rw [ht]; exact hP, hD⟩, hS.F ht⟩) hS.2.2 hd
def q_X1_castVote (N : Nat) (v1 : Int32) (v2 : Int32) (v3 : Int32) (x6 : Int32) (x7 : Int32) (x9 : Int32) (x10 : Int32) (x11 : Int32) (f2 : (Nat → Int32)) (V4 : (Nat → Nat → Int32)) : Option (Int32 × (Nat → Nat → Int32)) :=
  (if v1 < 0 then
   (some (0, V4))
  else
   (if x6 ≤ v1 then
    (some (0, V4))
   else
    (if x7 = 0 then
     (some (0, V4))
    else
     (Option.bind (q_X1_isHeat N v2 x11) (fun o4 =>
     (if o4 = 0 then
      (some (0, V4))
     else
      (Option.bind (q_X1_isIn N v2 v3 x9 x10 x11 f2) (fun o6 =>
      (if o6 = 0 then
       (some (0, V4))
      else
       (if z_in v1 9 then
       (if z_in v2 12 then
       (some (1, (z_up2 V4 (Int32.toNatClampNeg v1) (Int32.toNatClampNeg v2) v3)))
       else none)
       else none))))))))))
set_option maxHeartbeats 4000000 in
set_option maxRecDepth 100000 in
theorem b_X1_castVote {p : Program} {l : Launch} {e : Env} {R : Room} {s : State} {m : MethodId} {args : Array Value} {below : List Frame} {meth : Method} {c : Code} {Q : State → Prop} {A : Nat → Prop} {dC : Nat → ClassId} {dI : Nat → Nat → Nat} {cI cZ cJ cA : ClassId} {h0 : Nat} {a : Nat → Nat} {r4 : Nat → Nat} (N : Nat) (C0 : z_Cx p s m args c cX1_castVote 4 wsX1_castVote RX1 R 4 87 A dC dI (z_ty cI cZ cJ cA)) {v1 : Int32} {v2 : Int32} {v3 : Int32} {x5 : Int32} {x6 : Int32} {x7 : Int32} {x8 : Int32} {x9 : Int32} {x10 : Int32} {x11 : Int32} {x12 : Int32} {x13 : Int32} {x14 : Int32} {x15 : Int32} {f0 : (Nat → Int32)} {f1 : (Nat → Int32)} {f2 : (Nat → Int32)} {f3 : (Nat → Int32)} {V4 : (Nat → Nat → Int32)} {o : (Int32 × (Nat → Nat → Int32))} {H : Heap} {locs : List Loc} {ls : Array Slot} (hf : q_X1_castVote N v1 v2 v3 x6 x7 x9 x10 x11 f2 V4 = some o) (hP : va_P (dC, dI) vwCl (wX1 cI cZ cJ cA h0 a r4 x5 x6 x7 x8 x9 x10 x11 x12 x13 x14 x15 f0 f1 f2 f3 V4) H) (hD : va_D A (wX1 cI cZ cJ cA h0 a r4 x5 x6 x7 x8 x9 x10 x11 x12 x13 x14 x15 f0 f1 f2 f3 V4)) (hS : va_S A s.heap H locs) (hl : lv_has ls 4 [(0, .ref h0), (1, .int v1), (2, .int v2), (3, .int v3)])
    (hret : ∀ (pc : Nat) (H : Heap) (locs : List Loc) (ls : Array Slot) (r : Int32), decode cX1_castVote pc = .ok (.ireturn, 1) → r = o.1 → narrow .boolean (.int r) = .int r → va_P (dC, dI) vwCl (wX1 cI cZ cJ cA h0 a r4 x5 x6 x7 x8 x9 x10 x11 x12 x13 x14 x15 f0 f1 f2 f3 o.2) H → va_D A (wX1 cI cZ cJ cA h0 a r4 x5 x6 x7 x8 x9 x10 x11 x12 x13 x14 x15 f0 f1 f2 f3 o.2) → va_S A s.heap H locs → W p l e R s m args below meth c H locs 0 0 Q (F0 m pc ls [.int r])) :
    W p l e R s m args below meth c H locs 0 0 Q (F0 m 0 ls []) := by
  obtain ⟨⟨hx, hb, hml, hown, hts⟩, hRf, hRl, hA, hN, hK⟩ := C0
  unfold q_X1_castVote at hf
  refine lv_iload_n hx hb dX1_castVote_0 rfl (lv_at hl 1 rfl) ?_
  refine lv_if_lt (tgt := 36) hx hb dX1_castVote_1 (by decide) (fun c1 => ?_) (fun c1 => ?_)
  · replace hf := z_ip hf c1
    refine lv_iconst (v := 0) hx hb dX1_castVote_36 (by decide) ?_
    obtain rfl := Option.some.inj hf
    exact hret _ _ _ _ _ dX1_castVote_37 rfl rfl hP hD hS
  · replace hf := z_im hf c1
    refine lv_iload_n hx hb dX1_castVote_4 rfl (lv_at hl 1 rfl) ?_
    refine lv_aload_n hx hb dX1_castVote_5 rfl (lv_at hl 0 rfl) ?_
    refine va_get (D := (dC, dI)) (ci := 1) (v := .int x6) (C := RX1) (T := TX1) (N := 16) hx hb hts (fun w hw => List.mem_cons_of_mem _ (List.mem_append_right _ hw)) hown hK hP 0 rfl rfl 6 (by decide) (hts (.fieldLink RX1 33 "OldStadium$Heats" "judges" "I") (List.mem_of_getElem? (i := 1) rfl)) (fun _ h9 => h9) rfl dX1_castVote_6 ?_
    refine lv_icmp_ge (tgt := 36) hx hb dX1_castVote_9 (by decide) (fun c2 => ?_) (fun c2 => ?_)
    · replace hf := z_ip hf c2
      refine lv_iconst (v := 0) hx hb dX1_castVote_36 (by decide) ?_
      obtain rfl := Option.some.inj hf
      exact hret _ _ _ _ _ dX1_castVote_37 rfl rfl hP hD hS
    · replace hf := z_im hf c2
      refine lv_aload_n hx hb dX1_castVote_12 rfl (lv_at hl 0 rfl) ?_
      refine va_get (D := (dC, dI)) (ci := 1) (v := .int x7) (C := RX1) (T := TX1) (N := 16) hx hb hts (fun w hw => List.mem_cons_of_mem _ (List.mem_append_right _ hw)) hown hK hP 0 rfl rfl 7 (by decide) (hts (.fieldLink RX1 36 "OldStadium$Heats" "going" "Z") (List.mem_of_getElem? (i := 2) rfl)) (fun _ h9 => h9) rfl dX1_castVote_13 ?_
      refine lv_if_eq (tgt := 36) hx hb dX1_castVote_16 (by decide) (fun c3 => ?_) (fun c3 => ?_)
      · replace hf := z_ip hf c3
        refine lv_iconst (v := 0) hx hb dX1_castVote_36 (by decide) ?_
        obtain rfl := Option.some.inj hf
        exact hret _ _ _ _ _ dX1_castVote_37 rfl rfl hP hD hS
      · replace hf := z_im hf c3
        refine lv_aload_n hx hb dX1_castVote_19 rfl (lv_at hl 0 rfl) ?_
        refine lv_iload_n hx hb dX1_castVote_20 rfl (lv_at hl 2 rfl) ?_
        obtain ⟨o4, ho4, hf1⟩ := z_ib hf
        replace hf := hf1
        clear hf1
        refine z_Vi (As := [.int v2]) (rest := []) (w := (wX1 cI cZ cJ cA h0 a r4 x5 x6 x7 x8 x9 x10 x11 x12 x13 x14 x15 f0 f1 f2 f3 V4)) (w1 := (wX1 cI cZ cJ cA h0 a r4 x5 x6 x7 x8 x9 x10 x11 x12 x13 x14 x15 f0 f1 f2 f3 V4)) ⟨hx, hb, hml, hown, hts⟩ (k_X1_isHeat l dC dI cI cZ cJ cA h0 a r4 H.size N v2 x5 x6 x7 x8 x9 x10 x11 x12 x13 x14 x15 f0 f1 f2 f3 V4 o4 ho4) (cwV 1 hts gX1_castVote_X1_isHeat rfl rfl rfl (by decide +kernel) ⟨Nat.le_trans (Nat.le_of_ble_eq_true rfl) hRf, Nat.le_trans (Nat.le_of_ble_eq_true rfl) hRl⟩) hK hP hD hS hA hN (ci := 1) rfl rfl rfl rfl hl.1 rfl (Nat.le_of_ble_eq_true rfl) dX1_castVote_21 (fun H locs hP hD hS => ?_)
        refine lv_if_eq (tgt := 36) hx hb dX1_castVote_24 (by decide) (fun c5 => ?_) (fun c5 => ?_)
        · replace hf := z_ip hf c5
          refine lv_iconst (v := 0) hx hb dX1_castVote_36 (by decide) ?_
          obtain rfl := Option.some.inj hf
          exact hret _ _ _ _ _ dX1_castVote_37 rfl rfl hP hD hS
        · replace hf := z_im hf c5
          refine lv_aload_n hx hb dX1_castVote_27 rfl (lv_at hl 0 rfl) ?_
          refine lv_iload_n hx hb dX1_castVote_28 rfl (lv_at hl 2 rfl) ?_
          refine lv_iload_n hx hb dX1_castVote_29 rfl (lv_at hl 3 rfl) ?_
          obtain ⟨o6, ho6, hf1⟩ := z_ib hf
          replace hf := hf1
          clear hf1
          refine z_Vi (As := [.int v2, .int v3]) (rest := []) (w := (wX1 cI cZ cJ cA h0 a r4 x5 x6 x7 x8 x9 x10 x11 x12 x13 x14 x15 f0 f1 f2 f3 V4)) (w1 := (wX1 cI cZ cJ cA h0 a r4 x5 x6 x7 x8 x9 x10 x11 x12 x13 x14 x15 f0 f1 f2 f3 V4)) ⟨hx, hb, hml, hown, hts⟩ (k_X1_isIn l dC dI cI cZ cJ cA h0 a r4 H.size N v2 v3 x5 x6 x7 x8 x9 x10 x11 x12 x13 x14 x15 f0 f1 f2 f3 V4 o6 ho6) (cwV 2 hts gX1_castVote_X1_isIn rfl rfl rfl (by decide +kernel) ⟨Nat.le_trans (Nat.le_of_ble_eq_true rfl) hRf, Nat.le_trans (Nat.le_of_ble_eq_true rfl) hRl⟩) hK hP hD hS hA hN (ci := 1) rfl rfl rfl rfl hl.1 rfl (Nat.le_of_ble_eq_true rfl) dX1_castVote_30 (fun H locs hP hD hS => ?_)
          refine lv_if_ne (tgt := 38) hx hb dX1_castVote_33 (by decide) (fun c7 => ?_) (fun c7 => ?_)
          · replace hf := z_im hf c7
            refine lv_aload_n hx hb dX1_castVote_38 rfl (lv_at hl 0 rfl) ?_
            refine va_get (D := (dC, dI)) (ci := 1) (v := .ref (a 4)) (C := RX1) (T := TX1) (N := 16) hx hb hts (fun w hw => List.mem_cons_of_mem _ (List.mem_append_right _ hw)) hown hK hP 0 rfl rfl 4 (by decide) (hts (.fieldLink RX1 26 "OldStadium$Heats" "votes" "[[I") (List.mem_of_getElem? (i := 3) rfl)) (fun _ h9 => h9) rfl dX1_castVote_39 ?_
            refine lv_iload_n hx hb dX1_castVote_42 rfl (lv_at hl 1 rfl) ?_
            have b8 := z_c1 hf
            replace hf := z_c2 hf
            refine z_aald (H0 := s.heap) hx hb hK hP 5 3 rfl rfl b8 dX1_castVote_43 ?_
            refine lv_iload_n hx hb dX1_castVote_44 rfl (lv_at hl 2 rfl) ?_
            refine lv_iload_n hx hb dX1_castVote_45 rfl (lv_at hl 3 rfl) ?_
            have b9 := z_c1 hf
            replace hf := z_c2 hf
            refine va_iast hx hb hK hP hD hS (6 + (Int32.toNatClampNeg v1)) 0 (zrX1_4 (z_lt b8)) rfl b9 dX1_castVote_46 (fun H locs hP hD hS => ?_)
            rw [zsX1_4 (z_lt b8)] at hP hD
            replace hP : va_P (dC, dI) vwCl (wX1 cI cZ cJ cA h0 a r4 x5 x6 x7 x8 x9 x10 x11 x12 x13 x14 x15 f0 f1 f2 f3 (z_up2 V4 (Int32.toNatClampNeg v1) (Int32.toNatClampNeg v2) v3)) H := hP
            replace hD : va_D A (wX1 cI cZ cJ cA h0 a r4 x5 x6 x7 x8 x9 x10 x11 x12 x13 x14 x15 f0 f1 f2 f3 (z_up2 V4 (Int32.toNatClampNeg v1) (Int32.toNatClampNeg v2) v3)) := hD
            refine lv_iconst (v := 1) hx hb dX1_castVote_47 (by decide) ?_
            obtain rfl := Option.some.inj hf
            exact hret _ _ _ _ _ dX1_castVote_48 rfl rfl hP hD hS
          · replace hf := z_ip hf c7
            refine lv_iconst (v := 0) hx hb dX1_castVote_36 (by decide) ?_
            obtain rfl := Option.some.inj hf
            exact hret _ _ _ _ _ dX1_castVote_37 rfl rfl hP hD hS
set_option maxHeartbeats 4000000 in
set_option maxRecDepth 100000 in
theorem k_X1_castVote (l : Launch) (dC : Nat → ClassId) (dI : Nat → Nat → Nat) (cI cZ cJ cA : ClassId) (h0 : Nat) (a : Nat → Nat) (r4 : Nat → Nat) (sz : Nat) (N : Nat) (v1 : Int32) (v2 : Int32) (v3 : Int32) (x5 : Int32) (x6 : Int32) (x7 : Int32) (x8 : Int32) (x9 : Int32) (x10 : Int32) (x11 : Int32) (x12 : Int32) (x13 : Int32) (x14 : Int32) (x15 : Int32) (f0 : (Nat → Int32)) (f1 : (Nat → Int32)) (f2 : (Nat → Int32)) (f3 : (Nat → Int32)) (V4 : (Nat → Nat → Int32)) (o : (Int32 × (Nat → Nat → Int32))) (hf : q_X1_castVote N v1 v2 v3 x6 x7 x9 x10 x11 f2 V4 = some o) : Met l yX1_castVote wsX1_castVote ({ frames := 4, cells := 0, slots := 0, locals := 87 } : Room) (z_Pre dC dI (z_ty cI cZ cJ cA) [.ref h0, .int v1, .int v2, .int v3] sz (wX1 cI cZ cJ cA h0 a r4 x5 x6 x7 x8 x9 x10 x11 x12 x13 x14 x15 f0 f1 f2 f3 V4)) (z_Pi dC dI o.1 (wX1 cI cZ cJ cA h0 a r4 x5 x6 x7 x8 x9 x10 x11 x12 x13 x14 x15 f0 f1 f2 f3 o.2) sz (wX1 cI cZ cJ cA h0 a r4 x5 x6 x7 x8 x9 x10 x11 x12 x13 x14 x15 f0 f1 f2 f3 V4)) 0 0 (va_A (wX1 cI cZ cJ cA h0 a r4 x5 x6 x7 x8 x9 x10 x11 x12 x13 x14 x15 f0 f1 f2 f3 V4) sz) := by
  refine Met.ofW (cc := cX1_castVote) (maxL := 4) (ret := (some .boolean)) (by decide) rfl ?_
  intro p e s m args below meth c s₁ B hml hv
  obtain ⟨rfl, hsz, hP, hK, hD0, hN⟩ := hv
  subst hsz
  have hl := lv_entry ([.ref h0, .int v1, .int v2, .int v3]) (n := 4) (Nat.le_of_ble_eq_true rfl)
  rw [lg_entry_eq]
  refine b_X1_castVote N ⟨⟨B.exec, B.bytes, hml, findClass_of_methodNamed B.named, atoms_spec (ws := wsX1_castVote) B.pre⟩, Nat.le_refl _, Nat.le_refl _, fun q h => Or.inr h, hN, hK⟩ hf hP hD0.self va_S.rf hl (fun pc H locs ls r hd hr hn hP hD hS => ?_)
  subst hr
  exact W.zret B.exec B.bytes B.returns hn (fun t ht hW => ⟨⟨_, (), rfl, rfl, by rw [ht]; exact hP, hD⟩, hS.F ht⟩) hS.2.2 hd

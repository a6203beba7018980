def q_X2_layOut (N : Nat) (v1 : Int32) (v2 : Int32) (v3 : Int32) (x10 : Int32) (x11 : Int32) (x12 : Int32) (x13 : Int32) (x14 : Int32) (x15 : Int32) : Option (Int32 × Int32 × Int32 × Int32 × Int32 × Int32 × Int32) :=
  (if v1 < 1 then
   (some (0, x10, x11, x12, x13, x14, x15))
  else
   (if 8 < v1 then
    (some (0, x10, x11, x12, x13, x14, x15))
   else
    (if v2 < 4 then
     (some (0, x10, x11, x12, x13, x14, x15))
    else
     (if 60 < v2 then
      (some (0, x10, x11, x12, x13, x14, x15))
     else
      (if v3 < 1 then
       (some (0, x10, x11, x12, x13, x14, x15))
      else
       (if v3 ≤ 9 then
        (some (1, v1, v2, v3, 0, 0, 0))
       else
        (some (0, x10, x11, x12, x13, x14, x15))))))))
set_option maxHeartbeats 4000000 in
set_option maxRecDepth 100000 in
theorem b_X2_layOut {p : Program} {l : Launch} {e : Env} {R : Room} {s : State} {m : MethodId} {args : Array Value} {below : List Frame} {meth : Method} {c : Code} {Q : State → Prop} {A : Nat → Prop} {dC : Nat → ClassId} {dI : Nat → Nat → Nat} {cI cZ cJ cA : ClassId} {h0 : Nat} {a : Nat → Nat} {r8 : Nat → Nat} {r9 : Nat → Nat} (N : Nat) (C0 : z_Cx p s m args c cX2_layOut 4 wsX2_layOut RX2 R 0 0 A dC dI (z_ty cI cZ cJ cA)) {v1 : Int32} {v2 : Int32} {v3 : Int32} {x10 : Int32} {x11 : Int32} {x12 : Int32} {x13 : Int32} {x14 : Int32} {x15 : Int32} {f0 : (Nat → Int32)} {f1 : (Nat → Int32)} {f2 : (Nat → Int32)} {f3 : (Nat → Int32)} {f4 : (Nat → Int32)} {f5 : (Nat → Int32)} {f6 : (Nat → Int32)} {f7 : (Nat → Int32)} {V8 : (Nat → Nat → Int32)} {V9 : (Nat → Nat → Int32)} {o : (Int32 × Int32 × Int32 × Int32 × Int32 × Int32 × Int32)} {H : Heap} {locs : List Loc} {ls : Array Slot} (hf : q_X2_layOut N v1 v2 v3 x10 x11 x12 x13 x14 x15 = some o) (hP : va_P (dC, dI) vwCl (wX2 cI cZ cJ cA h0 a r8 r9 x10 x11 x12 x13 x14 x15 f0 f1 f2 f3 f4 f5 f6 f7 V8 V9) H) (hD : va_D A (wX2 cI cZ cJ cA h0 a r8 r9 x10 x11 x12 x13 x14 x15 f0 f1 f2 f3 f4 f5 f6 f7 V8 V9)) (hS : va_S A s.heap H locs) (hl : lv_has ls 4 [(0, .ref h0), (1, .int v1), (2, .int v2), (3, .int v3)])
    (hret : ∀ (pc : Nat) (H : Heap) (locs : List Loc) (ls : Array Slot) (r : Int32), decode cX2_layOut pc = .ok (.ireturn, 1) → r = o.1 → narrow .boolean (.int r) = .int r → va_P (dC, dI) vwCl (wX2 cI cZ cJ cA h0 a r8 r9 o.2.1 o.2.2.1 o.2.2.2.1 o.2.2.2.2.1 o.2.2.2.2.2.1 o.2.2.2.2.2.2 f0 f1 f2 f3 f4 f5 f6 f7 V8 V9) H → va_D A (wX2 cI cZ cJ cA h0 a r8 r9 o.2.1 o.2.2.1 o.2.2.2.1 o.2.2.2.2.1 o.2.2.2.2.2.1 o.2.2.2.2.2.2 f0 f1 f2 f3 f4 f5 f6 f7 V8 V9) → va_S A s.heap H locs → W p l e R s m args below meth c H locs 0 0 Q (F0 m pc ls [.int r])) :
    W p l e R s m args below meth c H locs 0 0 Q (F0 m 0 ls []) := by
  obtain ⟨⟨hx, hb, hml, hown, hts⟩, hRf, hRl, hA, hN, hK⟩ := C0
  unfold q_X2_layOut at hf
  refine lv_iload_n hx hb dX2_layOut_0 rfl (lv_at hl 1 rfl) ?_
  refine lv_iconst (v := 1) hx hb dX2_layOut_1 (by decide) ?_
  refine lv_icmp_lt (tgt := 33) hx hb dX2_layOut_2 (by decide) (fun c1 => ?_) (fun c1 => ?_)
  · replace hf := z_ip hf c1
    refine lv_iconst (v := 0) hx hb dX2_layOut_33 (by decide) ?_
    obtain rfl := Option.some.inj hf
    exact hret _ _ _ _ _ dX2_layOut_34 rfl rfl hP hD hS
  · replace hf := z_im hf c1
    refine lv_iload_n hx hb dX2_layOut_5 rfl (lv_at hl 1 rfl) ?_
    refine lv_bipush (v := 8) hx hb dX2_layOut_6 (by decide) ?_
    refine lv_icmp_gt (tgt := 33) hx hb dX2_layOut_8 (by decide) (fun c2 => ?_) (fun c2 => ?_)
    · replace hf := z_ip hf c2
      refine lv_iconst (v := 0) hx hb dX2_layOut_33 (by decide) ?_
      obtain rfl := Option.some.inj hf
      exact hret _ _ _ _ _ dX2_layOut_34 rfl rfl hP hD hS
    · replace hf := z_im hf c2
      refine lv_iload_n hx hb dX2_layOut_11 rfl (lv_at hl 2 rfl) ?_
      refine lv_iconst (v := 4) hx hb dX2_layOut_12 (by decide) ?_
      refine lv_icmp_lt (tgt := 33) hx hb dX2_layOut_13 (by decide) (fun c3 => ?_) (fun c3 => ?_)
      · replace hf := z_ip hf c3
        refine lv_iconst (v := 0) hx hb dX2_layOut_33 (by decide) ?_
        obtain rfl := Option.some.inj hf
        exact hret _ _ _ _ _ dX2_layOut_34 rfl rfl hP hD hS
      · replace hf := z_im hf c3
        refine lv_iload_n hx hb dX2_layOut_16 rfl (lv_at hl 2 rfl) ?_
        refine lv_bipush (v := 60) hx hb dX2_layOut_17 (by decide) ?_
        refine lv_icmp_gt (tgt := 33) hx hb dX2_layOut_19 (by decide) (fun c4 => ?_) (fun c4 => ?_)
        · replace hf := z_ip hf c4
          refine lv_iconst (v := 0) hx hb dX2_layOut_33 (by decide) ?_
          obtain rfl := Option.some.inj hf
          exact hret _ _ _ _ _ dX2_layOut_34 rfl rfl hP hD hS
        · replace hf := z_im hf c4
          refine lv_iload_n hx hb dX2_layOut_22 rfl (lv_at hl 3 rfl) ?_
          refine lv_iconst (v := 1) hx hb dX2_layOut_23 (by decide) ?_
          refine lv_icmp_lt (tgt := 33) hx hb dX2_layOut_24 (by decide) (fun c5 => ?_) (fun c5 => ?_)
          · replace hf := z_ip hf c5
            refine lv_iconst (v := 0) hx hb dX2_layOut_33 (by decide) ?_
            obtain rfl := Option.some.inj hf
            exact hret _ _ _ _ _ dX2_layOut_34 rfl rfl hP hD hS
          · replace hf := z_im hf c5
            refine lv_iload_n hx hb dX2_layOut_27 rfl (lv_at hl 3 rfl) ?_
            refine lv_bipush (v := 9) hx hb dX2_layOut_28 (by decide) ?_
            refine lv_icmp_le (tgt := 35) hx hb dX2_layOut_30 (by decide) (fun c6 => ?_) (fun c6 => ?_)
            · replace hf := z_ip hf c6
              refine lv_aload_n hx hb dX2_layOut_35 rfl (lv_at hl 0 rfl) ?_
              refine lv_iload_n hx hb dX2_layOut_36 rfl (lv_at hl 1 rfl) ?_
              refine va_put (D := (dC, dI)) (ci := 2) (v := .int v1) (ty := .int) (C := RX2) (T := TX2) (N := 16) hx hb hts (fun w hw => List.mem_cons_of_mem _ (List.mem_append_right _ hw)) tyX2 tyX2_ok nmX2 hown hK hP hD hS 0 rfl rfl 10 (by decide) (hts (.fieldLink RX2 44 "OldStadium$Hippodrome" "lanes" "I") (List.mem_of_getElem? (i := 1) rfl)) (fun _ h9 => h9) rfl (by decide +kernel) rfl rfl (Nat.le_of_ble_eq_true rfl) dX2_layOut_37 (fun H locs hP hD hS => ?_)
              replace hP : va_P (dC, dI) vwCl (wX2 cI cZ cJ cA h0 a r8 r9 v1 x11 x12 x13 x14 x15 f0 f1 f2 f3 f4 f5 f6 f7 V8 V9) H := hP
              replace hD : va_D A (wX2 cI cZ cJ cA h0 a r8 r9 v1 x11 x12 x13 x14 x15 f0 f1 f2 f3 f4 f5 f6 f7 V8 V9) := hD
              refine lv_aload_n hx hb dX2_layOut_40 rfl (lv_at hl 0 rfl) ?_
              refine lv_iload_n hx hb dX2_layOut_41 rfl (lv_at hl 2 rfl) ?_
              refine va_put (D := (dC, dI)) (ci := 2) (v := .int v2) (ty := .int) (C := RX2) (T := TX2) (N := 16) hx hb hts (fun w hw => List.mem_cons_of_mem _ (List.mem_append_right _ hw)) tyX2 tyX2_ok nmX2 hown hK hP hD hS 0 rfl rfl 11 (by decide) (hts (.fieldLink RX2 48 "OldStadium$Hippodrome" "cells" "I") (List.mem_of_getElem? (i := 2) rfl)) (fun _ h9 => h9) rfl (by decide +kernel) rfl rfl (Nat.le_of_ble_eq_true rfl) dX2_layOut_42 (fun H locs hP hD hS => ?_)
              replace hP : va_P (dC, dI) vwCl (wX2 cI cZ cJ cA h0 a r8 r9 v1 v2 x12 x13 x14 x15 f0 f1 f2 f3 f4 f5 f6 f7 V8 V9) H := hP
              replace hD : va_D A (wX2 cI cZ cJ cA h0 a r8 r9 v1 v2 x12 x13 x14 x15 f0 f1 f2 f3 f4 f5 f6 f7 V8 V9) := hD
              refine lv_aload_n hx hb dX2_layOut_45 rfl (lv_at hl 0 rfl) ?_
              refine lv_iload_n hx hb dX2_layOut_46 rfl (lv_at hl 3 rfl) ?_
              refine va_put (D := (dC, dI)) (ci := 2) (v := .int v3) (ty := .int) (C := RX2) (T := TX2) (N := 16) hx hb hts (fun w hw => List.mem_cons_of_mem _ (List.mem_append_right _ hw)) tyX2 tyX2_ok nmX2 hown hK hP hD hS 0 rfl rfl 12 (by decide) (hts (.fieldLink RX2 51 "OldStadium$Hippodrome" "laps" "I") (List.mem_of_getElem? (i := 3) rfl)) (fun _ h9 => h9) rfl (by decide +kernel) rfl rfl (Nat.le_of_ble_eq_true rfl) dX2_layOut_47 (fun H locs hP hD hS => ?_)
              replace hP : va_P (dC, dI) vwCl (wX2 cI cZ cJ cA h0 a r8 r9 v1 v2 v3 x13 x14 x15 f0 f1 f2 f3 f4 f5 f6 f7 V8 V9) H := hP
              replace hD : va_D A (wX2 cI cZ cJ cA h0 a r8 r9 v1 v2 v3 x13 x14 x15 f0 f1 f2 f3 f4 f5 f6 f7 V8 V9) := hD
              refine lv_aload_n hx hb dX2_layOut_50 rfl (lv_at hl 0 rfl) ?_
              refine lv_iconst (v := 0) hx hb dX2_layOut_51 (by decide) ?_
              refine va_put (D := (dC, dI)) (ci := 2) (v := .int 0) (ty := .int) (C := RX2) (T := TX2) (N := 16) hx hb hts (fun w hw => List.mem_cons_of_mem _ (List.mem_append_right _ hw)) tyX2 tyX2_ok nmX2 hown hK hP hD hS 0 rfl rfl 13 (by decide) (hts (.fieldLink RX2 54 "OldStadium$Hippodrome" "chariots" "I") (List.mem_of_getElem? (i := 4) rfl)) (fun _ h9 => h9) rfl (by decide +kernel) rfl rfl (Nat.le_of_ble_eq_true rfl) dX2_layOut_52 (fun H locs hP hD hS => ?_)
              replace hP : va_P (dC, dI) vwCl (wX2 cI cZ cJ cA h0 a r8 r9 v1 v2 v3 0 x14 x15 f0 f1 f2 f3 f4 f5 f6 f7 V8 V9) H := hP
              replace hD : va_D A (wX2 cI cZ cJ cA h0 a r8 r9 v1 v2 v3 0 x14 x15 f0 f1 f2 f3 f4 f5 f6 f7 V8 V9) := hD
              refine lv_aload_n hx hb dX2_layOut_55 rfl (lv_at hl 0 rfl) ?_
              refine lv_iconst (v := 0) hx hb dX2_layOut_56 (by decide) ?_
              refine va_put (D := (dC, dI)) (ci := 2) (v := .int 0) (ty := .int) (C := RX2) (T := TX2) (N := 16) hx hb hts (fun w hw => List.mem_cons_of_mem _ (List.mem_append_right _ hw)) tyX2 tyX2_ok nmX2 hown hK hP hD hS 0 rfl rfl 14 (by decide) (hts (.fieldLink RX2 57 "OldStadium$Hippodrome" "tick" "I") (List.mem_of_getElem? (i := 5) rfl)) (fun _ h9 => h9) rfl (by decide +kernel) rfl rfl (Nat.le_of_ble_eq_true rfl) dX2_layOut_57 (fun H locs hP hD hS => ?_)
              replace hP : va_P (dC, dI) vwCl (wX2 cI cZ cJ cA h0 a r8 r9 v1 v2 v3 0 0 x15 f0 f1 f2 f3 f4 f5 f6 f7 V8 V9) H := hP
              replace hD : va_D A (wX2 cI cZ cJ cA h0 a r8 r9 v1 v2 v3 0 0 x15 f0 f1 f2 f3 f4 f5 f6 f7 V8 V9) := hD
              refine lv_aload_n hx hb dX2_layOut_60 rfl (lv_at hl 0 rfl) ?_
              refine lv_iconst (v := 0) hx hb dX2_layOut_61 (by decide) ?_
              refine va_put (D := (dC, dI)) (ci := 2) (v := .int 0) (ty := .int) (C := RX2) (T := TX2) (N := 16) hx hb hts (fun w hw => List.mem_cons_of_mem _ (List.mem_append_right _ hw)) tyX2 tyX2_ok nmX2 hown hK hP hD hS 0 rfl rfl 15 (by decide) (hts (.fieldLink RX2 60 "OldStadium$Hippodrome" "cameHome" "I") (List.mem_of_getElem? (i := 6) rfl)) (fun _ h9 => h9) rfl (by decide +kernel) rfl rfl (Nat.le_of_ble_eq_true rfl) dX2_layOut_62 (fun H locs hP hD hS => ?_)
              replace hP : va_P (dC, dI) vwCl (wX2 cI cZ cJ cA h0 a r8 r9 v1 v2 v3 0 0 0 f0 f1 f2 f3 f4 f5 f6 f7 V8 V9) H := hP
              replace hD : va_D A (wX2 cI cZ cJ cA h0 a r8 r9 v1 v2 v3 0 0 0 f0 f1 f2 f3 f4 f5 f6 f7 V8 V9) := hD
              refine lv_iconst (v := 1) hx hb dX2_layOut_65 (by decide) ?_
              obtain rfl := Option.some.inj hf
              exact hret _ _ _ _ _ dX2_layOut_66 rfl rfl hP hD hS
            · replace hf := z_im hf c6
              refine lv_iconst (v := 0) hx hb dX2_layOut_33 (by decide) ?_
              obtain rfl := Option.some.inj hf
              exact hret _ _ _ _ _ dX2_layOut_34 rfl rfl hP hD hS
set_option maxHeartbeats 4000000 in
set_option maxRecDepth 100000 in
theorem k_X2_layOut (l : Launch) (dC : Nat → ClassId) (dI : Nat → Nat → Nat) (cI cZ cJ cA : ClassId) (h0 : Nat) (a : Nat → Nat) (r8 : Nat → Nat) (r9 : Nat → Nat) (sz : Nat) (N : Nat) (v1 : Int32) (v2 : Int32) (v3 : Int32) (x10 : Int32) (x11 : Int32) (x12 : Int32) (x13 : Int32) (x14 : Int32) (x15 : Int32) (f0 : (Nat → Int32)) (f1 : (Nat → Int32)) (f2 : (Nat → Int32)) (f3 : (Nat → Int32)) (f4 : (Nat → Int32)) (f5 : (Nat → Int32)) (f6 : (Nat → Int32)) (f7 : (Nat → Int32)) (V8 : (Nat → Nat → Int32)) (V9 : (Nat → Nat → Int32)) (o : (Int32 × Int32 × Int32 × Int32 × Int32 × Int32 × Int32)) (hf : q_X2_layOut N v1 v2 v3 x10 x11 x12 x13 x14 x15 = some o) : Met l yX2_layOut wsX2_layOut ({ frames := 0, cells := 0, slots := 0, locals := 0 } : Room) (z_Pre dC dI (z_ty cI cZ cJ cA) [.ref h0, .int v1, .int v2, .int v3] sz (wX2 cI cZ cJ cA h0 a r8 r9 x10 x11 x12 x13 x14 x15 f0 f1 f2 f3 f4 f5 f6 f7 V8 V9)) (z_Pi dC dI o.1 (wX2 cI cZ cJ cA h0 a r8 r9 o.2.1 o.2.2.1 o.2.2.2.1 o.2.2.2.2.1 o.2.2.2.2.2.1 o.2.2.2.2.2.2 f0 f1 f2 f3 f4 f5 f6 f7 V8 V9) sz (wX2 cI cZ cJ cA h0 a r8 r9 x10 x11 x12 x13 x14 x15 f0 f1 f2 f3 f4 f5 f6 f7 V8 V9)) 0 0 (va_A (wX2 cI cZ cJ cA h0 a r8 r9 x10 x11 x12 x13 x14 x15 f0 f1 f2 f3 f4 f5 f6 f7 V8 V9) sz) := by
  refine Met.ofW (cc := cX2_layOut) (maxL := 4) (ret := (some .boolean)) (by decide) rfl ?_
  intro p e s m args below meth c s₁ B hml hv
  obtain ⟨rfl, hsz, hP, hK, hD0, hN⟩ := hv
  subst hsz
  have hl := lv_entry ([.ref h0, .int v1, .int v2, .int v3]) (n := 4) (Nat.le_of_ble_eq_true rfl)
  rw [lg_entry_eq]
  refine b_X2_layOut N ⟨⟨B.exec, B.bytes, hml, findClass_of_methodNamed B.named, atoms_spec (ws := wsX2_layOut) B.pre⟩, Nat.le_refl _, Nat.le_refl _, fun q h => Or.inr h, hN, hK⟩ hf hP hD0.self va_S.rf hl (fun pc H locs ls r hd hr hn hP hD hS => ?_)
  subst hr
  exact W.zret B.exec B.bytes B.returns hn (fun t ht hW => ⟨⟨_, (), rfl, rfl, by rw [ht]; exact hP, hD⟩, hS.F ht⟩) hS.2.2 hd
def q_X2_isTaken_L2 (N : Nat) (v1 : Int32) (x13 : Int32) (f1 : (Nat → Int32)) : Nat → Int32 → Option (Sum Int32 Unit)
  | 0, _ => none
  | n + 1, v2 =>
    (if x13 ≤ v2 then
     (some (Sum.inr ()))
    else
     (if z_in v2 8 then
     (if (f1 (Int32.toNatClampNeg v2)) = v1 then
      (some (Sum.inl 1))
     else
      (q_X2_isTaken_L2 N v1 x13 f1 n (v2 + 1)))
     else none))
set_option maxHeartbeats 4000000 in
set_option maxRecDepth 100000 in
theorem b_X2_isTaken_L2 {p : Program} {l : Launch} {e : Env} {R : Room} {s : State} {m : MethodId} {args : Array Value} {below : List Frame} {meth : Method} {c : Code} {Q : State → Prop} {A : Nat → Prop} {dC : Nat → ClassId} {dI : Nat → Nat → Nat} {cI cZ cJ cA : ClassId} {h0 : Nat} {a : Nat → Nat} {r8 : Nat → Nat} {r9 : Nat → Nat} (N : Nat) (C0 : z_Cx p s m args c cX2_isTaken 3 wsX2_isTaken RX2 R 0 0 A dC dI (z_ty cI cZ cJ cA)) : ∀ (n : Nat) {v1 : Int32} {v2 : Int32} {x10 : Int32} {x11 : Int32} {x12 : Int32} {x13 : Int32} {x14 : Int32} {x15 : Int32} {f0 : (Nat → Int32)} {f1 : (Nat → Int32)} {f2 : (Nat → Int32)} {f3 : (Nat → Int32)} {f4 : (Nat → Int32)} {f5 : (Nat → Int32)} {f6 : (Nat → Int32)} {f7 : (Nat → Int32)} {V8 : (Nat → Nat → Int32)} {V9 : (Nat → Nat → Int32)} {o : (Sum Int32 Unit)} {H : Heap} {locs : List Loc} {ls : Array Slot}, q_X2_isTaken_L2 N v1 x13 f1 n v2 = some o → va_P (dC, dI) vwCl (wX2 cI cZ cJ cA h0 a r8 r9 x10 x11 x12 x13 x14 x15 f0 f1 f2 f3 f4 f5 f6 f7 V8 V9) H → va_D A (wX2 cI cZ cJ cA h0 a r8 r9 x10 x11 x12 x13 x14 x15 f0 f1 f2 f3 f4 f5 f6 f7 V8 V9) → va_S A s.heap H locs → lv_has ls 3 [(0, .ref h0), (1, .int v1), (2, .int v2)] →
    (∀ (t : Int32), o = Sum.inl t → ∀ (pc : Nat) (H : Heap) (locs : List Loc) (ls : Array Slot) (r : Int32), decode cX2_isTaken pc = .ok (.ireturn, 1) → r = t → narrow .boolean (.int r) = .int r → va_P (dC, dI) vwCl (wX2 cI cZ cJ cA h0 a r8 r9 x10 x11 x12 x13 x14 x15 f0 f1 f2 f3 f4 f5 f6 f7 V8 V9) H → va_D A (wX2 cI cZ cJ cA h0 a r8 r9 x10 x11 x12 x13 x14 x15 f0 f1 f2 f3 f4 f5 f6 f7 V8 V9) → va_S A s.heap H locs → W p l e R s m args below meth c H locs 0 0 Q (F0 m pc ls [.int r])) →
    (∀ (t : Unit) (H : Heap) (locs : List Loc) (ls : Array Slot), o = Sum.inr t → va_P (dC, dI) vwCl (wX2 cI cZ cJ cA h0 a r8 r9 x10 x11 x12 x13 x14 x15 f0 f1 f2 f3 f4 f5 f6 f7 V8 V9) H → va_D A (wX2 cI cZ cJ cA h0 a r8 r9 x10 x11 x12 x13 x14 x15 f0 f1 f2 f3 f4 f5 f6 f7 V8 V9) → va_S A s.heap H locs → lv_has ls 3 [] → W p l e R s m args below meth c H locs 0 0 Q (F0 m 28 ls [])) →
    W p l e R s m args below meth c H locs 0 0 Q (F0 m 2 ls []) := by
  obtain ⟨⟨hx, hb, hml, hown, hts⟩, hRf, hRl, hA, hN, hK⟩ := C0
  intro n
  induction n with
  | zero =>
    intro v1 v2 x10 x11 x12 x13 x14 x15 f0 f1 f2 f3 f4 f5 f6 f7 V8 V9 o H locs ls hf
    cases hf
  | succ n ih =>
    intro v1 v2 x10 x11 x12 x13 x14 x15 f0 f1 f2 f3 f4 f5 f6 f7 V8 V9 o H locs ls hf hP hD hS hl hret hexit
    rw [q_X2_isTaken_L2] at hf
    refine lv_iload_n hx hb dX2_isTaken_2 rfl (lv_at hl 2 rfl) ?_
    refine lv_aload_n hx hb dX2_isTaken_3 rfl (lv_at hl 0 rfl) ?_
    refine va_get (D := (dC, dI)) (ci := 2) (v := .int x13) (C := RX2) (T := TX2) (N := 16) hx hb hts (fun w hw => List.mem_cons_of_mem _ (List.mem_append_right _ hw)) hown hK hP 0 rfl rfl 13 (by decide) (hts (.fieldLink RX2 54 "OldStadium$Hippodrome" "chariots" "I") (List.mem_of_getElem? (i := 1) rfl)) (fun _ h9 => h9) rfl dX2_isTaken_4 ?_
    refine lv_icmp_ge (tgt := 28) hx hb dX2_isTaken_7 (by decide) (fun c1 => ?_) (fun c1 => ?_)
    · replace hf := z_ip hf c1
      obtain rfl := Option.some.inj hf
      exact hexit _ _ _ _ rfl hP hD hS (lv_sub hl [] rfl)
    · replace hf := z_im hf c1
      refine lv_aload_n hx hb dX2_isTaken_10 rfl (lv_at hl 0 rfl) ?_
      refine va_get (D := (dC, dI)) (ci := 2) (v := .ref (a 1)) (C := RX2) (T := TX2) (N := 16) hx hb hts (fun w hw => List.mem_cons_of_mem _ (List.mem_append_right _ hw)) hown hK hP 0 rfl rfl 1 (by decide) (hts (.fieldLink RX2 15 "OldStadium$Hippodrome" "lane" "[I") (List.mem_of_getElem? (i := 2) rfl)) (fun _ h9 => h9) rfl dX2_isTaken_11 ?_
      refine lv_iload_n hx hb dX2_isTaken_14 rfl (lv_at hl 2 rfl) ?_
      have b2 := z_c1 hf
      replace hf := z_c2 hf
      refine va_iald hx hb hK hP 2 0 rfl rfl b2 dX2_isTaken_15 ?_
      refine lv_iload_n hx hb dX2_isTaken_16 rfl (lv_at hl 1 rfl) ?_
      refine lv_icmp_ne (tgt := 22) hx hb dX2_isTaken_17 (by decide) (fun c3 => ?_) (fun c3 => ?_)
      · replace hf := z_im hf c3
        refine lv_iinc (v := (v2 + 1)) (lv' := [(2, .int (v2 + 1)), (0, .ref h0), (1, .int v1)]) hx hb dX2_isTaken_22 hl (k := 2) rfl rfl (by decide) rfl (fun ls hl => ?_)
        refine lv_goto (tgt := 2) hx hb dX2_isTaken_25 (by decide) ?_
        exact ih hf hP hD hS (lv_sub hl [1, 2, 0] rfl) hret hexit
      · replace hf := z_ip hf c3
        refine lv_iconst (v := 1) hx hb dX2_isTaken_20 (by decide) ?_
        obtain rfl := Option.some.inj hf
        exact hret _ rfl _ _ _ _ _ dX2_isTaken_21 rfl rfl hP hD hS
def q_X2_isTaken (N : Nat) (v1 : Int32) (x13 : Int32) (f1 : (Nat → Int32)) : Option Int32 :=
  (Option.bind (q_X2_isTaken_L2 N v1 x13 f1 N 0) (Sum.elim (fun r3 => (some r3)) (fun s2 =>
  (some 0))))
set_option maxHeartbeats 4000000 in
set_option maxRecDepth 100000 in
theorem b_X2_isTaken {p : Program} {l : Launch} {e : Env} {R : Room} {s : State} {m : MethodId} {args : Array Value} {below : List Frame} {meth : Method} {c : Code} {Q : State → Prop} {A : Nat → Prop} {dC : Nat → ClassId} {dI : Nat → Nat → Nat} {cI cZ cJ cA : ClassId} {h0 : Nat} {a : Nat → Nat} {r8 : Nat → Nat} {r9 : Nat → Nat} (N : Nat) (C0 : z_Cx p s m args c cX2_isTaken 3 wsX2_isTaken RX2 R 0 0 A dC dI (z_ty cI cZ cJ cA)) {v1 : Int32} {x10 : Int32} {x11 : Int32} {x12 : Int32} {x13 : Int32} {x14 : Int32} {x15 : Int32} {f0 : (Nat → Int32)} {f1 : (Nat → Int32)} {f2 : (Nat → Int32)} {f3 : (Nat → Int32)} {f4 : (Nat → Int32)} {f5 : (Nat → Int32)} {f6 : (Nat → Int32)} {f7 : (Nat → Int32)} {V8 : (Nat → Nat → Int32)} {V9 : (Nat → Nat → Int32)} {o : Int32} {H : Heap} {locs : List Loc} {ls : Array Slot} (hf : q_X2_isTaken N v1 x13 f1 = some o) (hP : va_P (dC, dI) vwCl (wX2 cI cZ cJ cA h0 a r8 r9 x10 x11 x12 x13 x14 x15 f0 f1 f2 f3 f4 f5 f6 f7 V8 V9) H) (hD : va_D A (wX2 cI cZ cJ cA h0 a r8 r9 x10 x11 x12 x13 x14 x15 f0 f1 f2 f3 f4 f5 f6 f7 V8 V9)) (hS : va_S A s.heap H locs) (hl : lv_has ls 3 [(0, .ref h0), (1, .int v1)])
    (hret : ∀ (pc : Nat) (H : Heap) (locs : List Loc) (ls : Array Slot) (r : Int32), decode cX2_isTaken pc = .ok (.ireturn, 1) → r = o → narrow .boolean (.int r) = .int r → va_P (dC, dI) vwCl (wX2 cI cZ cJ cA h0 a r8 r9 x10 x11 x12 x13 x14 x15 f0 f1 f2 f3 f4 f5 f6 f7 V8 V9) H → va_D A (wX2 cI cZ cJ cA h0 a r8 r9 x10 x11 x12 x13 x14 x15 f0 f1 f2 f3 f4 f5 f6 f7 V8 V9) → va_S A s.heap H locs → W p l e R s m args below meth c H locs 0 0 Q (F0 m pc ls [.int r])) :
    W p l e R s m args below meth c H locs 0 0 Q (F0 m 0 ls []) := by
  obtain ⟨⟨hx, hb, hml, hown, hts⟩, hRf, hRl, hA, hN, hK⟩ := C0
  unfold q_X2_isTaken at hf
  refine lv_iconst (v := 0) hx hb dX2_isTaken_0 (by decide) ?_
  refine lv_istore_n (lv' := [(2, .int 0), (0, .ref h0), (1, .int v1)]) hx hb dX2_isTaken_1 rfl hl (by decide) rfl (fun ls hl => ?_)
  obtain ⟨t1, ht1, hf1⟩ := z_ib hf
  replace hf := hf1
  clear hf1
  refine b_X2_isTaken_L2 N ⟨⟨hx, hb, hml, hown, hts⟩, hRf, hRl, hA, hN, hK⟩ N ht1 hP hD hS (lv_sub hl [1, 2, 0] rfl) (fun r3 e1 pc H locs ls r0 hd hr hn hP hD hS => ?_) (fun s2 H locs ls e1 hP hD hS hl => ?_)
  · subst e1
    have hf := z_sl hf
    obtain rfl := Option.some.inj hf
    exact hret pc H locs ls r0 hd hr hn hP hD hS
  subst e1
  replace hf := z_sr hf
  refine lv_iconst (v := 0) hx hb dX2_isTaken_28 (by decide) ?_
  obtain rfl := Option.some.inj hf
  exact hret _ _ _ _ _ dX2_isTaken_29 rfl rfl hP hD hS
set_option maxHeartbeats 4000000 in
set_option maxRecDepth 100000 in
theorem k_X2_isTaken (l : Launch) (dC : Nat → ClassId) (dI : Nat → Nat → Nat) (cI cZ cJ cA : ClassId) (h0 : Nat) (a : Nat → Nat) (r8 : Nat → Nat) (r9 : Nat → Nat) (sz : Nat) (N : Nat) (v1 : Int32) (x10 : Int32) (x11 : Int32) (x12 : Int32) (x13 : Int32) (x14 : Int32) (x15 : Int32) (f0 : (Nat → Int32)) (f1 : (Nat → Int32)) (f2 : (Nat → Int32)) (f3 : (Nat → Int32)) (f4 : (Nat → Int32)) (f5 : (Nat → Int32)) (f6 : (Nat → Int32)) (f7 : (Nat → Int32)) (V8 : (Nat → Nat → Int32)) (V9 : (Nat → Nat → Int32)) (o : Int32) (hf : q_X2_isTaken N v1 x13 f1 = some o) : Met l yX2_isTaken wsX2_isTaken ({ frames := 0, cells := 0, slots := 0, locals := 0 } : Room) (z_Pre dC dI (z_ty cI cZ cJ cA) [.ref h0, .int v1] sz (wX2 cI cZ cJ cA h0 a r8 r9 x10 x11 x12 x13 x14 x15 f0 f1 f2 f3 f4 f5 f6 f7 V8 V9)) (z_Pi dC dI o (wX2 cI cZ cJ cA h0 a r8 r9 x10 x11 x12 x13 x14 x15 f0 f1 f2 f3 f4 f5 f6 f7 V8 V9) sz (wX2 cI cZ cJ cA h0 a r8 r9 x10 x11 x12 x13 x14 x15 f0 f1 f2 f3 f4 f5 f6 f7 V8 V9)) 0 0 (va_A (wX2 cI cZ cJ cA h0 a r8 r9 x10 x11 x12 x13 x14 x15 f0 f1 f2 f3 f4 f5 f6 f7 V8 V9) sz) := by
  refine Met.ofW (cc := cX2_isTaken) (maxL := 3) (ret := (some .boolean)) (by decide) rfl ?_
  intro p e s m args below meth c s₁ B hml hv
  obtain ⟨rfl, hsz, hP, hK, hD0, hN⟩ := hv
  subst hsz
  have hl := lv_entry ([.ref h0, .int v1]) (n := 3) (Nat.le_of_ble_eq_true rfl)
  rw [lg_entry_eq]
  refine b_X2_isTaken N ⟨⟨B.exec, B.bytes, hml, findClass_of_methodNamed B.named, atoms_spec (ws := wsX2_isTaken) B.pre⟩, Nat.le_refl _, Nat.le_refl _, fun q h => Or.inr h, hN, hK⟩ hf hP hD0.self va_S.rf hl (fun pc H locs ls r hd hr hn hP hD hS => ?_)
  subst hr
  exact W.zret B.exec B.bytes B.returns hn (fun t ht hW => ⟨⟨_, (), rfl, rfl, by rw [ht]; exact hP, hD⟩, hS.F ht⟩) hS.2.2 hd
def q_X2_addChariot (N : Nat) (v1 : Int32) (v2 : Int32) (x10 : Int32) (x13 : Int32) (x14 : Int32) (f0 : (Nat → Int32)) (f1 : (Nat → Int32)) (f2 : (Nat → Int32)) (f3 : (Nat → Int32)) (f4 : (Nat → Int32)) (f5 : (Nat → Int32)) (f6 : (Nat → Int32)) (f7 : (Nat → Int32)) : Option (Int32 × Int32 × (Nat → Int32) × (Nat → Int32) × (Nat → Int32) × (Nat → Int32) × (Nat → Int32) × (Nat → Int32) × (Nat → Int32) × (Nat → Int32)) :=
  (if v1 < 0 then
   (some ((-1), x13, f0, f1, f2, f3, f4, f5, f6, f7))
  else
   (if x10 ≤ v1 then
    (some ((-1), x13, f0, f1, f2, f3, f4, f5, f6, f7))
   else
    (if v2 < 0 then
     (some ((-1), x13, f0, f1, f2, f3, f4, f5, f6, f7))
    else
     (if 20 < v2 then
      (some ((-1), x13, f0, f1, f2, f3, f4, f5, f6, f7))
     else
      (Option.bind (q_X2_isTaken N v1 x13 f1) (fun o5 =>
      (if o5 = 0 then
       (if 8 ≤ x13 then
        (some ((-1), x13, f0, f1, f2, f3, f4, f5, f6, f7))
       else
        (if x14 = 0 then
         (if z_in x13 8 then
         (some (x13, (x13 + 1), (upd f0 (Int32.toNatClampNeg x13) v2), (upd f1 (Int32.toNatClampNeg x13) v1), (upd f2 (Int32.toNatClampNeg x13) 0), (upd f3 (Int32.toNatClampNeg x13) 0), (upd f4 (Int32.toNatClampNeg x13) 0), (upd f5 (Int32.toNatClampNeg x13) 0), (upd f6 (Int32.toNatClampNeg x13) 0), (upd f7 (Int32.toNatClampNeg x13) 0)))
         else none)
        else
         (some ((-1), x13, f0, f1, f2, f3, f4, f5, f6, f7))))
      else
       (some ((-1), x13, f0, f1, f2, f3, f4, f5, f6, f7)))))))))
set_option maxHeartbeats 4000000 in
set_option maxRecDepth 100000 in
theorem b_X2_addChariot {p : Program} {l : Launch} {e : Env} {R : Room} {s : State} {m : MethodId} {args : Array Value} {below : List Frame} {meth : Method} {c : Code} {Q : State → Prop} {A : Nat → Prop} {dC : Nat → ClassId} {dI : Nat → Nat → Nat} {cI cZ cJ cA : ClassId} {h0 : Nat} {a : Nat → Nat} {r8 : Nat → Nat} {r9 : Nat → Nat} (N : Nat) (C0 : z_Cx p s m args c cX2_addChariot 3 wsX2_addChariot RX2 R 1 22 A dC dI (z_ty cI cZ cJ cA)) {v1 : Int32} {v2 : Int32} {x10 : Int32} {x11 : Int32} {x12 : Int32} {x13 : Int32} {x14 : Int32} {x15 : Int32} {f0 : (Nat → Int32)} {f1 : (Nat → Int32)} {f2 : (Nat → Int32)} {f3 : (Nat → Int32)} {f4 : (Nat → Int32)} {f5 : (Nat → Int32)} {f6 : (Nat → Int32)} {f7 : (Nat → Int32)} {V8 : (Nat → Nat → Int32)} {V9 : (Nat → Nat → Int32)} {o : (Int32 × Int32 × (Nat → Int32) × (Nat → Int32) × (Nat → Int32) × (Nat → Int32) × (Nat → Int32) × (Nat → Int32) × (Nat → Int32) × (Nat → Int32))} {H : Heap} {locs : List Loc} {ls : Array Slot} (hf : q_X2_addChariot N v1 v2 x10 x13 x14 f0 f1 f2 f3 f4 f5 f6 f7 = some o) (hP : va_P (dC, dI) vwCl (wX2 cI cZ cJ cA h0 a r8 r9 x10 x11 x12 x13 x14 x15 f0 f1 f2 f3 f4 f5 f6 f7 V8 V9) H) (hD : va_D A (wX2 cI cZ cJ cA h0 a r8 r9 x10 x11 x12 x13 x14 x15 f0 f1 f2 f3 f4 f5 f6 f7 V8 V9)) (hS : va_S A s.heap H locs) (hl : lv_has ls 3 [(0, .ref h0), (1, .int v1), (2, .int v2)])
    (hret : ∀ (pc : Nat) (H : Heap) (locs : List Loc) (ls : Array Slot) (r : Int32), decode cX2_addChariot pc = .ok (.ireturn, 1) → r = o.1 → va_P (dC, dI) vwCl (wX2 cI cZ cJ cA h0 a r8 r9 x10 x11 x12 o.2.1 x14 x15 o.2.2.1 o.2.2.2.1 o.2.2.2.2.1 o.2.2.2.2.2.1 o.2.2.2.2.2.2.1 o.2.2.2.2.2.2.2.1 o.2.2.2.2.2.2.2.2.1 o.2.2.2.2.2.2.2.2.2 V8 V9) H → va_D A (wX2 cI cZ cJ cA h0 a r8 r9 x10 x11 x12 o.2.1 x14 x15 o.2.2.1 o.2.2.2.1 o.2.2.2.2.1 o.2.2.2.2.2.1 o.2.2.2.2.2.2.1 o.2.2.2.2.2.2.2.1 o.2.2.2.2.2.2.2.2.1 o.2.2.2.2.2.2.2.2.2 V8 V9) → va_S A s.heap H locs → W p l e R s m args below meth c H locs 0 0 Q (F0 m pc ls [.int r])) :
    W p l e R s m args below meth c H locs 0 0 Q (F0 m 0 ls []) := by
  obtain ⟨⟨hx, hb, hml, hown, hts⟩, hRf, hRl, hA, hN, hK⟩ := C0
  unfold q_X2_addChariot at hf
  refine lv_iload_n hx hb dX2_addChariot_0 rfl (lv_at hl 1 rfl) ?_
  refine lv_if_lt (tgt := 46) hx hb dX2_addChariot_1 (by decide) (fun c1 => ?_) (fun c1 => ?_)
  · replace hf := z_ip hf c1
    refine lv_iconst (v := (-1)) hx hb dX2_addChariot_46 (by decide) ?_
    obtain rfl := Option.some.inj hf
    exact hret _ _ _ _ _ dX2_addChariot_47 rfl hP hD hS
  · replace hf := z_im hf c1
    refine lv_iload_n hx hb dX2_addChariot_4 rfl (lv_at hl 1 rfl) ?_
    refine lv_aload_n hx hb dX2_addChariot_5 rfl (lv_at hl 0 rfl) ?_
    refine va_get (D := (dC, dI)) (ci := 2) (v := .int x10) (C := RX2) (T := TX2) (N := 16) hx hb hts (fun w hw => List.mem_cons_of_mem _ (List.mem_append_right _ hw)) hown hK hP 0 rfl rfl 10 (by decide) (hts (.fieldLink RX2 44 "OldStadium$Hippodrome" "lanes" "I") (List.mem_of_getElem? (i := 1) rfl)) (fun _ h9 => h9) rfl dX2_addChariot_6 ?_
    refine lv_icmp_ge (tgt := 46) hx hb dX2_addChariot_9 (by decide) (fun c2 => ?_) (fun c2 => ?_)
    · replace hf := z_ip hf c2
      refine lv_iconst (v := (-1)) hx hb dX2_addChariot_46 (by decide) ?_
      obtain rfl := Option.some.inj hf
      exact hret _ _ _ _ _ dX2_addChariot_47 rfl hP hD hS
    · replace hf := z_im hf c2
      refine lv_iload_n hx hb dX2_addChariot_12 rfl (lv_at hl 2 rfl) ?_
      refine lv_if_lt (tgt := 46) hx hb dX2_addChariot_13 (by decide) (fun c3 => ?_) (fun c3 => ?_)
      · replace hf := z_ip hf c3
        refine lv_iconst (v := (-1)) hx hb dX2_addChariot_46 (by decide) ?_
        obtain rfl := Option.some.inj hf
        exact hret _ _ _ _ _ dX2_addChariot_47 rfl hP hD hS
      · replace hf := z_im hf c3
        refine lv_iload_n hx hb dX2_addChariot_16 rfl (lv_at hl 2 rfl) ?_
        refine lv_bipush (v := 20) hx hb dX2_addChariot_17 (by decide) ?_
        refine lv_icmp_gt (tgt := 46) hx hb dX2_addChariot_19 (by decide) (fun c4 => ?_) (fun c4 => ?_)
        · replace hf := z_ip hf c4
          refine lv_iconst (v := (-1)) hx hb dX2_addChariot_46 (by decide) ?_
          obtain rfl := Option.some.inj hf
          exact hret _ _ _ _ _ dX2_addChariot_47 rfl hP hD hS
        · replace hf := z_im hf c4
          refine lv_aload_n hx hb dX2_addChariot_22 rfl (lv_at hl 0 rfl) ?_
          refine lv_iload_n hx hb dX2_addChariot_23 rfl (lv_at hl 1 rfl) ?_
          obtain ⟨o5, ho5, hf1⟩ := z_ib hf
          replace hf := hf1
          clear hf1
          refine z_Vi (As := [.int v1]) (rest := []) (w := (wX2 cI cZ cJ cA h0 a r8 r9 x10 x11 x12 x13 x14 x15 f0 f1 f2 f3 f4 f5 f6 f7 V8 V9)) (w1 := (wX2 cI cZ cJ cA h0 a r8 r9 x10 x11 x12 x13 x14 x15 f0 f1 f2 f3 f4 f5 f6 f7 V8 V9)) ⟨hx, hb, hml, hown, hts⟩ (k_X2_isTaken l dC dI cI cZ cJ cA h0 a r8 r9 H.size N v1 x10 x11 x12 x13 x14 x15 f0 f1 f2 f3 f4 f5 f6 f7 V8 V9 o5 ho5) (cwV 1 hts gX2_addChariot_X2_isTaken rfl rfl rfl (by decide +kernel) ⟨Nat.le_trans (Nat.le_of_ble_eq_true rfl) hRf, Nat.le_trans (Nat.le_of_ble_eq_true rfl) hRl⟩) hK hP hD hS hA hN (ci := 2) rfl rfl rfl rfl hl.1 rfl (Nat.le_of_ble_eq_true rfl) dX2_addChariot_24 (fun H locs hP hD hS => ?_)
          refine lv_if_ne (tgt := 46) hx hb dX2_addChariot_27 (by decide) (fun c6 => ?_) (fun c6 => ?_)
          · replace hf := z_im hf c6
            refine lv_iconst (v := (-1)) hx hb dX2_addChariot_46 (by decide) ?_
            obtain rfl := Option.some.inj hf
            exact hret _ _ _ _ _ dX2_addChariot_47 rfl hP hD hS
          · replace hf := z_ip hf c6
            refine lv_aload_n hx hb dX2_addChariot_30 rfl (lv_at hl 0 rfl) ?_
            refine va_get (D := (dC, dI)) (ci := 2) (v := .int x13) (C := RX2) (T := TX2) (N := 16) hx hb hts (fun w hw => List.mem_cons_of_mem _ (List.mem_append_right _ hw)) hown hK hP 0 rfl rfl 13 (by decide) (hts (.fieldLink RX2 54 "OldStadium$Hippodrome" "chariots" "I") (List.mem_of_getElem? (i := 2) rfl)) (fun _ h9 => h9) rfl dX2_addChariot_31 ?_
            refine lv_bipush (v := 8) hx hb dX2_addChariot_34 (by decide) ?_
            refine lv_icmp_ge (tgt := 46) hx hb dX2_addChariot_36 (by decide) (fun c7 => ?_) (fun c7 => ?_)
            · replace hf := z_ip hf c7
              refine lv_iconst (v := (-1)) hx hb dX2_addChariot_46 (by decide) ?_
              obtain rfl := Option.some.inj hf
              exact hret _ _ _ _ _ dX2_addChariot_47 rfl hP hD hS
            · replace hf := z_im hf c7
              refine lv_aload_n hx hb dX2_addChariot_39 rfl (lv_at hl 0 rfl) ?_
              refine va_get (D := (dC, dI)) (ci := 2) (v := .int x14) (C := RX2) (T := TX2) (N := 16) hx hb hts (fun w hw => List.mem_cons_of_mem _ (List.mem_append_right _ hw)) hown hK hP 0 rfl rfl 14 (by decide) (hts (.fieldLink RX2 57 "OldStadium$Hippodrome" "tick" "I") (List.mem_of_getElem? (i := 3) rfl)) (fun _ h9 => h9) rfl dX2_addChariot_40 ?_
              refine lv_if_eq (tgt := 48) hx hb dX2_addChariot_43 (by decide) (fun c8 => ?_) (fun c8 => ?_)
              · replace hf := z_ip hf c8
                refine lv_aload_n hx hb dX2_addChariot_48 rfl (lv_at hl 0 rfl) ?_
                refine va_get (D := (dC, dI)) (ci := 2) (v := .ref (a 0)) (C := RX2) (T := TX2) (N := 16) hx hb hts (fun w hw => List.mem_cons_of_mem _ (List.mem_append_right _ hw)) hown hK hP 0 rfl rfl 0 (by decide) (hts (.fieldLink RX2 11 "OldStadium$Hippodrome" "delay" "[I") (List.mem_of_getElem? (i := 4) rfl)) (fun _ h9 => h9) rfl dX2_addChariot_49 ?_
                refine lv_aload_n hx hb dX2_addChariot_52 rfl (lv_at hl 0 rfl) ?_
                refine va_get (D := (dC, dI)) (ci := 2) (v := .int x13) (C := RX2) (T := TX2) (N := 16) hx hb hts (fun w hw => List.mem_cons_of_mem _ (List.mem_append_right _ hw)) hown hK hP 0 rfl rfl 13 (by decide) (hts (.fieldLink RX2 54 "OldStadium$Hippodrome" "chariots" "I") (List.mem_of_getElem? (i := 2) rfl)) (fun _ h9 => h9) rfl dX2_addChariot_53 ?_
                refine lv_iload_n hx hb dX2_addChariot_56 rfl (lv_at hl 2 rfl) ?_
                have b9 := z_c1 hf
                replace hf := z_c2 hf
                refine va_iast hx hb hK hP hD hS 1 0 rfl rfl b9 dX2_addChariot_57 (fun H locs hP hD hS => ?_)
                replace hP : va_P (dC, dI) vwCl (wX2 cI cZ cJ cA h0 a r8 r9 x10 x11 x12 x13 x14 x15 (upd f0 (Int32.toNatClampNeg x13) v2) f1 f2 f3 f4 f5 f6 f7 V8 V9) H := hP
                replace hD : va_D A (wX2 cI cZ cJ cA h0 a r8 r9 x10 x11 x12 x13 x14 x15 (upd f0 (Int32.toNatClampNeg x13) v2) f1 f2 f3 f4 f5 f6 f7 V8 V9) := hD
                refine lv_aload_n hx hb dX2_addChariot_58 rfl (lv_at hl 0 rfl) ?_
                refine va_get (D := (dC, dI)) (ci := 2) (v := .ref (a 1)) (C := RX2) (T := TX2) (N := 16) hx hb hts (fun w hw => List.mem_cons_of_mem _ (List.mem_append_right _ hw)) hown hK hP 0 rfl rfl 1 (by decide) (hts (.fieldLink RX2 15 "OldStadium$Hippodrome" "lane" "[I") (List.mem_of_getElem? (i := 5) rfl)) (fun _ h9 => h9) rfl dX2_addChariot_59 ?_
                refine lv_aload_n hx hb dX2_addChariot_62 rfl (lv_at hl 0 rfl) ?_
                refine va_get (D := (dC, dI)) (ci := 2) (v := .int x13) (C := RX2) (T := TX2) (N := 16) hx hb hts (fun w hw => List.mem_cons_of_mem _ (List.mem_append_right _ hw)) hown hK hP 0 rfl rfl 13 (by decide) (hts (.fieldLink RX2 54 "OldStadium$Hippodrome" "chariots" "I") (List.mem_of_getElem? (i := 2) rfl)) (fun _ h9 => h9) rfl dX2_addChariot_63 ?_
                refine lv_iload_n hx hb dX2_addChariot_66 rfl (lv_at hl 1 rfl) ?_
                refine va_iast hx hb hK hP hD hS 2 0 rfl rfl b9 dX2_addChariot_67 (fun H locs hP hD hS => ?_)
                replace hP : va_P (dC, dI) vwCl (wX2 cI cZ cJ cA h0 a r8 r9 x10 x11 x12 x13 x14 x15 (upd f0 (Int32.toNatClampNeg x13) v2) (upd f1 (Int32.toNatClampNeg x13) v1) f2 f3 f4 f5 f6 f7 V8 V9) H := hP
                replace hD : va_D A (wX2 cI cZ cJ cA h0 a r8 r9 x10 x11 x12 x13 x14 x15 (upd f0 (Int32.toNatClampNeg x13) v2) (upd f1 (Int32.toNatClampNeg x13) v1) f2 f3 f4 f5 f6 f7 V8 V9) := hD
                refine lv_aload_n hx hb dX2_addChariot_68 rfl (lv_at hl 0 rfl) ?_
                refine va_get (D := (dC, dI)) (ci := 2) (v := .ref (a 2)) (C := RX2) (T := TX2) (N := 16) hx hb hts (fun w hw => List.mem_cons_of_mem _ (List.mem_append_right _ hw)) hown hK hP 0 rfl rfl 2 (by decide) (hts (.fieldLink RX2 18 "OldStadium$Hippodrome" "cell" "[I") (List.mem_of_getElem? (i := 6) rfl)) (fun _ h9 => h9) rfl dX2_addChariot_69 ?_
                refine lv_aload_n hx hb dX2_addChariot_72 rfl (lv_at hl 0 rfl) ?_
                refine va_get (D := (dC, dI)) (ci := 2) (v := .int x13) (C := RX2) (T := TX2) (N := 16) hx hb hts (fun w hw => List.mem_cons_of_mem _ (List.mem_append_right _ hw)) hown hK hP 0 rfl rfl 13 (by decide) (hts (.fieldLink RX2 54 "OldStadium$Hippodrome" "chariots" "I") (List.mem_of_getElem? (i := 2) rfl)) (fun _ h9 => h9) rfl dX2_addChariot_73 ?_
                refine lv_iconst (v := 0) hx hb dX2_addChariot_76 (by decide) ?_
                refine va_iast hx hb hK hP hD hS 3 0 rfl rfl b9 dX2_addChariot_77 (fun H locs hP hD hS => ?_)
                replace hP : va_P (dC, dI) vwCl (wX2 cI cZ cJ cA h0 a r8 r9 x10 x11 x12 x13 x14 x15 (upd f0 (Int32.toNatClampNeg x13) v2) (upd f1 (Int32.toNatClampNeg x13) v1) (upd f2 (Int32.toNatClampNeg x13) 0) f3 f4 f5 f6 f7 V8 V9) H := hP
                replace hD : va_D A (wX2 cI cZ cJ cA h0 a r8 r9 x10 x11 x12 x13 x14 x15 (upd f0 (Int32.toNatClampNeg x13) v2) (upd f1 (Int32.toNatClampNeg x13) v1) (upd f2 (Int32.toNatClampNeg x13) 0) f3 f4 f5 f6 f7 V8 V9) := hD
                refine lv_aload_n hx hb dX2_addChariot_78 rfl (lv_at hl 0 rfl) ?_
                refine va_get (D := (dC, dI)) (ci := 2) (v := .ref (a 3)) (C := RX2) (T := TX2) (N := 16) hx hb hts (fun w hw => List.mem_cons_of_mem _ (List.mem_append_right _ hw)) hown hK hP 0 rfl rfl 3 (by decide) (hts (.fieldLink RX2 21 "OldStadium$Hippodrome" "lapsDone" "[I") (List.mem_of_getElem? (i := 7) rfl)) (fun _ h9 => h9) rfl dX2_addChariot_79 ?_
                refine lv_aload_n hx hb dX2_addChariot_82 rfl (lv_at hl 0 rfl) ?_
                refine va_get (D := (dC, dI)) (ci := 2) (v := .int x13) (C := RX2) (T := TX2) (N := 16) hx hb hts (fun w hw => List.mem_cons_of_mem _ (List.mem_append_right _ hw)) hown hK hP 0 rfl rfl 13 (by decide) (hts (.fieldLink RX2 54 "OldStadium$Hippodrome" "chariots" "I") (List.mem_of_getElem? (i := 2) rfl)) (fun _ h9 => h9) rfl dX2_addChariot_83 ?_
                refine lv_iconst (v := 0) hx hb dX2_addChariot_86 (by decide) ?_
                refine va_iast hx hb hK hP hD hS 4 0 rfl rfl b9 dX2_addChariot_87 (fun H locs hP hD hS => ?_)
                replace hP : va_P (dC, dI) vwCl (wX2 cI cZ cJ cA h0 a r8 r9 x10 x11 x12 x13 x14 x15 (upd f0 (Int32.toNatClampNeg x13) v2) (upd f1 (Int32.toNatClampNeg x13) v1) (upd f2 (Int32.toNatClampNeg x13) 0) (upd f3 (Int32.toNatClampNeg x13) 0) f4 f5 f6 f7 V8 V9) H := hP
                replace hD : va_D A (wX2 cI cZ cJ cA h0 a r8 r9 x10 x11 x12 x13 x14 x15 (upd f0 (Int32.toNatClampNeg x13) v2) (upd f1 (Int32.toNatClampNeg x13) v1) (upd f2 (Int32.toNatClampNeg x13) 0) (upd f3 (Int32.toNatClampNeg x13) 0) f4 f5 f6 f7 V8 V9) := hD
                refine lv_aload_n hx hb dX2_addChariot_88 rfl (lv_at hl 0 rfl) ?_
                refine va_get (D := (dC, dI)) (ci := 2) (v := .ref (a 4)) (C := RX2) (T := TX2) (N := 16) hx hb hts (fun w hw => List.mem_cons_of_mem _ (List.mem_append_right _ hw)) hown hK hP 0 rfl rfl 4 (by decide) (hts (.fieldLink RX2 24 "OldStadium$Hippodrome" "state" "[I") (List.mem_of_getElem? (i := 8) rfl)) (fun _ h9 => h9) rfl dX2_addChariot_89 ?_
                refine lv_aload_n hx hb dX2_addChariot_92 rfl (lv_at hl 0 rfl) ?_
                refine va_get (D := (dC, dI)) (ci := 2) (v := .int x13) (C := RX2) (T := TX2) (N := 16) hx hb hts (fun w hw => List.mem_cons_of_mem _ (List.mem_append_right _ hw)) hown hK hP 0 rfl rfl 13 (by decide) (hts (.fieldLink RX2 54 "OldStadium$Hippodrome" "chariots" "I") (List.mem_of_getElem? (i := 2) rfl)) (fun _ h9 => h9) rfl dX2_addChariot_93 ?_
                refine lv_iconst (v := 0) hx hb dX2_addChariot_96 (by decide) ?_
                refine va_iast hx hb hK hP hD hS 5 0 rfl rfl b9 dX2_addChariot_97 (fun H locs hP hD hS => ?_)
                replace hP : va_P (dC, dI) vwCl (wX2 cI cZ cJ cA h0 a r8 r9 x10 x11 x12 x13 x14 x15 (upd f0 (Int32.toNatClampNeg x13) v2) (upd f1 (Int32.toNatClampNeg x13) v1) (upd f2 (Int32.toNatClampNeg x13) 0) (upd f3 (Int32.toNatClampNeg x13) 0) (upd f4 (Int32.toNatClampNeg x13) 0) f5 f6 f7 V8 V9) H := hP
                replace hD : va_D A (wX2 cI cZ cJ cA h0 a r8 r9 x10 x11 x12 x13 x14 x15 (upd f0 (Int32.toNatClampNeg x13) v2) (upd f1 (Int32.toNatClampNeg x13) v1) (upd f2 (Int32.toNatClampNeg x13) 0) (upd f3 (Int32.toNatClampNeg x13) 0) (upd f4 (Int32.toNatClampNeg x13) 0) f5 f6 f7 V8 V9) := hD
                refine lv_aload_n hx hb dX2_addChariot_98 rfl (lv_at hl 0 rfl) ?_
                refine va_get (D := (dC, dI)) (ci := 2) (v := .ref (a 5)) (C := RX2) (T := TX2) (N := 16) hx hb hts (fun w hw => List.mem_cons_of_mem _ (List.mem_append_right _ hw)) hown hK hP 0 rfl rfl 5 (by decide) (hts (.fieldLink RX2 27 "OldStadium$Hippodrome" "endTick" "[I") (List.mem_of_getElem? (i := 9) rfl)) (fun _ h9 => h9) rfl dX2_addChariot_99 ?_
                refine lv_aload_n hx hb dX2_addChariot_102 rfl (lv_at hl 0 rfl) ?_
                refine va_get (D := (dC, dI)) (ci := 2) (v := .int x13) (C := RX2) (T := TX2) (N := 16) hx hb hts (fun w hw => List.mem_cons_of_mem _ (List.mem_append_right _ hw)) hown hK hP 0 rfl rfl 13 (by decide) (hts (.fieldLink RX2 54 "OldStadium$Hippodrome" "chariots" "I") (List.mem_of_getElem? (i := 2) rfl)) (fun _ h9 => h9) rfl dX2_addChariot_103 ?_
                refine lv_iconst (v := 0) hx hb dX2_addChariot_106 (by decide) ?_
                refine va_iast hx hb hK hP hD hS 6 0 rfl rfl b9 dX2_addChariot_107 (fun H locs hP hD hS => ?_)
                replace hP : va_P (dC, dI) vwCl (wX2 cI cZ cJ cA h0 a r8 r9 x10 x11 x12 x13 x14 x15 (upd f0 (Int32.toNatClampNeg x13) v2) (upd f1 (Int32.toNatClampNeg x13) v1) (upd f2 (Int32.toNatClampNeg x13) 0) (upd f3 (Int32.toNatClampNeg x13) 0) (upd f4 (Int32.toNatClampNeg x13) 0) (upd f5 (Int32.toNatClampNeg x13) 0) f6 f7 V8 V9) H := hP
                replace hD : va_D A (wX2 cI cZ cJ cA h0 a r8 r9 x10 x11 x12 x13 x14 x15 (upd f0 (Int32.toNatClampNeg x13) v2) (upd f1 (Int32.toNatClampNeg x13) v1) (upd f2 (Int32.toNatClampNeg x13) 0) (upd f3 (Int32.toNatClampNeg x13) 0) (upd f4 (Int32.toNatClampNeg x13) 0) (upd f5 (Int32.toNatClampNeg x13) 0) f6 f7 V8 V9) := hD
                refine lv_aload_n hx hb dX2_addChariot_108 rfl (lv_at hl 0 rfl) ?_
                refine va_get (D := (dC, dI)) (ci := 2) (v := .ref (a 6)) (C := RX2) (T := TX2) (N := 16) hx hb hts (fun w hw => List.mem_cons_of_mem _ (List.mem_append_right _ hw)) hown hK hP 0 rfl rfl 6 (by decide) (hts (.fieldLink RX2 30 "OldStadium$Hippodrome" "place" "[I") (List.mem_of_getElem? (i := 10) rfl)) (fun _ h9 => h9) rfl dX2_addChariot_109 ?_
                refine lv_aload_n hx hb dX2_addChariot_112 rfl (lv_at hl 0 rfl) ?_
                refine va_get (D := (dC, dI)) (ci := 2) (v := .int x13) (C := RX2) (T := TX2) (N := 16) hx hb hts (fun w hw => List.mem_cons_of_mem _ (List.mem_append_right _ hw)) hown hK hP 0 rfl rfl 13 (by decide) (hts (.fieldLink RX2 54 "OldStadium$Hippodrome" "chariots" "I") (List.mem_of_getElem? (i := 2) rfl)) (fun _ h9 => h9) rfl dX2_addChariot_113 ?_
                refine lv_iconst (v := 0) hx hb dX2_addChariot_116 (by decide) ?_
                refine va_iast hx hb hK hP hD hS 7 0 rfl rfl b9 dX2_addChariot_117 (fun H locs hP hD hS => ?_)
                replace hP : va_P (dC, dI) vwCl (wX2 cI cZ cJ cA h0 a r8 r9 x10 x11 x12 x13 x14 x15 (upd f0 (Int32.toNatClampNeg x13) v2) (upd f1 (Int32.toNatClampNeg x13) v1) (upd f2 (Int32.toNatClampNeg x13) 0) (upd f3 (Int32.toNatClampNeg x13) 0) (upd f4 (Int32.toNatClampNeg x13) 0) (upd f5 (Int32.toNatClampNeg x13) 0) (upd f6 (Int32.toNatClampNeg x13) 0) f7 V8 V9) H := hP
                replace hD : va_D A (wX2 cI cZ cJ cA h0 a r8 r9 x10 x11 x12 x13 x14 x15 (upd f0 (Int32.toNatClampNeg x13) v2) (upd f1 (Int32.toNatClampNeg x13) v1) (upd f2 (Int32.toNatClampNeg x13) 0) (upd f3 (Int32.toNatClampNeg x13) 0) (upd f4 (Int32.toNatClampNeg x13) 0) (upd f5 (Int32.toNatClampNeg x13) 0) (upd f6 (Int32.toNatClampNeg x13) 0) f7 V8 V9) := hD
                refine lv_aload_n hx hb dX2_addChariot_118 rfl (lv_at hl 0 rfl) ?_
                refine va_get (D := (dC, dI)) (ci := 2) (v := .ref (a 7)) (C := RX2) (T := TX2) (N := 16) hx hb hts (fun w hw => List.mem_cons_of_mem _ (List.mem_append_right _ hw)) hown hK hP 0 rfl rfl 7 (by decide) (hts (.fieldLink RX2 33 "OldStadium$Hippodrome" "acts" "[I") (List.mem_of_getElem? (i := 11) rfl)) (fun _ h9 => h9) rfl dX2_addChariot_119 ?_
                refine lv_aload_n hx hb dX2_addChariot_122 rfl (lv_at hl 0 rfl) ?_
                refine va_get (D := (dC, dI)) (ci := 2) (v := .int x13) (C := RX2) (T := TX2) (N := 16) hx hb hts (fun w hw => List.mem_cons_of_mem _ (List.mem_append_right _ hw)) hown hK hP 0 rfl rfl 13 (by decide) (hts (.fieldLink RX2 54 "OldStadium$Hippodrome" "chariots" "I") (List.mem_of_getElem? (i := 2) rfl)) (fun _ h9 => h9) rfl dX2_addChariot_123 ?_
                refine lv_iconst (v := 0) hx hb dX2_addChariot_126 (by decide) ?_
                refine va_iast hx hb hK hP hD hS 8 0 rfl rfl b9 dX2_addChariot_127 (fun H locs hP hD hS => ?_)
                replace hP : va_P (dC, dI) vwCl (wX2 cI cZ cJ cA h0 a r8 r9 x10 x11 x12 x13 x14 x15 (upd f0 (Int32.toNatClampNeg x13) v2) (upd f1 (Int32.toNatClampNeg x13) v1) (upd f2 (Int32.toNatClampNeg x13) 0) (upd f3 (Int32.toNatClampNeg x13) 0) (upd f4 (Int32.toNatClampNeg x13) 0) (upd f5 (Int32.toNatClampNeg x13) 0) (upd f6 (Int32.toNatClampNeg x13) 0) (upd f7 (Int32.toNatClampNeg x13) 0) V8 V9) H := hP
                replace hD : va_D A (wX2 cI cZ cJ cA h0 a r8 r9 x10 x11 x12 x13 x14 x15 (upd f0 (Int32.toNatClampNeg x13) v2) (upd f1 (Int32.toNatClampNeg x13) v1) (upd f2 (Int32.toNatClampNeg x13) 0) (upd f3 (Int32.toNatClampNeg x13) 0) (upd f4 (Int32.toNatClampNeg x13) 0) (upd f5 (Int32.toNatClampNeg x13) 0) (upd f6 (Int32.toNatClampNeg x13) 0) (upd f7 (Int32.toNatClampNeg x13) 0) V8 V9) := hD
                refine lv_aload_n hx hb dX2_addChariot_128 rfl (lv_at hl 0 rfl) ?_
                refine lv_dup hx hb dX2_addChariot_129 rfl ?_
                refine va_get (D := (dC, dI)) (ci := 2) (v := .int x13) (C := RX2) (T := TX2) (N := 16) hx hb hts (fun w hw => List.mem_cons_of_mem _ (List.mem_append_right _ hw)) hown hK hP 0 rfl rfl 13 (by decide) (hts (.fieldLink RX2 54 "OldStadium$Hippodrome" "chariots" "I") (List.mem_of_getElem? (i := 2) rfl)) (fun _ h9 => h9) rfl dX2_addChariot_130 ?_
                refine lv_dup_x1 hx hb dX2_addChariot_133 rfl rfl ?_
                refine lv_iconst (v := 1) hx hb dX2_addChariot_134 (by decide) ?_
                refine lv_iadd hx hb dX2_addChariot_135 ?_
                refine va_put (D := (dC, dI)) (ci := 2) (v := .int (x13 + 1)) (ty := .int) (C := RX2) (T := TX2) (N := 16) hx hb hts (fun w hw => List.mem_cons_of_mem _ (List.mem_append_right _ hw)) tyX2 tyX2_ok nmX2 hown hK hP hD hS 0 rfl rfl 13 (by decide) (hts (.fieldLink RX2 54 "OldStadium$Hippodrome" "chariots" "I") (List.mem_of_getElem? (i := 2) rfl)) (fun _ h9 => h9) rfl (by decide +kernel) rfl rfl (Nat.le_of_ble_eq_true rfl) dX2_addChariot_136 (fun H locs hP hD hS => ?_)
                replace hP : va_P (dC, dI) vwCl (wX2 cI cZ cJ cA h0 a r8 r9 x10 x11 x12 (x13 + 1) x14 x15 (upd f0 (Int32.toNatClampNeg x13) v2) (upd f1 (Int32.toNatClampNeg x13) v1) (upd f2 (Int32.toNatClampNeg x13) 0) (upd f3 (Int32.toNatClampNeg x13) 0) (upd f4 (Int32.toNatClampNeg x13) 0) (upd f5 (Int32.toNatClampNeg x13) 0) (upd f6 (Int32.toNatClampNeg x13) 0) (upd f7 (Int32.toNatClampNeg x13) 0) V8 V9) H := hP
                replace hD : va_D A (wX2 cI cZ cJ cA h0 a r8 r9 x10 x11 x12 (x13 + 1) x14 x15 (upd f0 (Int32.toNatClampNeg x13) v2) (upd f1 (Int32.toNatClampNeg x13) v1) (upd f2 (Int32.toNatClampNeg x13) 0) (upd f3 (Int32.toNatClampNeg x13) 0) (upd f4 (Int32.toNatClampNeg x13) 0) (upd f5 (Int32.toNatClampNeg x13) 0) (upd f6 (Int32.toNatClampNeg x13) 0) (upd f7 (Int32.toNatClampNeg x13) 0) V8 V9) := hD
                obtain rfl := Option.some.inj hf
                exact hret _ _ _ _ _ dX2_addChariot_139 rfl hP hD hS
              · replace hf := z_im hf c8
                refine lv_iconst (v := (-1)) hx hb dX2_addChariot_46 (by decide) ?_
                obtain rfl := Option.some.inj hf
                exact hret _ _ _ _ _ dX2_addChariot_47 rfl hP hD hS
set_option maxHeartbeats 4000000 in
set_option maxRecDepth 100000 in
theorem k_X2_addChariot (l : Launch) (dC : Nat → ClassId) (dI : Nat → Nat → Nat) (cI cZ cJ cA : ClassId) (h0 : Nat) (a : Nat → Nat) (r8 : Nat → Nat) (r9 : Nat → Nat) (sz : Nat) (N : Nat) (v1 : Int32) (v2 : Int32) (x10 : Int32) (x11 : Int32) (x12 : Int32) (x13 : Int32) (x14 : Int32) (x15 : Int32) (f0 : (Nat → Int32)) (f1 : (Nat → Int32)) (f2 : (Nat → Int32)) (f3 : (Nat → Int32)) (f4 : (Nat → Int32)) (f5 : (Nat → Int32)) (f6 : (Nat → Int32)) (f7 : (Nat → Int32)) (V8 : (Nat → Nat → Int32)) (V9 : (Nat → Nat → Int32)) (o : (Int32 × Int32 × (Nat → Int32) × (Nat → Int32) × (Nat → Int32) × (Nat → Int32) × (Nat → Int32) × (Nat → Int32) × (Nat → Int32) × (Nat → Int32))) (hf : q_X2_addChariot N v1 v2 x10 x13 x14 f0 f1 f2 f3 f4 f5 f6 f7 = some o) : Met l yX2_addChariot wsX2_addChariot ({ frames := 1, cells := 0, slots := 0, locals := 22 } : Room) (z_Pre dC dI (z_ty cI cZ cJ cA) [.ref h0, .int v1, .int v2] sz (wX2 cI cZ cJ cA h0 a r8 r9 x10 x11 x12 x13 x14 x15 f0 f1 f2 f3 f4 f5 f6 f7 V8 V9)) (z_Pi dC dI o.1 (wX2 cI cZ cJ cA h0 a r8 r9 x10 x11 x12 o.2.1 x14 x15 o.2.2.1 o.2.2.2.1 o.2.2.2.2.1 o.2.2.2.2.2.1 o.2.2.2.2.2.2.1 o.2.2.2.2.2.2.2.1 o.2.2.2.2.2.2.2.2.1 o.2.2.2.2.2.2.2.2.2 V8 V9) sz (wX2 cI cZ cJ cA h0 a r8 r9 x10 x11 x12 x13 x14 x15 f0 f1 f2 f3 f4 f5 f6 f7 V8 V9)) 0 0 (va_A (wX2 cI cZ cJ cA h0 a r8 r9 x10 x11 x12 x13 x14 x15 f0 f1 f2 f3 f4 f5 f6 f7 V8 V9) sz) := by
  refine Met.ofW (cc := cX2_addChariot) (maxL := 3) (ret := (some .int)) (by decide) rfl ?_
  intro p e s m args below meth c s₁ B hml hv
  obtain ⟨rfl, hsz, hP, hK, hD0, hN⟩ := hv
  subst hsz
  have hl := lv_entry ([.ref h0, .int v1, .int v2]) (n := 3) (Nat.le_of_ble_eq_true rfl)
  rw [lg_entry_eq]
  refine b_X2_addChariot N ⟨⟨B.exec, B.bytes, hml, findClass_of_methodNamed B.named, atoms_spec (ws := wsX2_addChariot) B.pre⟩, Nat.le_refl _, Nat.le_refl _, fun q h => Or.inr h, hN, hK⟩ hf hP hD0.self va_S.rf hl (fun pc H locs ls r hd hr hP hD hS => ?_)
  subst hr
  exact W.iret B.exec B.bytes B.returns (fun t ht hW => ⟨⟨_, (), rfl, rfl, by rw [ht]; exact hP, hD⟩, hS.F ht⟩) hS.2.2 hd
def q_X2_isChariot (N : Nat) (v1 : Int32) (x13 : Int32) : Option Int32 :=
  (if v1 < 0 then
   (some 0)
  else
   (if x13 ≤ v1 then
    (some 0)
   else
    (some 1)))
set_option maxHeartbeats 4000000 in
set_option maxRecDepth 100000 in
theorem b_X2_isChariot {p : Program} {l : Launch} {e : Env} {R : Room} {s : State} {m : MethodId} {args : Array Value} {below : List Frame} {meth : Method} {c : Code} {Q : State → Prop} {A : Nat → Prop} {dC : Nat → ClassId} {dI : Nat → Nat → Nat} {cI cZ cJ cA : ClassId} {h0 : Nat} {a : Nat → Nat} {r8 : Nat → Nat} {r9 : Nat → Nat} (N : Nat) (C0 : z_Cx p s m args c cX2_isChariot 2 wsX2_isChariot RX2 R 0 0 A dC dI (z_ty cI cZ cJ cA)) {v1 : Int32} {x10 : Int32} {x11 : Int32} {x12 : Int32} {x13 : Int32} {x14 : Int32} {x15 : Int32} {f0 : (Nat → Int32)} {f1 : (Nat → Int32)} {f2 : (Nat → Int32)} {f3 : (Nat → Int32)} {f4 : (Nat → Int32)} {f5 : (Nat → Int32)} {f6 : (Nat → Int32)} {f7 : (Nat → Int32)} {V8 : (Nat → Nat → Int32)} {V9 : (Nat → Nat → Int32)} {o : Int32} {H : Heap} {locs : List Loc} {ls : Array Slot} (hf : q_X2_isChariot N v1 x13 = some o) (hP : va_P (dC, dI) vwCl (wX2 cI cZ cJ cA h0 a r8 r9 x10 x11 x12 x13 x14 x15 f0 f1 f2 f3 f4 f5 f6 f7 V8 V9) H) (hD : va_D A (wX2 cI cZ cJ cA h0 a r8 r9 x10 x11 x12 x13 x14 x15 f0 f1 f2 f3 f4 f5 f6 f7 V8 V9)) (hS : va_S A s.heap H locs) (hl : lv_has ls 2 [(0, .ref h0), (1, .int v1)])
    (hret : ∀ (pc : Nat) (H : Heap) (locs : List Loc) (ls : Array Slot) (r : Int32), decode cX2_isChariot pc = .ok (.ireturn, 1) → r = o → narrow .boolean (.int r) = .int r → va_P (dC, dI) vwCl (wX2 cI cZ cJ cA h0 a r8 r9 x10 x11 x12 x13 x14 x15 f0 f1 f2 f3 f4 f5 f6 f7 V8 V9) H → va_D A (wX2 cI cZ cJ cA h0 a r8 r9 x10 x11 x12 x13 x14 x15 f0 f1 f2 f3 f4 f5 f6 f7 V8 V9) → va_S A s.heap H locs → W p l e R s m args below meth c H locs 0 0 Q (F0 m pc ls [.int r])) :
    W p l e R s m args below meth c H locs 0 0 Q (F0 m 0 ls []) := by
  obtain ⟨⟨hx, hb, hml, hown, hts⟩, hRf, hRl, hA, hN, hK⟩ := C0
  unfold q_X2_isChariot at hf
  refine lv_iload_n hx hb dX2_isChariot_0 rfl (lv_at hl 1 rfl) ?_
  refine lv_if_lt (tgt := 16) hx hb dX2_isChariot_1 (by decide) (fun c1 => ?_) (fun c1 => ?_)
  · replace hf := z_ip hf c1
    refine lv_iconst (v := 0) hx hb dX2_isChariot_16 (by decide) ?_
    obtain rfl := Option.some.inj hf
    exact hret _ _ _ _ _ dX2_isChariot_17 rfl rfl hP hD hS
  · replace hf := z_im hf c1
    refine lv_iload_n hx hb dX2_isChariot_4 rfl (lv_at hl 1 rfl) ?_
    refine lv_aload_n hx hb dX2_isChariot_5 rfl (lv_at hl 0 rfl) ?_
    refine va_get (D := (dC, dI)) (ci := 2) (v := .int x13) (C := RX2) (T := TX2) (N := 16) hx hb hts (fun w hw => List.mem_cons_of_mem _ (List.mem_append_right _ hw)) hown hK hP 0 rfl rfl 13 (by decide) (hts (.fieldLink RX2 54 "OldStadium$Hippodrome" "chariots" "I") (List.mem_of_getElem? (i := 1) rfl)) (fun _ h9 => h9) rfl dX2_isChariot_6 ?_
    refine lv_icmp_ge (tgt := 16) hx hb dX2_isChariot_9 (by decide) (fun c2 => ?_) (fun c2 => ?_)
    · replace hf := z_ip hf c2
      refine lv_iconst (v := 0) hx hb dX2_isChariot_16 (by decide) ?_
      obtain rfl := Option.some.inj hf
      exact hret _ _ _ _ _ dX2_isChariot_17 rfl rfl hP hD hS
    · replace hf := z_im hf c2
      refine lv_iconst (v := 1) hx hb dX2_isChariot_12 (by decide) ?_
      refine lv_goto (tgt := 17) hx hb dX2_isChariot_13 (by decide) ?_
      obtain rfl := Option.some.inj hf
      exact hret _ _ _ _ _ dX2_isChariot_17 rfl rfl hP hD hS
set_option maxHeartbeats 4000000 in
set_option maxRecDepth 100000 in
theorem k_X2_isChariot (l : Launch) (dC : Nat → ClassId) (dI : Nat → Nat → Nat) (cI cZ cJ cA : ClassId) (h0 : Nat) (a : Nat → Nat) (r8 : Nat → Nat) (r9 : Nat → Nat) (sz : Nat) (N : Nat) (v1 : Int32) (x10 : Int32) (x11 : Int32) (x12 : Int32) (x13 : Int32) (x14 : Int32) (x15 : Int32) (f0 : (Nat → Int32)) (f1 : (Nat → Int32)) (f2 : (Nat → Int32)) (f3 : (Nat → Int32)) (f4 : (Nat → Int32)) (f5 : (Nat → Int32)) (f6 : (Nat → Int32)) (f7 : (Nat → Int32)) (V8 : (Nat → Nat → Int32)) (V9 : (Nat → Nat → Int32)) (o : Int32) (hf : q_X2_isChariot N v1 x13 = some o) : Met l yX2_isChariot wsX2_isChariot ({ frames := 0, cells := 0, slots := 0, locals := 0 } : Room) (z_Pre dC dI (z_ty cI cZ cJ cA) [.ref h0, .int v1] sz (wX2 cI cZ cJ cA h0 a r8 r9 x10 x11 x12 x13 x14 x15 f0 f1 f2 f3 f4 f5 f6 f7 V8 V9)) (z_Pi dC dI o (wX2 cI cZ cJ cA h0 a r8 r9 x10 x11 x12 x13 x14 x15 f0 f1 f2 f3 f4 f5 f6 f7 V8 V9) sz (wX2 cI cZ cJ cA h0 a r8 r9 x10 x11 x12 x13 x14 x15 f0 f1 f2 f3 f4 f5 f6 f7 V8 V9)) 0 0 (va_A (wX2 cI cZ cJ cA h0 a r8 r9 x10 x11 x12 x13 x14 x15 f0 f1 f2 f3 f4 f5 f6 f7 V8 V9) sz) := by
  refine Met.ofW (cc := cX2_isChariot) (maxL := 2) (ret := (some .boolean)) (by decide) rfl ?_
  intro p e s m args below meth c s₁ B hml hv
  obtain ⟨rfl, hsz, hP, hK, hD0, hN⟩ := hv
  subst hsz
  have hl := lv_entry ([.ref h0, .int v1]) (n := 2) (Nat.le_of_ble_eq_true rfl)
  rw [lg_entry_eq]
  refine b_X2_isChariot N ⟨⟨B.exec, B.bytes, hml, findClass_of_methodNamed B.named, atoms_spec (ws := wsX2_isChariot) B.pre⟩, Nat.le_refl _, Nat.le_refl _, fun q h => Or.inr h, hN, hK⟩ hf hP hD0.self va_S.rf hl (fun pc H locs ls r hd hr hn hP hD hS => ?_)
  subst hr
  exact W.zret B.exec B.bytes B.returns hn (fun t ht hW => ⟨⟨_, (), rfl, rfl, by rw [ht]; exact hP, hD⟩, hS.F ht⟩) hS.2.2 hd
def q_X2_addAct (N : Nat) (v1 : Int32) (v2 : Int32) (v3 : Int32) (x13 : Int32) (x14 : Int32) (f7 : (Nat → Int32)) (V8 : (Nat → Nat → Int32)) (V9 : (Nat → Nat → Int32)) : Option (Int32 × (Nat → Int32) × (Nat → Nat → Int32) × (Nat → Nat → Int32)) :=
  (Option.bind (q_X2_isChariot N v1 x13) (fun o1 =>
  (if o1 = 0 then
   (some ((-1), f7, V8, V9))
  else
   (if v2 < 0 then
    (some ((-1), f7, V8, V9))
   else
    (if 4 < v2 then
     (some ((-1), f7, V8, V9))
    else
     (if v3 < (-1) then
      (some ((-1), f7, V8, V9))
     else
      (if 1 < v3 then
       (some ((-1), f7, V8, V9))
      else
       (if z_in v1 8 then
       (if 12 ≤ (f7 (Int32.toNatClampNeg v1)) then
        (some ((-1), f7, V8, V9))
       else
        (if x14 = 0 then
         (if z_in (f7 (Int32.toNatClampNeg v1)) 12 then
         (some (((upd f7 (Int32.toNatClampNeg v1) ((f7 (Int32.toNatClampNeg v1)) + 1)) (Int32.toNatClampNeg v1)), (upd f7 (Int32.toNatClampNeg v1) ((f7 (Int32.toNatClampNeg v1)) + 1)), (z_up2 V8 (Int32.toNatClampNeg v1) (Int32.toNatClampNeg (f7 (Int32.toNatClampNeg v1))) v2), (z_up2 V9 (Int32.toNatClampNeg v1) (Int32.toNatClampNeg (f7 (Int32.toNatClampNeg v1))) v3)))
         else none)
        else
         (some ((-1), f7, V8, V9))))
       else none))))))))
set_option maxHeartbeats 4000000 in
set_option maxRecDepth 100000 in
theorem b_X2_addAct {p : Program} {l : Launch} {e : Env} {R : Room} {s : State} {m : MethodId} {args : Array Value} {below : List Frame} {meth : Method} {c : Code} {Q : State → Prop} {A : Nat → Prop} {dC : Nat → ClassId} {dI : Nat → Nat → Nat} {cI cZ cJ cA : ClassId} {h0 : Nat} {a : Nat → Nat} {r8 : Nat → Nat} {r9 : Nat → Nat} (N : Nat) (C0 : z_Cx p s m args c cX2_addAct 4 wsX2_addAct RX2 R 1 21 A dC dI (z_ty cI cZ cJ cA)) {v1 : Int32} {v2 : Int32} {v3 : Int32} {x10 : Int32} {x11 : Int32} {x12 : Int32} {x13 : Int32} {x14 : Int32} {x15 : Int32} {f0 : (Nat → Int32)} {f1 : (Nat → Int32)} {f2 : (Nat → Int32)} {f3 : (Nat → Int32)} {f4 : (Nat → Int32)} {f5 : (Nat → Int32)} {f6 : (Nat → Int32)} {f7 : (Nat → Int32)} {V8 : (Nat → Nat → Int32)} {V9 : (Nat → Nat → Int32)} {o : (Int32 × (Nat → Int32) × (Nat → Nat → Int32) × (Nat → Nat → Int32))} {H : Heap} {locs : List Loc} {ls : Array Slot} (hf : q_X2_addAct N v1 v2 v3 x13 x14 f7 V8 V9 = some o) (hP : va_P (dC, dI) vwCl (wX2 cI cZ cJ cA h0 a r8 r9 x10 x11 x12 x13 x14 x15 f0 f1 f2 f3 f4 f5 f6 f7 V8 V9) H) (hD : va_D A (wX2 cI cZ cJ cA h0 a r8 r9 x10 x11 x12 x13 x14 x15 f0 f1 f2 f3 f4 f5 f6 f7 V8 V9)) (hS : va_S A s.heap H locs) (hl : lv_has ls 4 [(0, .ref h0), (1, .int v1), (2, .int v2), (3, .int v3)])
    (hret : ∀ (pc : Nat) (H : Heap) (locs : List Loc) (ls : Array Slot) (r : Int32), decode cX2_addAct pc = .ok (.ireturn, 1) → r = o.1 → va_P (dC, dI) vwCl (wX2 cI cZ cJ cA h0 a r8 r9 x10 x11 x12 x13 x14 x15 f0 f1 f2 f3 f4 f5 f6 o.2.1 o.2.2.1 o.2.2.2) H → va_D A (wX2 cI cZ cJ cA h0 a r8 r9 x10 x11 x12 x13 x14 x15 f0 f1 f2 f3 f4 f5 f6 o.2.1 o.2.2.1 o.2.2.2) → va_S A s.heap H locs → W p l e R s m args below meth c H locs 0 0 Q (F0 m pc ls [.int r])) :
    W p l e R s m args below meth c H locs 0 0 Q (F0 m 0 ls []) := by
  obtain ⟨⟨hx, hb, hml, hown, hts⟩, hRf, hRl, hA, hN, hK⟩ := C0
  unfold q_X2_addAct at hf
  refine lv_aload_n hx hb dX2_addAct_0 rfl (lv_at hl 0 rfl) ?_
  refine lv_iload_n hx hb dX2_addAct_1 rfl (lv_at hl 1 rfl) ?_
  obtain ⟨o1, ho1, hf1⟩ := z_ib hf
  replace hf := hf1
  clear hf1
  refine z_Vi (As := [.int v1]) (rest := []) (w := (wX2 cI cZ cJ cA h0 a r8 r9 x10 x11 x12 x13 x14 x15 f0 f1 f2 f3 f4 f5 f6 f7 V8 V9)) (w1 := (wX2 cI cZ cJ cA h0 a r8 r9 x10 x11 x12 x13 x14 x15 f0 f1 f2 f3 f4 f5 f6 f7 V8 V9)) ⟨hx, hb, hml, hown, hts⟩ (k_X2_isChariot l dC dI cI cZ cJ cA h0 a r8 r9 H.size N v1 x10 x11 x12 x13 x14 x15 f0 f1 f2 f3 f4 f5 f6 f7 V8 V9 o1 ho1) (cwV 1 hts gX2_addAct_X2_isChariot rfl rfl rfl (by decide +kernel) ⟨Nat.le_trans (Nat.le_of_ble_eq_true rfl) hRf, Nat.le_trans (Nat.le_of_ble_eq_true rfl) hRl⟩) hK hP hD hS hA hN (ci := 2) rfl rfl rfl rfl hl.1 rfl (Nat.le_of_ble_eq_true rfl) dX2_addAct_2 (fun H locs hP hD hS => ?_)
  refine lv_if_eq (tgt := 45) hx hb dX2_addAct_5 (by decide) (fun c2 => ?_) (fun c2 => ?_)
  · replace hf := z_ip hf c2
    refine lv_iconst (v := (-1)) hx hb dX2_addAct_45 (by decide) ?_
    obtain rfl := Option.some.inj hf
    exact hret _ _ _ _ _ dX2_addAct_46 rfl hP hD hS
  · replace hf := z_im hf c2
    refine lv_iload_n hx hb dX2_addAct_8 rfl (lv_at hl 2 rfl) ?_
    refine lv_if_lt (tgt := 45) hx hb dX2_addAct_9 (by decide) (fun c3 => ?_) (fun c3 => ?_)
    · replace hf := z_ip hf c3
      refine lv_iconst (v := (-1)) hx hb dX2_addAct_45 (by decide) ?_
      obtain rfl := Option.some.inj hf
      exact hret _ _ _ _ _ dX2_addAct_46 rfl hP hD hS
    · replace hf := z_im hf c3
      refine lv_iload_n hx hb dX2_addAct_12 rfl (lv_at hl 2 rfl) ?_
      refine lv_iconst (v := 4) hx hb dX2_addAct_13 (by decide) ?_
      refine lv_icmp_gt (tgt := 45) hx hb dX2_addAct_14 (by decide) (fun c4 => ?_) (fun c4 => ?_)
      · replace hf := z_ip hf c4
        refine lv_iconst (v := (-1)) hx hb dX2_addAct_45 (by decide) ?_
        obtain rfl := Option.some.inj hf
        exact hret _ _ _ _ _ dX2_addAct_46 rfl hP hD hS
      · replace hf := z_im hf c4
        refine lv_iload_n hx hb dX2_addAct_17 rfl (lv_at hl 3 rfl) ?_
        refine lv_iconst (v := (-1)) hx hb dX2_addAct_18 (by decide) ?_
        refine lv_icmp_lt (tgt := 45) hx hb dX2_addAct_19 (by decide) (fun c5 => ?_) (fun c5 => ?_)
        · replace hf := z_ip hf c5
          refine lv_iconst (v := (-1)) hx hb dX2_addAct_45 (by decide) ?_
          obtain rfl := Option.some.inj hf
          exact hret _ _ _ _ _ dX2_addAct_46 rfl hP hD hS
        · replace hf := z_im hf c5
          refine lv_iload_n hx hb dX2_addAct_22 rfl (lv_at hl 3 rfl) ?_
          refine lv_iconst (v := 1) hx hb dX2_addAct_23 (by decide) ?_
          refine lv_icmp_gt (tgt := 45) hx hb dX2_addAct_24 (by decide) (fun c6 => ?_) (fun c6 => ?_)
          · replace hf := z_ip hf c6
            refine lv_iconst (v := (-1)) hx hb dX2_addAct_45 (by decide) ?_
            obtain rfl := Option.some.inj hf
            exact hret _ _ _ _ _ dX2_addAct_46 rfl hP hD hS
          · replace hf := z_im hf c6
            refine lv_aload_n hx hb dX2_addAct_27 rfl (lv_at hl 0 rfl) ?_
            refine va_get (D := (dC, dI)) (ci := 2) (v := .ref (a 7)) (C := RX2) (T := TX2) (N := 16) hx hb hts (fun w hw => List.mem_cons_of_mem _ (List.mem_append_right _ hw)) hown hK hP 0 rfl rfl 7 (by decide) (hts (.fieldLink RX2 33 "OldStadium$Hippodrome" "acts" "[I") (List.mem_of_getElem? (i := 1) rfl)) (fun _ h9 => h9) rfl dX2_addAct_28 ?_
            refine lv_iload_n hx hb dX2_addAct_31 rfl (lv_at hl 1 rfl) ?_
            have b7 := z_c1 hf
            replace hf := z_c2 hf
            refine va_iald hx hb hK hP 8 0 rfl rfl b7 dX2_addAct_32 ?_
            refine lv_bipush (v := 12) hx hb dX2_addAct_33 (by decide) ?_
            refine lv_icmp_ge (tgt := 45) hx hb dX2_addAct_35 (by decide) (fun c8 => ?_) (fun c8 => ?_)
            · replace hf := z_ip hf c8
              refine lv_iconst (v := (-1)) hx hb dX2_addAct_45 (by decide) ?_
              obtain rfl := Option.some.inj hf
              exact hret _ _ _ _ _ dX2_addAct_46 rfl hP hD hS
            · replace hf := z_im hf c8
              refine lv_aload_n hx hb dX2_addAct_38 rfl (lv_at hl 0 rfl) ?_
              refine va_get (D := (dC, dI)) (ci := 2) (v := .int x14) (C := RX2) (T := TX2) (N := 16) hx hb hts (fun w hw => List.mem_cons_of_mem _ (List.mem_append_right _ hw)) hown hK hP 0 rfl rfl 14 (by decide) (hts (.fieldLink RX2 57 "OldStadium$Hippodrome" "tick" "I") (List.mem_of_getElem? (i := 2) rfl)) (fun _ h9 => h9) rfl dX2_addAct_39 ?_
              refine lv_if_eq (tgt := 47) hx hb dX2_addAct_42 (by decide) (fun c9 => ?_) (fun c9 => ?_)
              · replace hf := z_ip hf c9
                refine lv_aload_n hx hb dX2_addAct_47 rfl (lv_at hl 0 rfl) ?_
                refine va_get (D := (dC, dI)) (ci := 2) (v := .ref (a 8)) (C := RX2) (T := TX2) (N := 16) hx hb hts (fun w hw => List.mem_cons_of_mem _ (List.mem_append_right _ hw)) hown hK hP 0 rfl rfl 8 (by decide) (hts (.fieldLink RX2 38 "OldStadium$Hippodrome" "forward" "[[I") (List.mem_of_getElem? (i := 3) rfl)) (fun _ h9 => h9) rfl dX2_addAct_48 ?_
                refine lv_iload_n hx hb dX2_addAct_51 rfl (lv_at hl 1 rfl) ?_
                refine z_aald (H0 := s.heap) hx hb hK hP 9 3 rfl rfl b7 dX2_addAct_52 ?_
                refine lv_aload_n hx hb dX2_addAct_53 rfl (lv_at hl 0 rfl) ?_
                refine va_get (D := (dC, dI)) (ci := 2) (v := .ref (a 7)) (C := RX2) (T := TX2) (N := 16) hx hb hts (fun w hw => List.mem_cons_of_mem _ (List.mem_append_right _ hw)) hown hK hP 0 rfl rfl 7 (by decide) (hts (.fieldLink RX2 33 "OldStadium$Hippodrome" "acts" "[I") (List.mem_of_getElem? (i := 1) rfl)) (fun _ h9 => h9) rfl dX2_addAct_54 ?_
                refine lv_iload_n hx hb dX2_addAct_57 rfl (lv_at hl 1 rfl) ?_
                refine va_iald hx hb hK hP 8 0 rfl rfl b7 dX2_addAct_58 ?_
                refine lv_iload_n hx hb dX2_addAct_59 rfl (lv_at hl 2 rfl) ?_
                have b10 := z_c1 hf
                replace hf := z_c2 hf
                refine va_iast hx hb hK hP hD hS (11 + (Int32.toNatClampNeg v1)) 0 (zrX2_8 (z_lt b7)) rfl b10 dX2_addAct_60 (fun H locs hP hD hS => ?_)
                rw [zsX2_8 (z_lt b7)] at hP hD
                replace hP : va_P (dC, dI) vwCl (wX2 cI cZ cJ cA h0 a r8 r9 x10 x11 x12 x13 x14 x15 f0 f1 f2 f3 f4 f5 f6 f7 (z_up2 V8 (Int32.toNatClampNeg v1) (Int32.toNatClampNeg (f7 (Int32.toNatClampNeg v1))) v2) V9) H := hP
                replace hD : va_D A (wX2 cI cZ cJ cA h0 a r8 r9 x10 x11 x12 x13 x14 x15 f0 f1 f2 f3 f4 f5 f6 f7 (z_up2 V8 (Int32.toNatClampNeg v1) (Int32.toNatClampNeg (f7 (Int32.toNatClampNeg v1))) v2) V9) := hD
                refine lv_aload_n hx hb dX2_addAct_61 rfl (lv_at hl 0 rfl) ?_
                refine va_get (D := (dC, dI)) (ci := 2) (v := .ref (a 9)) (C := RX2) (T := TX2) (N := 16) hx hb hts (fun w hw => List.mem_cons_of_mem _ (List.mem_append_right _ hw)) hown hK hP 0 rfl rfl 9 (by decide) (hts (.fieldLink RX2 41 "OldStadium$Hippodrome" "side" "[[I") (List.mem_of_getElem? (i := 4) rfl)) (fun _ h9 => h9) rfl dX2_addAct_62 ?_
                refine lv_iload_n hx hb dX2_addAct_65 rfl (lv_at hl 1 rfl) ?_
                refine z_aald (H0 := s.heap) hx hb hK hP 10 3 rfl rfl b7 dX2_addAct_66 ?_
                refine lv_aload_n hx hb dX2_addAct_67 rfl (lv_at hl 0 rfl) ?_
                refine va_get (D := (dC, dI)) (ci := 2) (v := .ref (a 7)) (C := RX2) (T := TX2) (N := 16) hx hb hts (fun w hw => List.mem_cons_of_mem _ (List.mem_append_right _ hw)) hown hK hP 0 rfl rfl 7 (by decide) (hts (.fieldLink RX2 33 "OldStadium$Hippodrome" "acts" "[I") (List.mem_of_getElem? (i := 1) rfl)) (fun _ h9 => h9) rfl dX2_addAct_68 ?_
                refine lv_iload_n hx hb dX2_addAct_71 rfl (lv_at hl 1 rfl) ?_
                refine va_iald hx hb hK hP 8 0 rfl rfl b7 dX2_addAct_72 ?_
                refine lv_iload_n hx hb dX2_addAct_73 rfl (lv_at hl 3 rfl) ?_
                refine va_iast hx hb hK hP hD hS (19 + (Int32.toNatClampNeg v1)) 0 (zrX2_9 (z_lt b7)) rfl b10 dX2_addAct_74 (fun H locs hP hD hS => ?_)
                rw [zsX2_9 (z_lt b7)] at hP hD
                replace hP : va_P (dC, dI) vwCl (wX2 cI cZ cJ cA h0 a r8 r9 x10 x11 x12 x13 x14 x15 f0 f1 f2 f3 f4 f5 f6 f7 (z_up2 V8 (Int32.toNatClampNeg v1) (Int32.toNatClampNeg (f7 (Int32.toNatClampNeg v1))) v2) (z_up2 V9 (Int32.toNatClampNeg v1) (Int32.toNatClampNeg (f7 (Int32.toNatClampNeg v1))) v3)) H := hP
                replace hD : va_D A (wX2 cI cZ cJ cA h0 a r8 r9 x10 x11 x12 x13 x14 x15 f0 f1 f2 f3 f4 f5 f6 f7 (z_up2 V8 (Int32.toNatClampNeg v1) (Int32.toNatClampNeg (f7 (Int32.toNatClampNeg v1))) v2) (z_up2 V9 (Int32.toNatClampNeg v1) (Int32.toNatClampNeg (f7 (Int32.toNatClampNeg v1))) v3)) := hD
                refine lv_aload_n hx hb dX2_addAct_75 rfl (lv_at hl 0 rfl) ?_
                refine va_get (D := (dC, dI)) (ci := 2) (v := .ref (a 7)) (C := RX2) (T := TX2) (N := 16) hx hb hts (fun w hw => List.mem_cons_of_mem _ (List.mem_append_right _ hw)) hown hK hP 0 rfl rfl 7 (by decide) (hts (.fieldLink RX2 33 "OldStadium$Hippodrome" "acts" "[I") (List.mem_of_getElem? (i := 1) rfl)) (fun _ h9 => h9) rfl dX2_addAct_76 ?_
                refine lv_iload_n hx hb dX2_addAct_79 rfl (lv_at hl 1 rfl) ?_
                refine lv_dup2_11 hx hb dX2_addAct_80 rfl rfl ?_
                refine va_iald hx hb hK hP 8 0 rfl rfl b7 dX2_addAct_81 ?_
                refine lv_iconst (v := 1) hx hb dX2_addAct_82 (by decide) ?_
                refine lv_iadd hx hb dX2_addAct_83 ?_
                refine va_iast hx hb hK hP hD hS 8 0 rfl rfl b7 dX2_addAct_84 (fun H locs hP hD hS => ?_)
                replace hP : va_P (dC, dI) vwCl (wX2 cI cZ cJ cA h0 a r8 r9 x10 x11 x12 x13 x14 x15 f0 f1 f2 f3 f4 f5 f6 (upd f7 (Int32.toNatClampNeg v1) ((f7 (Int32.toNatClampNeg v1)) + 1)) (z_up2 V8 (Int32.toNatClampNeg v1) (Int32.toNatClampNeg (f7 (Int32.toNatClampNeg v1))) v2) (z_up2 V9 (Int32.toNatClampNeg v1) (Int32.toNatClampNeg (f7 (Int32.toNatClampNeg v1))) v3)) H := hP
                replace hD : va_D A (wX2 cI cZ cJ cA h0 a r8 r9 x10 x11 x12 x13 x14 x15 f0 f1 f2 f3 f4 f5 f6 (upd f7 (Int32.toNatClampNeg v1) ((f7 (Int32.toNatClampNeg v1)) + 1)) (z_up2 V8 (Int32.toNatClampNeg v1) (Int32.toNatClampNeg (f7 (Int32.toNatClampNeg v1))) v2) (z_up2 V9 (Int32.toNatClampNeg v1) (Int32.toNatClampNeg (f7 (Int32.toNatClampNeg v1))) v3)) := hD
                refine lv_aload_n hx hb dX2_addAct_85 rfl (lv_at hl 0 rfl) ?_
                refine va_get (D := (dC, dI)) (ci := 2) (v := .ref (a 7)) (C := RX2) (T := TX2) (N := 16) hx hb hts (fun w hw => List.mem_cons_of_mem _ (List.mem_append_right _ hw)) hown hK hP 0 rfl rfl 7 (by decide) (hts (.fieldLink RX2 33 "OldStadium$Hippodrome" "acts" "[I") (List.mem_of_getElem? (i := 1) rfl)) (fun _ h9 => h9) rfl dX2_addAct_86 ?_
                refine lv_iload_n hx hb dX2_addAct_89 rfl (lv_at hl 1 rfl) ?_
                refine va_iald hx hb hK hP 8 0 rfl rfl b7 dX2_addAct_90 ?_
                obtain rfl := Option.some.inj hf
                exact hret _ _ _ _ _ dX2_addAct_91 rfl hP hD hS
              · replace hf := z_im hf c9
                refine lv_iconst (v := (-1)) hx hb dX2_addAct_45 (by decide) ?_
                obtain rfl := Option.some.inj hf
                exact hret _ _ _ _ _ dX2_addAct_46 rfl hP hD hS
set_option maxHeartbeats 4000000 in
set_option maxRecDepth 100000 in
theorem k_X2_addAct (l : Launch) (dC : Nat → ClassId) (dI : Nat → Nat → Nat) (cI cZ cJ cA : ClassId) (h0 : Nat) (a : Nat → Nat) (r8 : Nat → Nat) (r9 : Nat → Nat) (sz : Nat) (N : Nat) (v1 : Int32) (v2 : Int32) (v3 : Int32) (x10 : Int32) (x11 : Int32) (x12 : Int32) (x13 : Int32) (x14 : Int32) (x15 : Int32) (f0 : (Nat → Int32)) (f1 : (Nat → Int32)) (f2 : (Nat → Int32)) (f3 : (Nat → Int32)) (f4 : (Nat → Int32)) (f5 : (Nat → Int32)) (f6 : (Nat → Int32)) (f7 : (Nat → Int32)) (V8 : (Nat → Nat → Int32)) (V9 : (Nat → Nat → Int32)) (o : (Int32 × (Nat → Int32) × (Nat → Nat → Int32) × (Nat → Nat → Int32))) (hf : q_X2_addAct N v1 v2 v3 x13 x14 f7 V8 V9 = some o) : Met l yX2_addAct wsX2_addAct ({ frames := 1, cells := 0, slots := 0, locals := 21 } : Room) (z_Pre dC dI (z_ty cI cZ cJ cA) [.ref h0, .int v1, .int v2, .int v3] sz (wX2 cI cZ cJ cA h0 a r8 r9 x10 x11 x12 x13 x14 x15 f0 f1 f2 f3 f4 f5 f6 f7 V8 V9)) (z_Pi dC dI o.1 (wX2 cI cZ cJ cA h0 a r8 r9 x10 x11 x12 x13 x14 x15 f0 f1 f2 f3 f4 f5 f6 o.2.1 o.2.2.1 o.2.2.2) sz (wX2 cI cZ cJ cA h0 a r8 r9 x10 x11 x12 x13 x14 x15 f0 f1 f2 f3 f4 f5 f6 f7 V8 V9)) 0 0 (va_A (wX2 cI cZ cJ cA h0 a r8 r9 x10 x11 x12 x13 x14 x15 f0 f1 f2 f3 f4 f5 f6 f7 V8 V9) sz) := by
  refine Met.ofW (cc := cX2_addAct) (maxL := 4) (ret := (some .int)) (by decide) rfl ?_
  intro p e s m args below meth c s₁ B hml hv
  obtain ⟨rfl, hsz, hP, hK, hD0, hN⟩ := hv
  subst hsz
  have hl := lv_entry ([.ref h0, .int v1, .int v2, .int v3]) (n := 4) (Nat.le_of_ble_eq_true rfl)
  rw [lg_entry_eq]
  refine b_X2_addAct N ⟨⟨B.exec, B.bytes, hml, findClass_of_methodNamed B.named, atoms_spec (ws := wsX2_addAct) B.pre⟩, Nat.le_refl _, Nat.le_refl _, fun q h => Or.inr h, hN, hK⟩ hf hP hD0.self va_S.rf hl (fun pc H locs ls r hd hr hP hD hS => ?_)
  subst hr
  exact W.iret B.exec B.bytes B.returns (fun t ht hW => ⟨⟨_, (), rfl, rfl, by rw [ht]; exact hP, hD⟩, hS.F ht⟩) hS.2.2 hd
def q_X2_letIn_L2 (N : Nat) (x13 : Int32) (x14 : Int32) (f0 : (Nat → Int32)) : Nat → Int32 → (Nat → Int32) → Option (Nat → Int32)
  | 0, _, _ => none
  | n + 1, v1, f4 =>
    (if x13 ≤ v1 then
     (some f4)
    else
     (if z_in v1 8 then
     (if (f4 (Int32.toNatClampNeg v1)) = 0 then
      (if (f0 (Int32.toNatClampNeg v1)) = (x14 - 1) then
       (q_X2_letIn_L2 N x13 x14 f0 n (v1 + 1) (upd f4 (Int32.toNatClampNeg v1) 1))
      else
       (q_X2_letIn_L2 N x13 x14 f0 n (v1 + 1) f4))
     else
      (q_X2_letIn_L2 N x13 x14 f0 n (v1 + 1) f4))
     else none))
set_option maxHeartbeats 4000000 in
set_option maxRecDepth 100000 in
theorem b_X2_letIn_L2 {p : Program} {l : Launch} {e : Env} {R : Room} {s : State} {m : MethodId} {args : Array Value} {below : List Frame} {meth : Method} {c : Code} {Q : State → Prop} {A : Nat → Prop} {dC : Nat → ClassId} {dI : Nat → Nat → Nat} {cI cZ cJ cA : ClassId} {h0 : Nat} {a : Nat → Nat} {r8 : Nat → Nat} {r9 : Nat → Nat} (N : Nat) (C0 : z_Cx p s m args c cX2_letIn 2 wsX2_letIn RX2 R 0 0 A dC dI (z_ty cI cZ cJ cA)) : ∀ (n : Nat) {v1 : Int32} {x10 : Int32} {x11 : Int32} {x12 : Int32} {x13 : Int32} {x14 : Int32} {x15 : Int32} {f0 : (Nat → Int32)} {f1 : (Nat → Int32)} {f2 : (Nat → Int32)} {f3 : (Nat → Int32)} {f4 : (Nat → Int32)} {f5 : (Nat → Int32)} {f6 : (Nat → Int32)} {f7 : (Nat → Int32)} {V8 : (Nat → Nat → Int32)} {V9 : (Nat → Nat → Int32)} {o : (Nat → Int32)} {H : Heap} {locs : List Loc} {ls : Array Slot}, q_X2_letIn_L2 N x13 x14 f0 n v1 f4 = some o → va_P (dC, dI) vwCl (wX2 cI cZ cJ cA h0 a r8 r9 x10 x11 x12 x13 x14 x15 f0 f1 f2 f3 f4 f5 f6 f7 V8 V9) H → va_D A (wX2 cI cZ cJ cA h0 a r8 r9 x10 x11 x12 x13 x14 x15 f0 f1 f2 f3 f4 f5 f6 f7 V8 V9) → va_S A s.heap H locs → lv_has ls 2 [(0, .ref h0), (1, .int v1)] →
    (∀ (H : Heap) (locs : List Loc) (ls : Array Slot), va_P (dC, dI) vwCl (wX2 cI cZ cJ cA h0 a r8 r9 x10 x11 x12 x13 x14 x15 f0 f1 f2 f3 o f5 f6 f7 V8 V9) H → va_D A (wX2 cI cZ cJ cA h0 a r8 r9 x10 x11 x12 x13 x14 x15 f0 f1 f2 f3 o f5 f6 f7 V8 V9) → va_S A s.heap H locs → lv_has ls 2 [] → W p l e R s m args below meth c H locs 0 0 Q (F0 m 47 ls [])) →
    W p l e R s m args below meth c H locs 0 0 Q (F0 m 2 ls []) := by
  obtain ⟨⟨hx, hb, hml, hown, hts⟩, hRf, hRl, hA, hN, hK⟩ := C0
  intro n
  induction n with
  | zero =>
    intro v1 x10 x11 x12 x13 x14 x15 f0 f1 f2 f3 f4 f5 f6 f7 V8 V9 o H locs ls hf
    cases hf
  | succ n ih =>
    intro v1 x10 x11 x12 x13 x14 x15 f0 f1 f2 f3 f4 f5 f6 f7 V8 V9 o H locs ls hf hP hD hS hl hexit
    rw [q_X2_letIn_L2] at hf
    refine lv_iload_n hx hb dX2_letIn_2 rfl (lv_at hl 1 rfl) ?_
    refine lv_aload_n hx hb dX2_letIn_3 rfl (lv_at hl 0 rfl) ?_
    refine va_get (D := (dC, dI)) (ci := 2) (v := .int x13) (C := RX2) (T := TX2) (N := 16) hx hb hts (fun w hw => List.mem_cons_of_mem _ (List.mem_append_right _ hw)) hown hK hP 0 rfl rfl 13 (by decide) (hts (.fieldLink RX2 54 "OldStadium$Hippodrome" "chariots" "I") (List.mem_of_getElem? (i := 1) rfl)) (fun _ h9 => h9) rfl dX2_letIn_4 ?_
    refine lv_icmp_ge (tgt := 47) hx hb dX2_letIn_7 (by decide) (fun c1 => ?_) (fun c1 => ?_)
    · replace hf := z_ip hf c1
      obtain rfl := Option.some.inj hf
      exact hexit _ _ _ hP hD hS (lv_sub hl [] rfl)
    · replace hf := z_im hf c1
      refine lv_aload_n hx hb dX2_letIn_10 rfl (lv_at hl 0 rfl) ?_
      refine va_get (D := (dC, dI)) (ci := 2) (v := .ref (a 4)) (C := RX2) (T := TX2) (N := 16) hx hb hts (fun w hw => List.mem_cons_of_mem _ (List.mem_append_right _ hw)) hown hK hP 0 rfl rfl 4 (by decide) (hts (.fieldLink RX2 24 "OldStadium$Hippodrome" "state" "[I") (List.mem_of_getElem? (i := 2) rfl)) (fun _ h9 => h9) rfl dX2_letIn_11 ?_
      refine lv_iload_n hx hb dX2_letIn_14 rfl (lv_at hl 1 rfl) ?_
      have b2 := z_c1 hf
      replace hf := z_c2 hf
      refine va_iald hx hb hK hP 5 0 rfl rfl b2 dX2_letIn_15 ?_
      refine lv_if_ne (tgt := 41) hx hb dX2_letIn_16 (by decide) (fun c3 => ?_) (fun c3 => ?_)
      · replace hf := z_im hf c3
        refine lv_iinc (v := (v1 + 1)) (lv' := [(1, .int (v1 + 1)), (0, .ref h0)]) hx hb dX2_letIn_41 hl (k := 1) rfl rfl (by decide) rfl (fun ls hl => ?_)
        refine lv_goto (tgt := 2) hx hb dX2_letIn_44 (by decide) ?_
        exact ih hf hP hD hS (lv_sub hl [1, 0] rfl) hexit
      · replace hf := z_ip hf c3
        refine lv_aload_n hx hb dX2_letIn_19 rfl (lv_at hl 0 rfl) ?_
        refine va_get (D := (dC, dI)) (ci := 2) (v := .ref (a 0)) (C := RX2) (T := TX2) (N := 16) hx hb hts (fun w hw => List.mem_cons_of_mem _ (List.mem_append_right _ hw)) hown hK hP 0 rfl rfl 0 (by decide) (hts (.fieldLink RX2 11 "OldStadium$Hippodrome" "delay" "[I") (List.mem_of_getElem? (i := 3) rfl)) (fun _ h9 => h9) rfl dX2_letIn_20 ?_
        refine lv_iload_n hx hb dX2_letIn_23 rfl (lv_at hl 1 rfl) ?_
        refine va_iald hx hb hK hP 1 0 rfl rfl b2 dX2_letIn_24 ?_
        refine lv_aload_n hx hb dX2_letIn_25 rfl (lv_at hl 0 rfl) ?_
        refine va_get (D := (dC, dI)) (ci := 2) (v := .int x14) (C := RX2) (T := TX2) (N := 16) hx hb hts (fun w hw => List.mem_cons_of_mem _ (List.mem_append_right _ hw)) hown hK hP 0 rfl rfl 14 (by decide) (hts (.fieldLink RX2 57 "OldStadium$Hippodrome" "tick" "I") (List.mem_of_getElem? (i := 4) rfl)) (fun _ h9 => h9) rfl dX2_letIn_26 ?_
        refine lv_iconst (v := 1) hx hb dX2_letIn_29 (by decide) ?_
        refine lv_isub hx hb dX2_letIn_30 ?_
        refine lv_icmp_ne (tgt := 41) hx hb dX2_letIn_31 (by decide) (fun c4 => ?_) (fun c4 => ?_)
        · replace hf := z_im hf c4
          refine lv_iinc (v := (v1 + 1)) (lv' := [(1, .int (v1 + 1)), (0, .ref h0)]) hx hb dX2_letIn_41 hl (k := 1) rfl rfl (by decide) rfl (fun ls hl => ?_)
          refine lv_goto (tgt := 2) hx hb dX2_letIn_44 (by decide) ?_
          exact ih hf hP hD hS (lv_sub hl [1, 0] rfl) hexit
        · replace hf := z_ip hf c4
          refine lv_aload_n hx hb dX2_letIn_34 rfl (lv_at hl 0 rfl) ?_
          refine va_get (D := (dC, dI)) (ci := 2) (v := .ref (a 4)) (C := RX2) (T := TX2) (N := 16) hx hb hts (fun w hw => List.mem_cons_of_mem _ (List.mem_append_right _ hw)) hown hK hP 0 rfl rfl 4 (by decide) (hts (.fieldLink RX2 24 "OldStadium$Hippodrome" "state" "[I") (List.mem_of_getElem? (i := 2) rfl)) (fun _ h9 => h9) rfl dX2_letIn_35 ?_
          refine lv_iload_n hx hb dX2_letIn_38 rfl (lv_at hl 1 rfl) ?_
          refine lv_iconst (v := 1) hx hb dX2_letIn_39 (by decide) ?_
          refine va_iast hx hb hK hP hD hS 5 0 rfl rfl b2 dX2_letIn_40 (fun H locs hP hD hS => ?_)
          replace hP : va_P (dC, dI) vwCl (wX2 cI cZ cJ cA h0 a r8 r9 x10 x11 x12 x13 x14 x15 f0 f1 f2 f3 (upd f4 (Int32.toNatClampNeg v1) 1) f5 f6 f7 V8 V9) H := hP
          replace hD : va_D A (wX2 cI cZ cJ cA h0 a r8 r9 x10 x11 x12 x13 x14 x15 f0 f1 f2 f3 (upd f4 (Int32.toNatClampNeg v1) 1) f5 f6 f7 V8 V9) := hD
          refine lv_iinc (v := (v1 + 1)) (lv' := [(1, .int (v1 + 1)), (0, .ref h0)]) hx hb dX2_letIn_41 hl (k := 1) rfl rfl (by decide) rfl (fun ls hl => ?_)
          refine lv_goto (tgt := 2) hx hb dX2_letIn_44 (by decide) ?_
          exact ih hf hP hD hS (lv_sub hl [1, 0] rfl) hexit
def q_X2_letIn (N : Nat) (x13 : Int32) (x14 : Int32) (f0 : (Nat → Int32)) (f4 : (Nat → Int32)) : Option (Nat → Int32) :=
  (Option.bind (q_X2_letIn_L2 N x13 x14 f0 N 0 f4) (fun t1 =>
  (some t1)))
set_option maxHeartbeats 4000000 in
set_option maxRecDepth 100000 in
theorem b_X2_letIn {p : Program} {l : Launch} {e : Env} {R : Room} {s : State} {m : MethodId} {args : Array Value} {below : List Frame} {meth : Method} {c : Code} {Q : State → Prop} {A : Nat → Prop} {dC : Nat → ClassId} {dI : Nat → Nat → Nat} {cI cZ cJ cA : ClassId} {h0 : Nat} {a : Nat → Nat} {r8 : Nat → Nat} {r9 : Nat → Nat} (N : Nat) (C0 : z_Cx p s m args c cX2_letIn 2 wsX2_letIn RX2 R 0 0 A dC dI (z_ty cI cZ cJ cA)) {x10 : Int32} {x11 : Int32} {x12 : Int32} {x13 : Int32} {x14 : Int32} {x15 : Int32} {f0 : (Nat → Int32)} {f1 : (Nat → Int32)} {f2 : (Nat → Int32)} {f3 : (Nat → Int32)} {f4 : (Nat → Int32)} {f5 : (Nat → Int32)} {f6 : (Nat → Int32)} {f7 : (Nat → Int32)} {V8 : (Nat → Nat → Int32)} {V9 : (Nat → Nat → Int32)} {o : (Nat → Int32)} {H : Heap} {locs : List Loc} {ls : Array Slot} (hf : q_X2_letIn N x13 x14 f0 f4 = some o) (hP : va_P (dC, dI) vwCl (wX2 cI cZ cJ cA h0 a r8 r9 x10 x11 x12 x13 x14 x15 f0 f1 f2 f3 f4 f5 f6 f7 V8 V9) H) (hD : va_D A (wX2 cI cZ cJ cA h0 a r8 r9 x10 x11 x12 x13 x14 x15 f0 f1 f2 f3 f4 f5 f6 f7 V8 V9)) (hS : va_S A s.heap H locs) (hl : lv_has ls 2 [(0, .ref h0)])
    (hret : ∀ (pc : Nat) (H : Heap) (locs : List Loc) (ls : Array Slot), decode cX2_letIn pc = .ok (.return_, 1) → va_P (dC, dI) vwCl (wX2 cI cZ cJ cA h0 a r8 r9 x10 x11 x12 x13 x14 x15 f0 f1 f2 f3 o f5 f6 f7 V8 V9) H → va_D A (wX2 cI cZ cJ cA h0 a r8 r9 x10 x11 x12 x13 x14 x15 f0 f1 f2 f3 o f5 f6 f7 V8 V9) → va_S A s.heap H locs → W p l e R s m args below meth c H locs 0 0 Q (F0 m pc ls [])) :
    W p l e R s m args below meth c H locs 0 0 Q (F0 m 0 ls []) := by
  obtain ⟨⟨hx, hb, hml, hown, hts⟩, hRf, hRl, hA, hN, hK⟩ := C0
  unfold q_X2_letIn at hf
  refine lv_iconst (v := 0) hx hb dX2_letIn_0 (by decide) ?_
  refine lv_istore_n (lv' := [(1, .int 0), (0, .ref h0)]) hx hb dX2_letIn_1 rfl hl (by decide) rfl (fun ls hl => ?_)
  obtain ⟨t1, ht1, hf1⟩ := z_ib hf
  replace hf := hf1
  clear hf1
  refine b_X2_letIn_L2 N ⟨⟨hx, hb, hml, hown, hts⟩, hRf, hRl, hA, hN, hK⟩ N ht1 hP hD hS (lv_sub hl [1, 0] rfl) (fun H locs ls hP hD hS hl => ?_)
  obtain rfl := Option.some.inj hf
  exact hret _ _ _ _ dX2_letIn_47 hP hD hS
set_option maxHeartbeats 4000000 in
set_option maxRecDepth 100000 in
theorem k_X2_letIn (l : Launch) (dC : Nat → ClassId) (dI : Nat → Nat → Nat) (cI cZ cJ cA : ClassId) (h0 : Nat) (a : Nat → Nat) (r8 : Nat → Nat) (r9 : Nat → Nat) (sz : Nat) (N : Nat) (x10 : Int32) (x11 : Int32) (x12 : Int32) (x13 : Int32) (x14 : Int32) (x15 : Int32) (f0 : (Nat → Int32)) (f1 : (Nat → Int32)) (f2 : (Nat → Int32)) (f3 : (Nat → Int32)) (f4 : (Nat → Int32)) (f5 : (Nat → Int32)) (f6 : (Nat → Int32)) (f7 : (Nat → Int32)) (V8 : (Nat → Nat → Int32)) (V9 : (Nat → Nat → Int32)) (o : (Nat → Int32)) (hf : q_X2_letIn N x13 x14 f0 f4 = some o) : Met l yX2_letIn wsX2_letIn ({ frames := 0, cells := 0, slots := 0, locals := 0 } : Room) (z_Pre dC dI (z_ty cI cZ cJ cA) [.ref h0] sz (wX2 cI cZ cJ cA h0 a r8 r9 x10 x11 x12 x13 x14 x15 f0 f1 f2 f3 f4 f5 f6 f7 V8 V9)) (z_Pv dC dI (wX2 cI cZ cJ cA h0 a r8 r9 x10 x11 x12 x13 x14 x15 f0 f1 f2 f3 o f5 f6 f7 V8 V9) sz (wX2 cI cZ cJ cA h0 a r8 r9 x10 x11 x12 x13 x14 x15 f0 f1 f2 f3 f4 f5 f6 f7 V8 V9)) 0 0 (va_A (wX2 cI cZ cJ cA h0 a r8 r9 x10 x11 x12 x13 x14 x15 f0 f1 f2 f3 f4 f5 f6 f7 V8 V9) sz) := by
  refine Met.ofW (cc := cX2_letIn) (maxL := 2) (ret := none) (by decide) rfl ?_
  intro p e s m args below meth c s₁ B hml hv
  obtain ⟨rfl, hsz, hP, hK, hD0, hN⟩ := hv
  subst hsz
  have hl := lv_entry ([.ref h0]) (n := 2) (Nat.le_of_ble_eq_true rfl)
  rw [lg_entry_eq]
  refine b_X2_letIn N ⟨⟨B.exec, B.bytes, hml, findClass_of_methodNamed B.named, atoms_spec (ws := wsX2_letIn) B.pre⟩, Nat.le_refl _, Nat.le_refl _, fun q h => Or.inr h, hN, hK⟩ hf hP hD0.self va_S.rf hl (fun pc H locs ls hd hP hD hS => ?_)
  exact W.vret B.exec B.bytes B.returns (fun t ht hW => ⟨⟨(), rfl, trivial, by rw [ht]; exact hP, hD⟩, hS.F ht⟩) hS.2.2 hd
def q_X2_sharesCell_L14 (N : Nat) (v1 : Int32) (x13 : Int32) (f1 : (Nat → Int32)) (f2 : (Nat → Int32)) (f4 : (Nat → Int32)) : Nat → Int32 → Option (Sum Int32 Unit)
  | 0, _ => none
  | n + 1, v2 =>
    (if x13 ≤ v2 then
     (some (Sum.inr ()))
    else
     (if v2 = v1 then
      (q_X2_sharesCell_L14 N v1 x13 f1 f2 f4 n (v2 + 1))
     else
      (if z_in v2 8 then
      (if (f4 (Int32.toNatClampNeg v2)) = 1 then
       (if z_in v1 8 then
       (if (f1 (Int32.toNatClampNeg v2)) = (f1 (Int32.toNatClampNeg v1)) then
        (if (f2 (Int32.toNatClampNeg v2)) = (f2 (Int32.toNatClampNeg v1)) then
         (some (Sum.inl 1))
        else
         (q_X2_sharesCell_L14 N v1 x13 f1 f2 f4 n (v2 + 1)))
       else
        (q_X2_sharesCell_L14 N v1 x13 f1 f2 f4 n (v2 + 1)))
       else none)
      else
       (q_X2_sharesCell_L14 N v1 x13 f1 f2 f4 n (v2 + 1)))
      else none)))
set_option maxHeartbeats 4000000 in
set_option maxRecDepth 100000 in
theorem b_X2_sharesCell_L14 {p : Program} {l : Launch} {e : Env} {R : Room} {s : State} {m : MethodId} {args : Array Value} {below : List Frame} {meth : Method} {c : Code} {Q : State → Prop} {A : Nat → Prop} {dC : Nat → ClassId} {dI : Nat → Nat → Nat} {cI cZ cJ cA : ClassId} {h0 : Nat} {a : Nat → Nat} {r8 : Nat → Nat} {r9 : Nat → Nat} (N : Nat) (C0 : z_Cx p s m args c cX2_sharesCell 3 wsX2_sharesCell RX2 R 0 0 A dC dI (z_ty cI cZ cJ cA)) : ∀ (n : Nat) {v1 : Int32} {v2 : Int32} {x10 : Int32} {x11 : Int32} {x12 : Int32} {x13 : Int32} {x14 : Int32} {x15 : Int32} {f0 : (Nat → Int32)} {f1 : (Nat → Int32)} {f2 : (Nat → Int32)} {f3 : (Nat → Int32)} {f4 : (Nat → Int32)} {f5 : (Nat → Int32)} {f6 : (Nat → Int32)} {f7 : (Nat → Int32)} {V8 : (Nat → Nat → Int32)} {V9 : (Nat → Nat → Int32)} {o : (Sum Int32 Unit)} {H : Heap} {locs : List Loc} {ls : Array Slot}, q_X2_sharesCell_L14 N v1 x13 f1 f2 f4 n v2 = some o → va_P (dC, dI) vwCl (wX2 cI cZ cJ cA h0 a r8 r9 x10 x11 x12 x13 x14 x15 f0 f1 f2 f3 f4 f5 f6 f7 V8 V9) H → va_D A (wX2 cI cZ cJ cA h0 a r8 r9 x10 x11 x12 x13 x14 x15 f0 f1 f2 f3 f4 f5 f6 f7 V8 V9) → va_S A s.heap H locs → lv_has ls 3 [(0, .ref h0), (1, .int v1), (2, .int v2)] →
    (∀ (t : Int32), o = Sum.inl t → ∀ (pc : Nat) (H : Heap) (locs : List Loc) (ls : Array Slot) (r : Int32), decode cX2_sharesCell pc = .ok (.ireturn, 1) → r = t → narrow .boolean (.int r) = .int r → va_P (dC, dI) vwCl (wX2 cI cZ cJ cA h0 a r8 r9 x10 x11 x12 x13 x14 x15 f0 f1 f2 f3 f4 f5 f6 f7 V8 V9) H → va_D A (wX2 cI cZ cJ cA h0 a r8 r9 x10 x11 x12 x13 x14 x15 f0 f1 f2 f3 f4 f5 f6 f7 V8 V9) → va_S A s.heap H locs → W p l e R s m args below meth c H locs 0 0 Q (F0 m pc ls [.int r])) →
    (∀ (t : Unit) (H : Heap) (locs : List Loc) (ls : Array Slot), o = Sum.inr t → va_P (dC, dI) vwCl (wX2 cI cZ cJ cA h0 a r8 r9 x10 x11 x12 x13 x14 x15 f0 f1 f2 f3 f4 f5 f6 f7 V8 V9) H → va_D A (wX2 cI cZ cJ cA h0 a r8 r9 x10 x11 x12 x13 x14 x15 f0 f1 f2 f3 f4 f5 f6 f7 V8 V9) → va_S A s.heap H locs → lv_has ls 3 [] → W p l e R s m args below meth c H locs 0 0 Q (F0 m 75 ls [])) →
    W p l e R s m args below meth c H locs 0 0 Q (F0 m 14 ls []) := by
  obtain ⟨⟨hx, hb, hml, hown, hts⟩, hRf, hRl, hA, hN, hK⟩ := C0
  intro n
  induction n with
  | zero =>
    intro v1 v2 x10 x11 x12 x13 x14 x15 f0 f1 f2 f3 f4 f5 f6 f7 V8 V9 o H locs ls hf
    cases hf
  | succ n ih =>
    intro v1 v2 x10 x11 x12 x13 x14 x15 f0 f1 f2 f3 f4 f5 f6 f7 V8 V9 o H locs ls hf hP hD hS hl hret hexit
    rw [q_X2_sharesCell_L14] at hf
    refine lv_iload_n hx hb dX2_sharesCell_14 rfl (lv_at hl 2 rfl) ?_
    refine lv_aload_n hx hb dX2_sharesCell_15 rfl (lv_at hl 0 rfl) ?_
    refine va_get (D := (dC, dI)) (ci := 2) (v := .int x13) (C := RX2) (T := TX2) (N := 16) hx hb hts (fun w hw => List.mem_cons_of_mem _ (List.mem_append_right _ hw)) hown hK hP 0 rfl rfl 13 (by decide) (hts (.fieldLink RX2 54 "OldStadium$Hippodrome" "chariots" "I") (List.mem_of_getElem? (i := 2) rfl)) (fun _ h9 => h9) rfl dX2_sharesCell_16 ?_
    refine lv_icmp_ge (tgt := 75) hx hb dX2_sharesCell_19 (by decide) (fun c1 => ?_) (fun c1 => ?_)
    · replace hf := z_ip hf c1
      obtain rfl := Option.some.inj hf
      exact hexit _ _ _ _ rfl hP hD hS (lv_sub hl [] rfl)
    · replace hf := z_im hf c1
      refine lv_iload_n hx hb dX2_sharesCell_22 rfl (lv_at hl 2 rfl) ?_
      refine lv_iload_n hx hb dX2_sharesCell_23 rfl (lv_at hl 1 rfl) ?_
      refine lv_icmp_eq (tgt := 69) hx hb dX2_sharesCell_24 (by decide) (fun c2 => ?_) (fun c2 => ?_)
      · replace hf := z_ip hf c2
        refine lv_iinc (v := (v2 + 1)) (lv' := [(2, .int (v2 + 1)), (0, .ref h0), (1, .int v1)]) hx hb dX2_sharesCell_69 hl (k := 2) rfl rfl (by decide) rfl (fun ls hl => ?_)
        refine lv_goto (tgt := 14) hx hb dX2_sharesCell_72 (by decide) ?_
        exact ih hf hP hD hS (lv_sub hl [1, 2, 0] rfl) hret hexit
      · replace hf := z_im hf c2
        refine lv_aload_n hx hb dX2_sharesCell_27 rfl (lv_at hl 0 rfl) ?_
        refine va_get (D := (dC, dI)) (ci := 2) (v := .ref (a 4)) (C := RX2) (T := TX2) (N := 16) hx hb hts (fun w hw => List.mem_cons_of_mem _ (List.mem_append_right _ hw)) hown hK hP 0 rfl rfl 4 (by decide) (hts (.fieldLink RX2 24 "OldStadium$Hippodrome" "state" "[I") (List.mem_of_getElem? (i := 1) rfl)) (fun _ h9 => h9) rfl dX2_sharesCell_28 ?_
        refine lv_iload_n hx hb dX2_sharesCell_31 rfl (lv_at hl 2 rfl) ?_
        have b3 := z_c1 hf
        replace hf := z_c2 hf
        refine va_iald hx hb hK hP 5 0 rfl rfl b3 dX2_sharesCell_32 ?_
        refine lv_iconst (v := 1) hx hb dX2_sharesCell_33 (by decide) ?_
        refine lv_icmp_ne (tgt := 69) hx hb dX2_sharesCell_34 (by decide) (fun c4 => ?_) (fun c4 => ?_)
        · replace hf := z_im hf c4
          refine lv_iinc (v := (v2 + 1)) (lv' := [(2, .int (v2 + 1)), (0, .ref h0), (1, .int v1)]) hx hb dX2_sharesCell_69 hl (k := 2) rfl rfl (by decide) rfl (fun ls hl => ?_)
          refine lv_goto (tgt := 14) hx hb dX2_sharesCell_72 (by decide) ?_
          exact ih hf hP hD hS (lv_sub hl [1, 2, 0] rfl) hret hexit
        · replace hf := z_ip hf c4
          refine lv_aload_n hx hb dX2_sharesCell_37 rfl (lv_at hl 0 rfl) ?_
          refine va_get (D := (dC, dI)) (ci := 2) (v := .ref (a 1)) (C := RX2) (T := TX2) (N := 16) hx hb hts (fun w hw => List.mem_cons_of_mem _ (List.mem_append_right _ hw)) hown hK hP 0 rfl rfl 1 (by decide) (hts (.fieldLink RX2 15 "OldStadium$Hippodrome" "lane" "[I") (List.mem_of_getElem? (i := 3) rfl)) (fun _ h9 => h9) rfl dX2_sharesCell_38 ?_
          refine lv_iload_n hx hb dX2_sharesCell_41 rfl (lv_at hl 2 rfl) ?_
          refine va_iald hx hb hK hP 2 0 rfl rfl b3 dX2_sharesCell_42 ?_
          refine lv_aload_n hx hb dX2_sharesCell_43 rfl (lv_at hl 0 rfl) ?_
          refine va_get (D := (dC, dI)) (ci := 2) (v := .ref (a 1)) (C := RX2) (T := TX2) (N := 16) hx hb hts (fun w hw => List.mem_cons_of_mem _ (List.mem_append_right _ hw)) hown hK hP 0 rfl rfl 1 (by decide) (hts (.fieldLink RX2 15 "OldStadium$Hippodrome" "lane" "[I") (List.mem_of_getElem? (i := 3) rfl)) (fun _ h9 => h9) rfl dX2_sharesCell_44 ?_
          refine lv_iload_n hx hb dX2_sharesCell_47 rfl (lv_at hl 1 rfl) ?_
          have b5 := z_c1 hf
          replace hf := z_c2 hf
          refine va_iald hx hb hK hP 2 0 rfl rfl b5 dX2_sharesCell_48 ?_
          refine lv_icmp_ne (tgt := 69) hx hb dX2_sharesCell_49 (by decide) (fun c6 => ?_) (fun c6 => ?_)
          · replace hf := z_im hf c6
            refine lv_iinc (v := (v2 + 1)) (lv' := [(2, .int (v2 + 1)), (0, .ref h0), (1, .int v1)]) hx hb dX2_sharesCell_69 hl (k := 2) rfl rfl (by decide) rfl (fun ls hl => ?_)
            refine lv_goto (tgt := 14) hx hb dX2_sharesCell_72 (by decide) ?_
            exact ih hf hP hD hS (lv_sub hl [1, 2, 0] rfl) hret hexit
          · replace hf := z_ip hf c6
            refine lv_aload_n hx hb dX2_sharesCell_52 rfl (lv_at hl 0 rfl) ?_
            refine va_get (D := (dC, dI)) (ci := 2) (v := .ref (a 2)) (C := RX2) (T := TX2) (N := 16) hx hb hts (fun w hw => List.mem_cons_of_mem _ (List.mem_append_right _ hw)) hown hK hP 0 rfl rfl 2 (by decide) (hts (.fieldLink RX2 18 "OldStadium$Hippodrome" "cell" "[I") (List.mem_of_getElem? (i := 4) rfl)) (fun _ h9 => h9) rfl dX2_sharesCell_53 ?_
            refine lv_iload_n hx hb dX2_sharesCell_56 rfl (lv_at hl 2 rfl) ?_
            refine va_iald hx hb hK hP 3 0 rfl rfl b3 dX2_sharesCell_57 ?_
            refine lv_aload_n hx hb dX2_sharesCell_58 rfl (lv_at hl 0 rfl) ?_
            refine va_get (D := (dC, dI)) (ci := 2) (v := .ref (a 2)) (C := RX2) (T := TX2) (N := 16) hx hb hts (fun w hw => List.mem_cons_of_mem _ (List.mem_append_right _ hw)) hown hK hP 0 rfl rfl 2 (by decide) (hts (.fieldLink RX2 18 "OldStadium$Hippodrome" "cell" "[I") (List.mem_of_getElem? (i := 4) rfl)) (fun _ h9 => h9) rfl dX2_sharesCell_59 ?_
            refine lv_iload_n hx hb dX2_sharesCell_62 rfl (lv_at hl 1 rfl) ?_
            refine va_iald hx hb hK hP 3 0 rfl rfl b5 dX2_sharesCell_63 ?_
            refine lv_icmp_ne (tgt := 69) hx hb dX2_sharesCell_64 (by decide) (fun c7 => ?_) (fun c7 => ?_)
            · replace hf := z_im hf c7
              refine lv_iinc (v := (v2 + 1)) (lv' := [(2, .int (v2 + 1)), (0, .ref h0), (1, .int v1)]) hx hb dX2_sharesCell_69 hl (k := 2) rfl rfl (by decide) rfl (fun ls hl => ?_)
              refine lv_goto (tgt := 14) hx hb dX2_sharesCell_72 (by decide) ?_
              exact ih hf hP hD hS (lv_sub hl [1, 2, 0] rfl) hret hexit
            · replace hf := z_ip hf c7
              refine lv_iconst (v := 1) hx hb dX2_sharesCell_67 (by decide) ?_
              obtain rfl := Option.some.inj hf
              exact hret _ rfl _ _ _ _ _ dX2_sharesCell_68 rfl rfl hP hD hS
def q_X2_sharesCell (N : Nat) (v1 : Int32) (x13 : Int32) (f1 : (Nat → Int32)) (f2 : (Nat → Int32)) (f4 : (Nat → Int32)) : Option Int32 :=
  (if z_in v1 8 then
  (if (f4 (Int32.toNatClampNeg v1)) = 1 then
   (Option.bind (q_X2_sharesCell_L14 N v1 x13 f1 f2 f4 N 0) (Sum.elim (fun r5 => (some r5)) (fun s4 =>
   (some 0))))
  else
   (some 0))
  else none)
set_option maxHeartbeats 4000000 in
set_option maxRecDepth 100000 in
theorem b_X2_sharesCell {p : Program} {l : Launch} {e : Env} {R : Room} {s : State} {m : MethodId} {args : Array Value} {below : List Frame} {meth : Method} {c : Code} {Q : State → Prop} {A : Nat → Prop} {dC : Nat → ClassId} {dI : Nat → Nat → Nat} {cI cZ cJ cA : ClassId} {h0 : Nat} {a : Nat → Nat} {r8 : Nat → Nat} {r9 : Nat → Nat} (N : Nat) (C0 : z_Cx p s m args c cX2_sharesCell 3 wsX2_sharesCell RX2 R 0 0 A dC dI (z_ty cI cZ cJ cA)) {v1 : Int32} {x10 : Int32} {x11 : Int32} {x12 : Int32} {x13 : Int32} {x14 : Int32} {x15 : Int32} {f0 : (Nat → Int32)} {f1 : (Nat → Int32)} {f2 : (Nat → Int32)} {f3 : (Nat → Int32)} {f4 : (Nat → Int32)} {f5 : (Nat → Int32)} {f6 : (Nat → Int32)} {f7 : (Nat → Int32)} {V8 : (Nat → Nat → Int32)} {V9 : (Nat → Nat → Int32)} {o : Int32} {H : Heap} {locs : List Loc} {ls : Array Slot} (hf : q_X2_sharesCell N v1 x13 f1 f2 f4 = some o) (hP : va_P (dC, dI) vwCl (wX2 cI cZ cJ cA h0 a r8 r9 x10 x11 x12 x13 x14 x15 f0 f1 f2 f3 f4 f5 f6 f7 V8 V9) H) (hD : va_D A (wX2 cI cZ cJ cA h0 a r8 r9 x10 x11 x12 x13 x14 x15 f0 f1 f2 f3 f4 f5 f6 f7 V8 V9)) (hS : va_S A s.heap H locs) (hl : lv_has ls 3 [(0, .ref h0), (1, .int v1)])
    (hret : ∀ (pc : Nat) (H : Heap) (locs : List Loc) (ls : Array Slot) (r : Int32), decode cX2_sharesCell pc = .ok (.ireturn, 1) → r = o → narrow .boolean (.int r) = .int r → va_P (dC, dI) vwCl (wX2 cI cZ cJ cA h0 a r8 r9 x10 x11 x12 x13 x14 x15 f0 f1 f2 f3 f4 f5 f6 f7 V8 V9) H → va_D A (wX2 cI cZ cJ cA h0 a r8 r9 x10 x11 x12 x13 x14 x15 f0 f1 f2 f3 f4 f5 f6 f7 V8 V9) → va_S A s.heap H locs → W p l e R s m args below meth c H locs 0 0 Q (F0 m pc ls [.int r])) :
    W p l e R s m args below meth c H locs 0 0 Q (F0 m 0 ls []) := by
  obtain ⟨⟨hx, hb, hml, hown, hts⟩, hRf, hRl, hA, hN, hK⟩ := C0
  unfold q_X2_sharesCell at hf
  refine lv_aload_n hx hb dX2_sharesCell_0 rfl (lv_at hl 0 rfl) ?_
  refine va_get (D := (dC, dI)) (ci := 2) (v := .ref (a 4)) (C := RX2) (T := TX2) (N := 16) hx hb hts (fun w hw => List.mem_cons_of_mem _ (List.mem_append_right _ hw)) hown hK hP 0 rfl rfl 4 (by decide) (hts (.fieldLink RX2 24 "OldStadium$Hippodrome" "state" "[I") (List.mem_of_getElem? (i := 1) rfl)) (fun _ h9 => h9) rfl dX2_sharesCell_1 ?_
  refine lv_iload_n hx hb dX2_sharesCell_4 rfl (lv_at hl 1 rfl) ?_
  have b1 := z_c1 hf
  replace hf := z_c2 hf
  refine va_iald hx hb hK hP 5 0 rfl rfl b1 dX2_sharesCell_5 ?_
  refine lv_iconst (v := 1) hx hb dX2_sharesCell_6 (by decide) ?_
  refine lv_icmp_eq (tgt := 12) hx hb dX2_sharesCell_7 (by decide) (fun c2 => ?_) (fun c2 => ?_)
  · replace hf := z_ip hf c2
    refine lv_iconst (v := 0) hx hb dX2_sharesCell_12 (by decide) ?_
    refine lv_istore_n (lv' := [(2, .int 0), (0, .ref h0), (1, .int v1)]) hx hb dX2_sharesCell_13 rfl hl (by decide) rfl (fun ls hl => ?_)
    obtain ⟨t3, ht3, hf1⟩ := z_ib hf
    replace hf := hf1
    clear hf1
    refine b_X2_sharesCell_L14 N ⟨⟨hx, hb, hml, hown, hts⟩, hRf, hRl, hA, hN, hK⟩ N ht3 hP hD hS (lv_sub hl [1, 2, 0] rfl) (fun r5 e1 pc H locs ls r0 hd hr hn hP hD hS => ?_) (fun s4 H locs ls e1 hP hD hS hl => ?_)
    · subst e1
      have hf := z_sl hf
      obtain rfl := Option.some.inj hf
      exact hret pc H locs ls r0 hd hr hn hP hD hS
    subst e1
    replace hf := z_sr hf
    refine lv_iconst (v := 0) hx hb dX2_sharesCell_75 (by decide) ?_
    obtain rfl := Option.some.inj hf
    exact hret _ _ _ _ _ dX2_sharesCell_76 rfl rfl hP hD hS
  · replace hf := z_im hf c2
    refine lv_iconst (v := 0) hx hb dX2_sharesCell_10 (by decide) ?_
    obtain rfl := Option.some.inj hf
    exact hret _ _ _ _ _ dX2_sharesCell_11 rfl rfl hP hD hS
set_option maxHeartbeats 4000000 in
set_option maxRecDepth 100000 in
theorem k_X2_sharesCell (l : Launch) (dC : Nat → ClassId) (dI : Nat → Nat → Nat) (cI cZ cJ cA : ClassId) (h0 : Nat) (a : Nat → Nat) (r8 : Nat → Nat) (r9 : Nat → Nat) (sz : Nat) (N : Nat) (v1 : Int32) (x10 : Int32) (x11 : Int32) (x12 : Int32) (x13 : Int32) (x14 : Int32) (x15 : Int32) (f0 : (Nat → Int32)) (f1 : (Nat → Int32)) (f2 : (Nat → Int32)) (f3 : (Nat → Int32)) (f4 : (Nat → Int32)) (f5 : (Nat → Int32)) (f6 : (Nat → Int32)) (f7 : (Nat → Int32)) (V8 : (Nat → Nat → Int32)) (V9 : (Nat → Nat → Int32)) (o : Int32) (hf : q_X2_sharesCell N v1 x13 f1 f2 f4 = some o) : Met l yX2_sharesCell wsX2_sharesCell ({ frames := 0, cells := 0, slots := 0, locals := 0 } : Room) (z_Pre dC dI (z_ty cI cZ cJ cA) [.ref h0, .int v1] sz (wX2 cI cZ cJ cA h0 a r8 r9 x10 x11 x12 x13 x14 x15 f0 f1 f2 f3 f4 f5 f6 f7 V8 V9)) (z_Pi dC dI o (wX2 cI cZ cJ cA h0 a r8 r9 x10 x11 x12 x13 x14 x15 f0 f1 f2 f3 f4 f5 f6 f7 V8 V9) sz (wX2 cI cZ cJ cA h0 a r8 r9 x10 x11 x12 x13 x14 x15 f0 f1 f2 f3 f4 f5 f6 f7 V8 V9)) 0 0 (va_A (wX2 cI cZ cJ cA h0 a r8 r9 x10 x11 x12 x13 x14 x15 f0 f1 f2 f3 f4 f5 f6 f7 V8 V9) sz) := by
  refine Met.ofW (cc := cX2_sharesCell) (maxL := 3) (ret := (some .boolean)) (by decide) rfl ?_
  intro p e s m args below meth c s₁ B hml hv
  obtain ⟨rfl, hsz, hP, hK, hD0, hN⟩ := hv
  subst hsz
  have hl := lv_entry ([.ref h0, .int v1]) (n := 3) (Nat.le_of_ble_eq_true rfl)
  rw [lg_entry_eq]
  refine b_X2_sharesCell N ⟨⟨B.exec, B.bytes, hml, findClass_of_methodNamed B.named, atoms_spec (ws := wsX2_sharesCell) B.pre⟩, Nat.le_refl _, Nat.le_refl _, fun q h => Or.inr h, hN, hK⟩ hf hP hD0.self va_S.rf hl (fun pc H locs ls r hd hr hn hP hD hS => ?_)
  subst hr
  exact W.zret B.exec B.bytes B.returns hn (fun t ht hW => ⟨⟨_, (), rfl, rfl, by rw [ht]; exact hP, hD⟩, hS.F ht⟩) hS.2.2 hd
def q_X2_crash_L4 (N : Nat) (x13 : Int32) (f1 : (Nat → Int32)) (f2 : (Nat → Int32)) (f4 : (Nat → Int32)) : Nat → Int32 → Int32 → Option Int32
  | 0, _, _ => none
  | n + 1, v1, v2 =>
    (if x13 ≤ v2 then
     (some v1)
    else
     (Option.bind (q_X2_sharesCell N v2 x13 f1 f2 f4) (fun o2 =>
     (if o2 = 0 then
      (q_X2_crash_L4 N x13 f1 f2 f4 n v1 (v2 + 1))
     else
      (q_X2_crash_L4 N x13 f1 f2 f4 n (v1 ||| ((1 : Int32) <<< (v2 &&& 31))) (v2 + 1))))))
set_option maxHeartbeats 4000000 in
set_option maxRecDepth 100000 in
theorem b_X2_crash_L4 {p : Program} {l : Launch} {e : Env} {R : Room} {s : State} {m : MethodId} {args : Array Value} {below : List Frame} {meth : Method} {c : Code} {Q : State → Prop} {A : Nat → Prop} {dC : Nat → ClassId} {dI : Nat → Nat → Nat} {cI cZ cJ cA : ClassId} {h0 : Nat} {a : Nat → Nat} {r8 : Nat → Nat} {r9 : Nat → Nat} (N : Nat) (C0 : z_Cx p s m args c cX2_crash 3 wsX2_crash RX2 R 1 22 A dC dI (z_ty cI cZ cJ cA)) : ∀ (n : Nat) {v1 : Int32} {v2 : Int32} {x10 : Int32} {x11 : Int32} {x12 : Int32} {x13 : Int32} {x14 : Int32} {x15 : Int32} {f0 : (Nat → Int32)} {f1 : (Nat → Int32)} {f2 : (Nat → Int32)} {f3 : (Nat → Int32)} {f4 : (Nat → Int32)} {f5 : (Nat → Int32)} {f6 : (Nat → Int32)} {f7 : (Nat → Int32)} {V8 : (Nat → Nat → Int32)} {V9 : (Nat → Nat → Int32)} {o : Int32} {H : Heap} {locs : List Loc} {ls : Array Slot}, q_X2_crash_L4 N x13 f1 f2 f4 n v1 v2 = some o → va_P (dC, dI) vwCl (wX2 cI cZ cJ cA h0 a r8 r9 x10 x11 x12 x13 x14 x15 f0 f1 f2 f3 f4 f5 f6 f7 V8 V9) H → va_D A (wX2 cI cZ cJ cA h0 a r8 r9 x10 x11 x12 x13 x14 x15 f0 f1 f2 f3 f4 f5 f6 f7 V8 V9) → va_S A s.heap H locs → lv_has ls 3 [(0, .ref h0), (1, .int v1), (2, .int v2)] →
    (∀ (H : Heap) (locs : List Loc) (ls : Array Slot), va_P (dC, dI) vwCl (wX2 cI cZ cJ cA h0 a r8 r9 x10 x11 x12 x13 x14 x15 f0 f1 f2 f3 f4 f5 f6 f7 V8 V9) H → va_D A (wX2 cI cZ cJ cA h0 a r8 r9 x10 x11 x12 x13 x14 x15 f0 f1 f2 f3 f4 f5 f6 f7 V8 V9) → va_S A s.heap H locs → lv_has ls 3 [(0, .ref h0), (1, .int o)] → W p l e R s m args below meth c H locs 0 0 Q (F0 m 32 ls [])) →
    W p l e R s m args below meth c H locs 0 0 Q (F0 m 4 ls []) := by
  obtain ⟨⟨hx, hb, hml, hown, hts⟩, hRf, hRl, hA, hN, hK⟩ := C0
  intro n
  induction n with
  | zero =>
    intro v1 v2 x10 x11 x12 x13 x14 x15 f0 f1 f2 f3 f4 f5 f6 f7 V8 V9 o H locs ls hf
    cases hf
  | succ n ih =>
    intro v1 v2 x10 x11 x12 x13 x14 x15 f0 f1 f2 f3 f4 f5 f6 f7 V8 V9 o H locs ls hf hP hD hS hl hexit
    rw [q_X2_crash_L4] at hf
    refine lv_iload_n hx hb dX2_crash_4 rfl (lv_at hl 2 rfl) ?_
    refine lv_aload_n hx hb dX2_crash_5 rfl (lv_at hl 0 rfl) ?_
    refine va_get (D := (dC, dI)) (ci := 2) (v := .int x13) (C := RX2) (T := TX2) (N := 16) hx hb hts (fun w hw => List.mem_cons_of_mem _ (List.mem_append_right _ hw)) hown hK hP 0 rfl rfl 13 (by decide) (hts (.fieldLink RX2 54 "OldStadium$Hippodrome" "chariots" "I") (List.mem_of_getElem? (i := 1) rfl)) (fun _ h9 => h9) rfl dX2_crash_6 ?_
    refine lv_icmp_ge (tgt := 32) hx hb dX2_crash_9 (by decide) (fun c1 => ?_) (fun c1 => ?_)
    · replace hf := z_ip hf c1
      obtain rfl := Option.some.inj hf
      exact hexit _ _ _ hP hD hS (lv_sub hl [0, 1] rfl)
    · replace hf := z_im hf c1
      refine lv_aload_n hx hb dX2_crash_12 rfl (lv_at hl 0 rfl) ?_
      refine lv_iload_n hx hb dX2_crash_13 rfl (lv_at hl 2 rfl) ?_
      obtain ⟨o2, ho2, hf1⟩ := z_ib hf
      replace hf := hf1
      clear hf1
      refine z_Vi (As := [.int v2]) (rest := []) (w := (wX2 cI cZ cJ cA h0 a r8 r9 x10 x11 x12 x13 x14 x15 f0 f1 f2 f3 f4 f5 f6 f7 V8 V9)) (w1 := (wX2 cI cZ cJ cA h0 a r8 r9 x10 x11 x12 x13 x14 x15 f0 f1 f2 f3 f4 f5 f6 f7 V8 V9)) ⟨hx, hb, hml, hown, hts⟩ (k_X2_sharesCell l dC dI cI cZ cJ cA h0 a r8 r9 H.size N v2 x10 x11 x12 x13 x14 x15 f0 f1 f2 f3 f4 f5 f6 f7 V8 V9 o2 ho2) (cwV 1 hts gX2_crash_X2_sharesCell rfl rfl rfl (by decide +kernel) ⟨Nat.le_trans (Nat.le_of_ble_eq_true rfl) hRf, Nat.le_trans (Nat.le_of_ble_eq_true rfl) hRl⟩) hK hP hD hS hA hN (ci := 2) rfl rfl rfl rfl hl.1 rfl (Nat.le_of_ble_eq_true rfl) dX2_crash_14 (fun H locs hP hD hS => ?_)
      refine lv_if_eq (tgt := 26) hx hb dX2_crash_17 (by decide) (fun c3 => ?_) (fun c3 => ?_)
      · replace hf := z_ip hf c3
        refine lv_iinc (v := (v2 + 1)) (lv' := [(2, .int (v2 + 1)), (0, .ref h0), (1, .int v1)]) hx hb dX2_crash_26 hl (k := 2) rfl rfl (by decide) rfl (fun ls hl => ?_)
        refine lv_goto (tgt := 4) hx hb dX2_crash_29 (by decide) ?_
        exact ih hf hP hD hS (lv_sub hl [1, 2, 0] rfl) hexit
      · replace hf := z_im hf c3
        refine lv_iload_n hx hb dX2_crash_20 rfl (lv_at hl 1 rfl) ?_
        refine lv_iconst (v := 1) hx hb dX2_crash_21 (by decide) ?_
        refine lv_iload_n hx hb dX2_crash_22 rfl (lv_at hl 2 rfl) ?_
        refine lv_ishl hx hb dX2_crash_23 ?_
        refine lv_ior hx hb dX2_crash_24 ?_
        refine lv_istore_n (lv' := [(1, .int (v1 ||| ((1 : Int32) <<< (v2 &&& 31)))), (0, .ref h0), (2, .int v2)]) hx hb dX2_crash_25 rfl hl (by decide) rfl (fun ls hl => ?_)
        refine lv_iinc (v := (v2 + 1)) (lv' := [(2, .int (v2 + 1)), (1, .int (v1 ||| ((1 : Int32) <<< (v2 &&& 31)))), (0, .ref h0)]) hx hb dX2_crash_26 hl (k := 2) rfl rfl (by decide) rfl (fun ls hl => ?_)
        refine lv_goto (tgt := 4) hx hb dX2_crash_29 (by decide) ?_
        exact ih hf hP hD hS (lv_sub hl [2, 1, 0] rfl) hexit
def q_X2_crash_L34 (N : Nat) (v1 : Int32) (x13 : Int32) (x14 : Int32) : Nat → Int32 → (Nat → Int32) → (Nat → Int32) → Option ((Nat → Int32) × (Nat → Int32))
  | 0, _, _, _ => none
  | n + 1, v2, f4, f5 =>
    (if x13 ≤ v2 then
     (some (f4, f5))
    else
     (Option.bind (q_X4_hasBit N v1 v2) (fun o2 =>
     (if o2 = 0 then
      (q_X2_crash_L34 N v1 x13 x14 n (v2 + 1) f4 f5)
     else
      (if z_in v2 8 then
      (q_X2_crash_L34 N v1 x13 x14 n (v2 + 1) (upd f4 (Int32.toNatClampNeg v2) 3) (upd f5 (Int32.toNatClampNeg v2) x14))
      else none)))))
set_option maxHeartbeats 4000000 in
set_option maxRecDepth 100000 in
theorem b_X2_crash_L34 {p : Program} {l : Launch} {e : Env} {R : Room} {s : State} {m : MethodId} {args : Array Value} {below : List Frame} {meth : Method} {c : Code} {Q : State → Prop} {A : Nat → Prop} {dC : Nat → ClassId} {dI : Nat → Nat → Nat} {cI cZ cJ cA : ClassId} {h0 : Nat} {a : Nat → Nat} {r8 : Nat → Nat} {r9 : Nat → Nat} (N : Nat) (C0 : z_Cx p s m args c cX2_crash 3 wsX2_crash RX2 R 1 22 A dC dI (z_ty cI cZ cJ cA)) : ∀ (n : Nat) {v1 : Int32} {v2 : Int32} {x10 : Int32} {x11 : Int32} {x12 : Int32} {x13 : Int32} {x14 : Int32} {x15 : Int32} {f0 : (Nat → Int32)} {f1 : (Nat → Int32)} {f2 : (Nat → Int32)} {f3 : (Nat → Int32)} {f4 : (Nat → Int32)} {f5 : (Nat → Int32)} {f6 : (Nat → Int32)} {f7 : (Nat → Int32)} {V8 : (Nat → Nat → Int32)} {V9 : (Nat → Nat → Int32)} {o : ((Nat → Int32) × (Nat → Int32))} {H : Heap} {locs : List Loc} {ls : Array Slot}, q_X2_crash_L34 N v1 x13 x14 n v2 f4 f5 = some o → va_P (dC, dI) vwCl (wX2 cI cZ cJ cA h0 a r8 r9 x10 x11 x12 x13 x14 x15 f0 f1 f2 f3 f4 f5 f6 f7 V8 V9) H → va_D A (wX2 cI cZ cJ cA h0 a r8 r9 x10 x11 x12 x13 x14 x15 f0 f1 f2 f3 f4 f5 f6 f7 V8 V9) → va_S A s.heap H locs → lv_has ls 3 [(0, .ref h0), (1, .int v1), (2, .int v2)] →
    (∀ (H : Heap) (locs : List Loc) (ls : Array Slot), va_P (dC, dI) vwCl (wX2 cI cZ cJ cA h0 a r8 r9 x10 x11 x12 x13 x14 x15 f0 f1 f2 f3 o.1 o.2 f6 f7 V8 V9) H → va_D A (wX2 cI cZ cJ cA h0 a r8 r9 x10 x11 x12 x13 x14 x15 f0 f1 f2 f3 o.1 o.2 f6 f7 V8 V9) → va_S A s.heap H locs → lv_has ls 3 [] → W p l e R s m args below meth c H locs 0 0 Q (F0 m 73 ls [])) →
    W p l e R s m args below meth c H locs 0 0 Q (F0 m 34 ls []) := by
  obtain ⟨⟨hx, hb, hml, hown, hts⟩, hRf, hRl, hA, hN, hK⟩ := C0
  intro n
  induction n with
  | zero =>
    intro v1 v2 x10 x11 x12 x13 x14 x15 f0 f1 f2 f3 f4 f5 f6 f7 V8 V9 o H locs ls hf
    cases hf
  | succ n ih =>
    intro v1 v2 x10 x11 x12 x13 x14 x15 f0 f1 f2 f3 f4 f5 f6 f7 V8 V9 o H locs ls hf hP hD hS hl hexit
    rw [q_X2_crash_L34] at hf
    refine lv_iload_n hx hb dX2_crash_34 rfl (lv_at hl 2 rfl) ?_
    refine lv_aload_n hx hb dX2_crash_35 rfl (lv_at hl 0 rfl) ?_
    refine va_get (D := (dC, dI)) (ci := 2) (v := .int x13) (C := RX2) (T := TX2) (N := 16) hx hb hts (fun w hw => List.mem_cons_of_mem _ (List.mem_append_right _ hw)) hown hK hP 0 rfl rfl 13 (by decide) (hts (.fieldLink RX2 54 "OldStadium$Hippodrome" "chariots" "I") (List.mem_of_getElem? (i := 1) rfl)) (fun _ h9 => h9) rfl dX2_crash_36 ?_
    refine lv_icmp_ge (tgt := 73) hx hb dX2_crash_39 (by decide) (fun c1 => ?_) (fun c1 => ?_)
    · replace hf := z_ip hf c1
      obtain rfl := Option.some.inj hf
      exact hexit _ _ _ hP hD hS (lv_sub hl [] rfl)
    · replace hf := z_im hf c1
      refine lv_iload_n hx hb dX2_crash_42 rfl (lv_at hl 1 rfl) ?_
      refine lv_iload_n hx hb dX2_crash_43 rfl (lv_at hl 2 rfl) ?_
      obtain ⟨o2, ho2, hf1⟩ := z_ib hf
      replace hf := hf1
      clear hf1
      refine z_SN0 (As := [.int v1, .int v2]) (rest := []) ⟨hx, hb, hml, hown, hts⟩ (k_X4_hasBit l dC dI cI cZ cJ cA H.size N v1 v2 o2 ho2) ⟨va_cnB 2 hts gX2_crash_X4_hasBit_n102 rfl rfl rfl (hN _ (List.mem_of_getElem? (i := 7) rfl)) (hts (.initialized RX4) (List.mem_of_getElem? (i := 13) rfl)) (by decide +kernel) ⟨Nat.le_trans (Nat.le_of_ble_eq_true rfl) hRf, Nat.le_trans (Nat.le_of_ble_eq_true rfl) hRl⟩, (hts (.static yX4_hasBit) (List.mem_of_getElem? (i := 12) rfl)), trivial⟩ hK hP hS hA hN rfl hl.1 rfl (Nat.le_of_ble_eq_true rfl) dX2_crash_44 (fun H locs hP hS => ?_)
      refine lv_if_eq (tgt := 67) hx hb dX2_crash_47 (by decide) (fun c3 => ?_) (fun c3 => ?_)
      · replace hf := z_ip hf c3
        refine lv_iinc (v := (v2 + 1)) (lv' := [(2, .int (v2 + 1)), (0, .ref h0), (1, .int v1)]) hx hb dX2_crash_67 hl (k := 2) rfl rfl (by decide) rfl (fun ls hl => ?_)
        refine lv_goto (tgt := 34) hx hb dX2_crash_70 (by decide) ?_
        exact ih hf hP hD hS (lv_sub hl [1, 2, 0] rfl) hexit
      · replace hf := z_im hf c3
        refine lv_aload_n hx hb dX2_crash_50 rfl (lv_at hl 0 rfl) ?_
        refine va_get (D := (dC, dI)) (ci := 2) (v := .ref (a 4)) (C := RX2) (T := TX2) (N := 16) hx hb hts (fun w hw => List.mem_cons_of_mem _ (List.mem_append_right _ hw)) hown hK hP 0 rfl rfl 4 (by decide) (hts (.fieldLink RX2 24 "OldStadium$Hippodrome" "state" "[I") (List.mem_of_getElem? (i := 2) rfl)) (fun _ h9 => h9) rfl dX2_crash_51 ?_
        refine lv_iload_n hx hb dX2_crash_54 rfl (lv_at hl 2 rfl) ?_
        refine lv_iconst (v := 3) hx hb dX2_crash_55 (by decide) ?_
        have b4 := z_c1 hf
        replace hf := z_c2 hf
        refine va_iast hx hb hK hP hD hS 5 0 rfl rfl b4 dX2_crash_56 (fun H locs hP hD hS => ?_)
        replace hP : va_P (dC, dI) vwCl (wX2 cI cZ cJ cA h0 a r8 r9 x10 x11 x12 x13 x14 x15 f0 f1 f2 f3 (upd f4 (Int32.toNatClampNeg v2) 3) f5 f6 f7 V8 V9) H := hP
        replace hD : va_D A (wX2 cI cZ cJ cA h0 a r8 r9 x10 x11 x12 x13 x14 x15 f0 f1 f2 f3 (upd f4 (Int32.toNatClampNeg v2) 3) f5 f6 f7 V8 V9) := hD
        refine lv_aload_n hx hb dX2_crash_57 rfl (lv_at hl 0 rfl) ?_
        refine va_get (D := (dC, dI)) (ci := 2) (v := .ref (a 5)) (C := RX2) (T := TX2) (N := 16) hx hb hts (fun w hw => List.mem_cons_of_mem _ (List.mem_append_right _ hw)) hown hK hP 0 rfl rfl 5 (by decide) (hts (.fieldLink RX2 27 "OldStadium$Hippodrome" "endTick" "[I") (List.mem_of_getElem? (i := 3) rfl)) (fun _ h9 => h9) rfl dX2_crash_58 ?_
        refine lv_iload_n hx hb dX2_crash_61 rfl (lv_at hl 2 rfl) ?_
        refine lv_aload_n hx hb dX2_crash_62 rfl (lv_at hl 0 rfl) ?_
        refine va_get (D := (dC, dI)) (ci := 2) (v := .int x14) (C := RX2) (T := TX2) (N := 16) hx hb hts (fun w hw => List.mem_cons_of_mem _ (List.mem_append_right _ hw)) hown hK hP 0 rfl rfl 14 (by decide) (hts (.fieldLink RX2 57 "OldStadium$Hippodrome" "tick" "I") (List.mem_of_getElem? (i := 4) rfl)) (fun _ h9 => h9) rfl dX2_crash_63 ?_
        refine va_iast hx hb hK hP hD hS 6 0 rfl rfl b4 dX2_crash_66 (fun H locs hP hD hS => ?_)
        replace hP : va_P (dC, dI) vwCl (wX2 cI cZ cJ cA h0 a r8 r9 x10 x11 x12 x13 x14 x15 f0 f1 f2 f3 (upd f4 (Int32.toNatClampNeg v2) 3) (upd f5 (Int32.toNatClampNeg v2) x14) f6 f7 V8 V9) H := hP
        replace hD : va_D A (wX2 cI cZ cJ cA h0 a r8 r9 x10 x11 x12 x13 x14 x15 f0 f1 f2 f3 (upd f4 (Int32.toNatClampNeg v2) 3) (upd f5 (Int32.toNatClampNeg v2) x14) f6 f7 V8 V9) := hD
        refine lv_iinc (v := (v2 + 1)) (lv' := [(2, .int (v2 + 1)), (0, .ref h0), (1, .int v1)]) hx hb dX2_crash_67 hl (k := 2) rfl rfl (by decide) rfl (fun ls hl => ?_)
        refine lv_goto (tgt := 34) hx hb dX2_crash_70 (by decide) ?_
        exact ih hf hP hD hS (lv_sub hl [1, 2, 0] rfl) hexit
def q_X2_crash (N : Nat) (x13 : Int32) (x14 : Int32) (f1 : (Nat → Int32)) (f2 : (Nat → Int32)) (f4 : (Nat → Int32)) (f5 : (Nat → Int32)) : Option ((Nat → Int32) × (Nat → Int32)) :=
  (Option.bind (q_X2_crash_L4 N x13 f1 f2 f4 N 0 0) (fun t1 =>
  (Option.bind (q_X2_crash_L34 N t1 x13 x14 N 0 f4 f5) (fun t2 =>
  (some (t2.1, t2.2))))))
set_option maxHeartbeats 4000000 in
set_option maxRecDepth 100000 in
theorem b_X2_crash {p : Program} {l : Launch} {e : Env} {R : Room} {s : State} {m : MethodId} {args : Array Value} {below : List Frame} {meth : Method} {c : Code} {Q : State → Prop} {A : Nat → Prop} {dC : Nat → ClassId} {dI : Nat → Nat → Nat} {cI cZ cJ cA : ClassId} {h0 : Nat} {a : Nat → Nat} {r8 : Nat → Nat} {r9 : Nat → Nat} (N : Nat) (C0 : z_Cx p s m args c cX2_crash 3 wsX2_crash RX2 R 1 22 A dC dI (z_ty cI cZ cJ cA)) {x10 : Int32} {x11 : Int32} {x12 : Int32} {x13 : Int32} {x14 : Int32} {x15 : Int32} {f0 : (Nat → Int32)} {f1 : (Nat → Int32)} {f2 : (Nat → Int32)} {f3 : (Nat → Int32)} {f4 : (Nat → Int32)} {f5 : (Nat → Int32)} {f6 : (Nat → Int32)} {f7 : (Nat → Int32)} {V8 : (Nat → Nat → Int32)} {V9 : (Nat → Nat → Int32)} {o : ((Nat → Int32) × (Nat → Int32))} {H : Heap} {locs : List Loc} {ls : Array Slot} (hf : q_X2_crash N x13 x14 f1 f2 f4 f5 = some o) (hP : va_P (dC, dI) vwCl (wX2 cI cZ cJ cA h0 a r8 r9 x10 x11 x12 x13 x14 x15 f0 f1 f2 f3 f4 f5 f6 f7 V8 V9) H) (hD : va_D A (wX2 cI cZ cJ cA h0 a r8 r9 x10 x11 x12 x13 x14 x15 f0 f1 f2 f3 f4 f5 f6 f7 V8 V9)) (hS : va_S A s.heap H locs) (hl : lv_has ls 3 [(0, .ref h0)])
    (hret : ∀ (pc : Nat) (H : Heap) (locs : List Loc) (ls : Array Slot), decode cX2_crash pc = .ok (.return_, 1) → va_P (dC, dI) vwCl (wX2 cI cZ cJ cA h0 a r8 r9 x10 x11 x12 x13 x14 x15 f0 f1 f2 f3 o.1 o.2 f6 f7 V8 V9) H → va_D A (wX2 cI cZ cJ cA h0 a r8 r9 x10 x11 x12 x13 x14 x15 f0 f1 f2 f3 o.1 o.2 f6 f7 V8 V9) → va_S A s.heap H locs → W p l e R s m args below meth c H locs 0 0 Q (F0 m pc ls [])) :
    W p l e R s m args below meth c H locs 0 0 Q (F0 m 0 ls []) := by
  obtain ⟨⟨hx, hb, hml, hown, hts⟩, hRf, hRl, hA, hN, hK⟩ := C0
  unfold q_X2_crash at hf
  refine lv_iconst (v := 0) hx hb dX2_crash_0 (by decide) ?_
  refine lv_istore_n (lv' := [(1, .int 0), (0, .ref h0)]) hx hb dX2_crash_1 rfl hl (by decide) rfl (fun ls hl => ?_)
  refine lv_iconst (v := 0) hx hb dX2_crash_2 (by decide) ?_
  refine lv_istore_n (lv' := [(2, .int 0), (1, .int 0), (0, .ref h0)]) hx hb dX2_crash_3 rfl hl (by decide) rfl (fun ls hl => ?_)
  obtain ⟨t1, ht1, hf1⟩ := z_ib hf
  replace hf := hf1
  clear hf1
  refine b_X2_crash_L4 N ⟨⟨hx, hb, hml, hown, hts⟩, hRf, hRl, hA, hN, hK⟩ N ht1 hP hD hS (lv_sub hl [2, 1, 0] rfl) (fun H locs ls hP hD hS hl => ?_)
  refine lv_iconst (v := 0) hx hb dX2_crash_32 (by decide) ?_
  refine lv_istore_n (lv' := [(2, .int 0), (0, .ref h0), (1, .int t1)]) hx hb dX2_crash_33 rfl hl (by decide) rfl (fun ls hl => ?_)
  obtain ⟨t2, ht2, hf1⟩ := z_ib hf
  replace hf := hf1
  clear hf1
  refine b_X2_crash_L34 N ⟨⟨hx, hb, hml, hown, hts⟩, hRf, hRl, hA, hN, hK⟩ N ht2 hP hD hS (lv_sub hl [1, 2, 0] rfl) (fun H locs ls hP hD hS hl => ?_)
  obtain rfl := Option.some.inj hf
  exact hret _ _ _ _ dX2_crash_73 hP hD hS
set_option maxHeartbeats 4000000 in
set_option maxRecDepth 100000 in
theorem k_X2_crash (l : Launch) (dC : Nat → ClassId) (dI : Nat → Nat → Nat) (cI cZ cJ cA : ClassId) (h0 : Nat) (a : Nat → Nat) (r8 : Nat → Nat) (r9 : Nat → Nat) (sz : Nat) (N : Nat) (x10 : Int32) (x11 : Int32) (x12 : Int32) (x13 : Int32) (x14 : Int32) (x15 : Int32) (f0 : (Nat → Int32)) (f1 : (Nat → Int32)) (f2 : (Nat → Int32)) (f3 : (Nat → Int32)) (f4 : (Nat → Int32)) (f5 : (Nat → Int32)) (f6 : (Nat → Int32)) (f7 : (Nat → Int32)) (V8 : (Nat → Nat → Int32)) (V9 : (Nat → Nat → Int32)) (o : ((Nat → Int32) × (Nat → Int32))) (hf : q_X2_crash N x13 x14 f1 f2 f4 f5 = some o) : Met l yX2_crash wsX2_crash ({ frames := 1, cells := 0, slots := 0, locals := 22 } : Room) (z_Pre dC dI (z_ty cI cZ cJ cA) [.ref h0] sz (wX2 cI cZ cJ cA h0 a r8 r9 x10 x11 x12 x13 x14 x15 f0 f1 f2 f3 f4 f5 f6 f7 V8 V9)) (z_Pv dC dI (wX2 cI cZ cJ cA h0 a r8 r9 x10 x11 x12 x13 x14 x15 f0 f1 f2 f3 o.1 o.2 f6 f7 V8 V9) sz (wX2 cI cZ cJ cA h0 a r8 r9 x10 x11 x12 x13 x14 x15 f0 f1 f2 f3 f4 f5 f6 f7 V8 V9)) 0 0 (va_A (wX2 cI cZ cJ cA h0 a r8 r9 x10 x11 x12 x13 x14 x15 f0 f1 f2 f3 f4 f5 f6 f7 V8 V9) sz) := by
  refine Met.ofW (cc := cX2_crash) (maxL := 3) (ret := none) (by decide) rfl ?_
  intro p e s m args below meth c s₁ B hml hv
  obtain ⟨rfl, hsz, hP, hK, hD0, hN⟩ := hv
  subst hsz
  have hl := lv_entry ([.ref h0]) (n := 3) (Nat.le_of_ble_eq_true rfl)
  rw [lg_entry_eq]
  refine b_X2_crash N ⟨⟨B.exec, B.bytes, hml, findClass_of_methodNamed B.named, atoms_spec (ws := wsX2_crash) B.pre⟩, Nat.le_refl _, Nat.le_refl _, fun q h => Or.inr h, hN, hK⟩ hf hP hD0.self va_S.rf hl (fun pc H locs ls hd hP hD hS => ?_)
  exact W.vret B.exec B.bytes B.returns (fun t ht hW => ⟨⟨(), rfl, trivial, by rw [ht]; exact hP, hD⟩, hS.F ht⟩) hS.2.2 hd
def q_X2_actOf (N : Nat) (v1 : Int32) (x14 : Int32) (f0 : (Nat → Int32)) (f7 : (Nat → Int32)) : Option Int32 :=
  (if z_in v1 8 then
  (if (f7 (Int32.toNatClampNeg v1)) ≤ 0 then
   (some (-1))
  else
   (Option.bind (q_J9_floorMod_7cf53 N ((x14 - 1) - (f0 (Int32.toNatClampNeg v1))) (f7 (Int32.toNatClampNeg v1))) (fun o3 =>
   (some o3))))
  else none)
set_option maxHeartbeats 4000000 in
set_option maxRecDepth 100000 in
theorem b_X2_actOf {p : Program} {l : Launch} {e : Env} {R : Room} {s : State} {m : MethodId} {args : Array Value} {below : List Frame} {meth : Method} {c : Code} {Q : State → Prop} {A : Nat → Prop} {dC : Nat → ClassId} {dI : Nat → Nat → Nat} {cI cZ cJ cA : ClassId} {h0 : Nat} {a : Nat → Nat} {r8 : Nat → Nat} {r9 : Nat → Nat} (N : Nat) (C0 : z_Cx p s m args c cX2_actOf 2 wsX2_actOf RX2 R 1 22 A dC dI (z_ty cI cZ cJ cA)) {v1 : Int32} {x10 : Int32} {x11 : Int32} {x12 : Int32} {x13 : Int32} {x14 : Int32} {x15 : Int32} {f0 : (Nat → Int32)} {f1 : (Nat → Int32)} {f2 : (Nat → Int32)} {f3 : (Nat → Int32)} {f4 : (Nat → Int32)} {f5 : (Nat → Int32)} {f6 : (Nat → Int32)} {f7 : (Nat → Int32)} {V8 : (Nat → Nat → Int32)} {V9 : (Nat → Nat → Int32)} {o : Int32} {H : Heap} {locs : List Loc} {ls : Array Slot} (hf : q_X2_actOf N v1 x14 f0 f7 = some o) (hP : va_P (dC, dI) vwCl (wX2 cI cZ cJ cA h0 a r8 r9 x10 x11 x12 x13 x14 x15 f0 f1 f2 f3 f4 f5 f6 f7 V8 V9) H) (hD : va_D A (wX2 cI cZ cJ cA h0 a r8 r9 x10 x11 x12 x13 x14 x15 f0 f1 f2 f3 f4 f5 f6 f7 V8 V9)) (hS : va_S A s.heap H locs) (hl : lv_has ls 2 [(0, .ref h0), (1, .int v1)])
    (hret : ∀ (pc : Nat) (H : Heap) (locs : List Loc) (ls : Array Slot) (r : Int32), decode cX2_actOf pc = .ok (.ireturn, 1) → r = o → va_P (dC, dI) vwCl (wX2 cI cZ cJ cA h0 a r8 r9 x10 x11 x12 x13 x14 x15 f0 f1 f2 f3 f4 f5 f6 f7 V8 V9) H → va_D A (wX2 cI cZ cJ cA h0 a r8 r9 x10 x11 x12 x13 x14 x15 f0 f1 f2 f3 f4 f5 f6 f7 V8 V9) → va_S A s.heap H locs → W p l e R s m args below meth c H locs 0 0 Q (F0 m pc ls [.int r])) :
    W p l e R s m args below meth c H locs 0 0 Q (F0 m 0 ls []) := by
  obtain ⟨⟨hx, hb, hml, hown, hts⟩, hRf, hRl, hA, hN, hK⟩ := C0
  unfold q_X2_actOf at hf
  refine lv_aload_n hx hb dX2_actOf_0 rfl (lv_at hl 0 rfl) ?_
  refine va_get (D := (dC, dI)) (ci := 2) (v := .ref (a 7)) (C := RX2) (T := TX2) (N := 16) hx hb hts (fun w hw => List.mem_cons_of_mem _ (List.mem_append_right _ hw)) hown hK hP 0 rfl rfl 7 (by decide) (hts (.fieldLink RX2 33 "OldStadium$Hippodrome" "acts" "[I") (List.mem_of_getElem? (i := 1) rfl)) (fun _ h9 => h9) rfl dX2_actOf_1 ?_
  refine lv_iload_n hx hb dX2_actOf_4 rfl (lv_at hl 1 rfl) ?_
  have b1 := z_c1 hf
  replace hf := z_c2 hf
  refine va_iald hx hb hK hP 8 0 rfl rfl b1 dX2_actOf_5 ?_
  refine lv_if_le (tgt := 34) hx hb dX2_actOf_6 (by decide) (fun c2 => ?_) (fun c2 => ?_)
  · replace hf := z_ip hf c2
    refine lv_iconst (v := (-1)) hx hb dX2_actOf_34 (by decide) ?_
    obtain rfl := Option.some.inj hf
    exact hret _ _ _ _ _ dX2_actOf_35 rfl hP hD hS
  · replace hf := z_im hf c2
    refine lv_aload_n hx hb dX2_actOf_9 rfl (lv_at hl 0 rfl) ?_
    refine va_get (D := (dC, dI)) (ci := 2) (v := .int x14) (C := RX2) (T := TX2) (N := 16) hx hb hts (fun w hw => List.mem_cons_of_mem _ (List.mem_append_right _ hw)) hown hK hP 0 rfl rfl 14 (by decide) (hts (.fieldLink RX2 57 "OldStadium$Hippodrome" "tick" "I") (List.mem_of_getElem? (i := 2) rfl)) (fun _ h9 => h9) rfl dX2_actOf_10 ?_
    refine lv_iconst (v := 1) hx hb dX2_actOf_13 (by decide) ?_
    refine lv_isub hx hb dX2_actOf_14 ?_
    refine lv_aload_n hx hb dX2_actOf_15 rfl (lv_at hl 0 rfl) ?_
    refine va_get (D := (dC, dI)) (ci := 2) (v := .ref (a 0)) (C := RX2) (T := TX2) (N := 16) hx hb hts (fun w hw => List.mem_cons_of_mem _ (List.mem_append_right _ hw)) hown hK hP 0 rfl rfl 0 (by decide) (hts (.fieldLink RX2 11 "OldStadium$Hippodrome" "delay" "[I") (List.mem_of_getElem? (i := 3) rfl)) (fun _ h9 => h9) rfl dX2_actOf_16 ?_
    refine lv_iload_n hx hb dX2_actOf_19 rfl (lv_at hl 1 rfl) ?_
    refine va_iald hx hb hK hP 1 0 rfl rfl b1 dX2_actOf_20 ?_
    refine lv_isub hx hb dX2_actOf_21 ?_
    refine lv_aload_n hx hb dX2_actOf_22 rfl (lv_at hl 0 rfl) ?_
    refine va_get (D := (dC, dI)) (ci := 2) (v := .ref (a 7)) (C := RX2) (T := TX2) (N := 16) hx hb hts (fun w hw => List.mem_cons_of_mem _ (List.mem_append_right _ hw)) hown hK hP 0 rfl rfl 7 (by decide) (hts (.fieldLink RX2 33 "OldStadium$Hippodrome" "acts" "[I") (List.mem_of_getElem? (i := 1) rfl)) (fun _ h9 => h9) rfl dX2_actOf_23 ?_
    refine lv_iload_n hx hb dX2_actOf_26 rfl (lv_at hl 1 rfl) ?_
    refine va_iald hx hb hK hP 8 0 rfl rfl b1 dX2_actOf_27 ?_
    obtain ⟨o3, ho3, hf1⟩ := z_ib hf
    replace hf := hf1
    clear hf1
    refine z_S0 (As := [.int ((x14 - 1) - (f0 (Int32.toNatClampNeg v1))), .int (f7 (Int32.toNatClampNeg v1))]) (rest := []) ⟨hx, hb, hml, hown, hts⟩ (k_J9_floorMod_7cf53 l dC dI cI cZ cJ cA H.size N ((x14 - 1) - (f0 (Int32.toNatClampNeg v1))) (f7 (Int32.toNatClampNeg v1)) o3 ho3) (va_cwS 2 hts gX2_actOf_J9_floorMod_7cf53 rfl rfl rfl (by decide +kernel) ⟨Nat.le_trans (Nat.le_of_ble_eq_true rfl) hRf, Nat.le_trans (Nat.le_of_ble_eq_true rfl) hRl⟩) hK hP hS hA hN rfl hl.1 rfl (Nat.le_of_ble_eq_true rfl) dX2_actOf_28 (fun H locs hP hS => ?_)
    refine lv_goto (tgt := 35) hx hb dX2_actOf_31 (by decide) ?_
    obtain rfl := Option.some.inj hf
    exact hret _ _ _ _ _ dX2_actOf_35 rfl hP hD hS
set_option maxHeartbeats 4000000 in
set_option maxRecDepth 100000 in
theorem k_X2_actOf (l : Launch) (dC : Nat → ClassId) (dI : Nat → Nat → Nat) (cI cZ cJ cA : ClassId) (h0 : Nat) (a : Nat → Nat) (r8 : Nat → Nat) (r9 : Nat → Nat) (sz : Nat) (N : Nat) (v1 : Int32) (x10 : Int32) (x11 : Int32) (x12 : Int32) (x13 : Int32) (x14 : Int32) (x15 : Int32) (f0 : (Nat → Int32)) (f1 : (Nat → Int32)) (f2 : (Nat → Int32)) (f3 : (Nat → Int32)) (f4 : (Nat → Int32)) (f5 : (Nat → Int32)) (f6 : (Nat → Int32)) (f7 : (Nat → Int32)) (V8 : (Nat → Nat → Int32)) (V9 : (Nat → Nat → Int32)) (o : Int32) (hf : q_X2_actOf N v1 x14 f0 f7 = some o) : Met l yX2_actOf wsX2_actOf ({ frames := 1, cells := 0, slots := 0, locals := 22 } : Room) (z_Pre dC dI (z_ty cI cZ cJ cA) [.ref h0, .int v1] sz (wX2 cI cZ cJ cA h0 a r8 r9 x10 x11 x12 x13 x14 x15 f0 f1 f2 f3 f4 f5 f6 f7 V8 V9)) (z_Pi dC dI o (wX2 cI cZ cJ cA h0 a r8 r9 x10 x11 x12 x13 x14 x15 f0 f1 f2 f3 f4 f5 f6 f7 V8 V9) sz (wX2 cI cZ cJ cA h0 a r8 r9 x10 x11 x12 x13 x14 x15 f0 f1 f2 f3 f4 f5 f6 f7 V8 V9)) 0 0 (va_A (wX2 cI cZ cJ cA h0 a r8 r9 x10 x11 x12 x13 x14 x15 f0 f1 f2 f3 f4 f5 f6 f7 V8 V9) sz) := by
  refine Met.ofW (cc := cX2_actOf) (maxL := 2) (ret := (some .int)) (by decide) rfl ?_
  intro p e s m args below meth c s₁ B hml hv
  obtain ⟨rfl, hsz, hP, hK, hD0, hN⟩ := hv
  subst hsz
  have hl := lv_entry ([.ref h0, .int v1]) (n := 2) (Nat.le_of_ble_eq_true rfl)
  rw [lg_entry_eq]
  refine b_X2_actOf N ⟨⟨B.exec, B.bytes, hml, findClass_of_methodNamed B.named, atoms_spec (ws := wsX2_actOf) B.pre⟩, Nat.le_refl _, Nat.le_refl _, fun q h => Or.inr h, hN, hK⟩ hf hP hD0.self va_S.rf hl (fun pc H locs ls r hd hr hP hD hS => ?_)
  subst hr
  exact W.iret B.exec B.bytes B.returns (fun t ht hW => ⟨⟨_, (), rfl, rfl, by rw [ht]; exact hP, hD⟩, hS.F ht⟩) hS.2.2 hd
def q_X2_goForward_L2 (N : Nat) (v1 : Int32) (x11 : Int32) (x13 : Int32) (x14 : Int32) (f0 : (Nat → Int32)) (f4 : (Nat → Int32)) (f7 : (Nat → Int32)) (V8 : (Nat → Nat → Int32)) : Nat → Int32 → (Nat → Int32) → (Nat → Int32) → Option ((Nat → Int32) × (Nat → Int32))
  | 0, _, _, _ => none
  | n + 1, v2, f2, f3 =>
    (if x13 ≤ v2 then
     (some (f2, f3))
    else
     (Option.bind (q_X2_actOf N v2 x14 f0 f7) (fun o2 =>
     (if z_in v2 8 then
     (if (f4 (Int32.toNatClampNeg v2)) = 1 then
      (if o2 < 0 then
       (q_X2_goForward_L2 N v1 x11 x13 x14 f0 f4 f7 V8 n (v2 + 1) f2 f3)
      else
       (if z_in o2 12 then
       (if (V8 (Int32.toNatClampNeg v2) (Int32.toNatClampNeg o2)) < v1 then
        (q_X2_goForward_L2 N v1 x11 x13 x14 f0 f4 f7 V8 n (v2 + 1) f2 f3)
       else
        (if ((upd f2 (Int32.toNatClampNeg v2) ((f2 (Int32.toNatClampNeg v2)) + 1)) (Int32.toNatClampNeg v2)) < x11 then
         (q_X2_goForward_L2 N v1 x11 x13 x14 f0 f4 f7 V8 n (v2 + 1) (upd f2 (Int32.toNatClampNeg v2) ((f2 (Int32.toNatClampNeg v2)) + 1)) f3)
        else
         (q_X2_goForward_L2 N v1 x11 x13 x14 f0 f4 f7 V8 n (v2 + 1) (upd (upd f2 (Int32.toNatClampNeg v2) ((f2 (Int32.toNatClampNeg v2)) + 1)) (Int32.toNatClampNeg v2) 0) (upd f3 (Int32.toNatClampNeg v2) ((f3 (Int32.toNatClampNeg v2)) + 1)))))
       else none))
     else
      (q_X2_goForward_L2 N v1 x11 x13 x14 f0 f4 f7 V8 n (v2 + 1) f2 f3))
     else none))))
set_option maxHeartbeats 4000000 in
set_option maxRecDepth 100000 in
theorem b_X2_goForward_L2 {p : Program} {l : Launch} {e : Env} {R : Room} {s : State} {m : MethodId} {args : Array Value} {below : List Frame} {meth : Method} {c : Code} {Q : State → Prop} {A : Nat → Prop} {dC : Nat → ClassId} {dI : Nat → Nat → Nat} {cI cZ cJ cA : ClassId} {h0 : Nat} {a : Nat → Nat} {r8 : Nat → Nat} {r9 : Nat → Nat} (N : Nat) (C0 : z_Cx p s m args c cX2_goForward 4 wsX2_goForward RX2 R 2 43 A dC dI (z_ty cI cZ cJ cA)) : ∀ (n : Nat) {v1 : Int32} {v2 : Int32} {x10 : Int32} {x11 : Int32} {x12 : Int32} {x13 : Int32} {x14 : Int32} {x15 : Int32} {f0 : (Nat → Int32)} {f1 : (Nat → Int32)} {f2 : (Nat → Int32)} {f3 : (Nat → Int32)} {f4 : (Nat → Int32)} {f5 : (Nat → Int32)} {f6 : (Nat → Int32)} {f7 : (Nat → Int32)} {V8 : (Nat → Nat → Int32)} {V9 : (Nat → Nat → Int32)} {o : ((Nat → Int32) × (Nat → Int32))} {H : Heap} {locs : List Loc} {ls : Array Slot}, q_X2_goForward_L2 N v1 x11 x13 x14 f0 f4 f7 V8 n v2 f2 f3 = some o → va_P (dC, dI) vwCl (wX2 cI cZ cJ cA h0 a r8 r9 x10 x11 x12 x13 x14 x15 f0 f1 f2 f3 f4 f5 f6 f7 V8 V9) H → va_D A (wX2 cI cZ cJ cA h0 a r8 r9 x10 x11 x12 x13 x14 x15 f0 f1 f2 f3 f4 f5 f6 f7 V8 V9) → va_S A s.heap H locs → lv_has ls 4 [(0, .ref h0), (1, .int v1), (2, .int v2)] →
    (∀ (H : Heap) (locs : List Loc) (ls : Array Slot), va_P (dC, dI) vwCl (wX2 cI cZ cJ cA h0 a r8 r9 x10 x11 x12 x13 x14 x15 f0 f1 o.1 o.2 f4 f5 f6 f7 V8 V9) H → va_D A (wX2 cI cZ cJ cA h0 a r8 r9 x10 x11 x12 x13 x14 x15 f0 f1 o.1 o.2 f4 f5 f6 f7 V8 V9) → va_S A s.heap H locs → lv_has ls 4 [] → W p l e R s m args below meth c H locs 0 0 Q (F0 m 88 ls [])) →
    W p l e R s m args below meth c H locs 0 0 Q (F0 m 2 ls []) := by
  obtain ⟨⟨hx, hb, hml, hown, hts⟩, hRf, hRl, hA, hN, hK⟩ := C0
  intro n
  induction n with
  | zero =>
    intro v1 v2 x10 x11 x12 x13 x14 x15 f0 f1 f2 f3 f4 f5 f6 f7 V8 V9 o H locs ls hf
    cases hf
  | succ n ih =>
    intro v1 v2 x10 x11 x12 x13 x14 x15 f0 f1 f2 f3 f4 f5 f6 f7 V8 V9 o H locs ls hf hP hD hS hl hexit
    rw [q_X2_goForward_L2] at hf
    refine lv_iload_n hx hb dX2_goForward_2 rfl (lv_at hl 2 rfl) ?_
    refine lv_aload_n hx hb dX2_goForward_3 rfl (lv_at hl 0 rfl) ?_
    refine va_get (D := (dC, dI)) (ci := 2) (v := .int x13) (C := RX2) (T := TX2) (N := 16) hx hb hts (fun w hw => List.mem_cons_of_mem _ (List.mem_append_right _ hw)) hown hK hP 0 rfl rfl 13 (by decide) (hts (.fieldLink RX2 54 "OldStadium$Hippodrome" "chariots" "I") (List.mem_of_getElem? (i := 1) rfl)) (fun _ h9 => h9) rfl dX2_goForward_4 ?_
    refine lv_icmp_ge (tgt := 88) hx hb dX2_goForward_7 (by decide) (fun c1 => ?_) (fun c1 => ?_)
    · replace hf := z_ip hf c1
      obtain rfl := Option.some.inj hf
      exact hexit _ _ _ hP hD hS (lv_sub hl [] rfl)
    · replace hf := z_im hf c1
      refine lv_aload_n hx hb dX2_goForward_10 rfl (lv_at hl 0 rfl) ?_
      refine lv_iload_n hx hb dX2_goForward_11 rfl (lv_at hl 2 rfl) ?_
      obtain ⟨o2, ho2, hf1⟩ := z_ib hf
      replace hf := hf1
      clear hf1
      refine z_Vi (As := [.int v2]) (rest := []) (w := (wX2 cI cZ cJ cA h0 a r8 r9 x10 x11 x12 x13 x14 x15 f0 f1 f2 f3 f4 f5 f6 f7 V8 V9)) (w1 := (wX2 cI cZ cJ cA h0 a r8 r9 x10 x11 x12 x13 x14 x15 f0 f1 f2 f3 f4 f5 f6 f7 V8 V9)) ⟨hx, hb, hml, hown, hts⟩ (k_X2_actOf l dC dI cI cZ cJ cA h0 a r8 r9 H.size N v2 x10 x11 x12 x13 x14 x15 f0 f1 f2 f3 f4 f5 f6 f7 V8 V9 o2 ho2) (cwV 1 hts gX2_goForward_X2_actOf rfl rfl rfl (by decide +kernel) ⟨Nat.le_trans (Nat.le_of_ble_eq_true rfl) hRf, Nat.le_trans (Nat.le_of_ble_eq_true rfl) hRl⟩) hK hP hD hS hA hN (ci := 2) rfl rfl rfl rfl hl.1 rfl (Nat.le_of_ble_eq_true rfl) dX2_goForward_12 (fun H locs hP hD hS => ?_)
      refine lv_istore_n (lv' := [(3, .int o2), (0, .ref h0), (1, .int v1), (2, .int v2)]) hx hb dX2_goForward_15 rfl hl (by decide) rfl (fun ls hl => ?_)
      refine lv_aload_n hx hb dX2_goForward_16 rfl (lv_at hl 1 rfl) ?_
      refine va_get (D := (dC, dI)) (ci := 2) (v := .ref (a 4)) (C := RX2) (T := TX2) (N := 16) hx hb hts (fun w hw => List.mem_cons_of_mem _ (List.mem_append_right _ hw)) hown hK hP 0 rfl rfl 4 (by decide) (hts (.fieldLink RX2 24 "OldStadium$Hippodrome" "state" "[I") (List.mem_of_getElem? (i := 2) rfl)) (fun _ h9 => h9) rfl dX2_goForward_17 ?_
      refine lv_iload_n hx hb dX2_goForward_20 rfl (lv_at hl 3 rfl) ?_
      have b3 := z_c1 hf
      replace hf := z_c2 hf
      refine va_iald hx hb hK hP 5 0 rfl rfl b3 dX2_goForward_21 ?_
      refine lv_iconst (v := 1) hx hb dX2_goForward_22 (by decide) ?_
      refine lv_icmp_ne (tgt := 82) hx hb dX2_goForward_23 (by decide) (fun c4 => ?_) (fun c4 => ?_)
      · replace hf := z_im hf c4
        refine lv_iinc (v := (v2 + 1)) (lv' := [(2, .int (v2 + 1)), (3, .int o2), (0, .ref h0), (1, .int v1)]) hx hb dX2_goForward_82 hl (k := 3) rfl rfl (by decide) rfl (fun ls hl => ?_)
        refine lv_goto (tgt := 2) hx hb dX2_goForward_85 (by decide) ?_
        exact ih hf hP hD hS (lv_sub hl [2, 3, 0] rfl) hexit
      · replace hf := z_ip hf c4
        refine lv_iload_n hx hb dX2_goForward_26 rfl (lv_at hl 0 rfl) ?_
        refine lv_if_lt (tgt := 82) hx hb dX2_goForward_27 (by decide) (fun c5 => ?_) (fun c5 => ?_)
        · replace hf := z_ip hf c5
          refine lv_iinc (v := (v2 + 1)) (lv' := [(2, .int (v2 + 1)), (3, .int o2), (0, .ref h0), (1, .int v1)]) hx hb dX2_goForward_82 hl (k := 3) rfl rfl (by decide) rfl (fun ls hl => ?_)
          refine lv_goto (tgt := 2) hx hb dX2_goForward_85 (by decide) ?_
          exact ih hf hP hD hS (lv_sub hl [2, 3, 0] rfl) hexit
        · replace hf := z_im hf c5
          refine lv_aload_n hx hb dX2_goForward_30 rfl (lv_at hl 1 rfl) ?_
          refine va_get (D := (dC, dI)) (ci := 2) (v := .ref (a 8)) (C := RX2) (T := TX2) (N := 16) hx hb hts (fun w hw => List.mem_cons_of_mem _ (List.mem_append_right _ hw)) hown hK hP 0 rfl rfl 8 (by decide) (hts (.fieldLink RX2 38 "OldStadium$Hippodrome" "forward" "[[I") (List.mem_of_getElem? (i := 3) rfl)) (fun _ h9 => h9) rfl dX2_goForward_31 ?_
          refine lv_iload_n hx hb dX2_goForward_34 rfl (lv_at hl 3 rfl) ?_
          refine z_aald (H0 := s.heap) hx hb hK hP 9 3 rfl rfl b3 dX2_goForward_35 ?_
          refine lv_iload_n hx hb dX2_goForward_36 rfl (lv_at hl 0 rfl) ?_
          have b6 := z_c1 hf
          replace hf := z_c2 hf
          refine va_iald hx hb hK hP (11 + (Int32.toNatClampNeg v2)) 0 (zrX2_8 (z_lt b3)) rfl b6 dX2_goForward_37 ?_
          refine lv_iload_n hx hb dX2_goForward_38 rfl (lv_at hl 2 rfl) ?_
          refine lv_icmp_lt (tgt := 82) hx hb dX2_goForward_39 (by decide) (fun c7 => ?_) (fun c7 => ?_)
          · replace hf := z_ip hf c7
            refine lv_iinc (v := (v2 + 1)) (lv' := [(2, .int (v2 + 1)), (3, .int o2), (0, .ref h0), (1, .int v1)]) hx hb dX2_goForward_82 hl (k := 3) rfl rfl (by decide) rfl (fun ls hl => ?_)
            refine lv_goto (tgt := 2) hx hb dX2_goForward_85 (by decide) ?_
            exact ih hf hP hD hS (lv_sub hl [2, 3, 0] rfl) hexit
          · replace hf := z_im hf c7
            refine lv_aload_n hx hb dX2_goForward_42 rfl (lv_at hl 1 rfl) ?_
            refine va_get (D := (dC, dI)) (ci := 2) (v := .ref (a 2)) (C := RX2) (T := TX2) (N := 16) hx hb hts (fun w hw => List.mem_cons_of_mem _ (List.mem_append_right _ hw)) hown hK hP 0 rfl rfl 2 (by decide) (hts (.fieldLink RX2 18 "OldStadium$Hippodrome" "cell" "[I") (List.mem_of_getElem? (i := 4) rfl)) (fun _ h9 => h9) rfl dX2_goForward_43 ?_
            refine lv_iload_n hx hb dX2_goForward_46 rfl (lv_at hl 3 rfl) ?_
            refine lv_dup2_11 hx hb dX2_goForward_47 rfl rfl ?_
            refine va_iald hx hb hK hP 3 0 rfl rfl b3 dX2_goForward_48 ?_
            refine lv_iconst (v := 1) hx hb dX2_goForward_49 (by decide) ?_
            refine lv_iadd hx hb dX2_goForward_50 ?_
            refine va_iast hx hb hK hP hD hS 3 0 rfl rfl b3 dX2_goForward_51 (fun H locs hP hD hS => ?_)
            replace hP : va_P (dC, dI) vwCl (wX2 cI cZ cJ cA h0 a r8 r9 x10 x11 x12 x13 x14 x15 f0 f1 (upd f2 (Int32.toNatClampNeg v2) ((f2 (Int32.toNatClampNeg v2)) + 1)) f3 f4 f5 f6 f7 V8 V9) H := hP
            replace hD : va_D A (wX2 cI cZ cJ cA h0 a r8 r9 x10 x11 x12 x13 x14 x15 f0 f1 (upd f2 (Int32.toNatClampNeg v2) ((f2 (Int32.toNatClampNeg v2)) + 1)) f3 f4 f5 f6 f7 V8 V9) := hD
            refine lv_aload_n hx hb dX2_goForward_52 rfl (lv_at hl 1 rfl) ?_
            refine va_get (D := (dC, dI)) (ci := 2) (v := .ref (a 2)) (C := RX2) (T := TX2) (N := 16) hx hb hts (fun w hw => List.mem_cons_of_mem _ (List.mem_append_right _ hw)) hown hK hP 0 rfl rfl 2 (by decide) (hts (.fieldLink RX2 18 "OldStadium$Hippodrome" "cell" "[I") (List.mem_of_getElem? (i := 4) rfl)) (fun _ h9 => h9) rfl dX2_goForward_53 ?_
            refine lv_iload_n hx hb dX2_goForward_56 rfl (lv_at hl 3 rfl) ?_
            refine va_iald hx hb hK hP 3 0 rfl rfl b3 dX2_goForward_57 ?_
            refine lv_aload_n hx hb dX2_goForward_58 rfl (lv_at hl 1 rfl) ?_
            refine va_get (D := (dC, dI)) (ci := 2) (v := .int x11) (C := RX2) (T := TX2) (N := 16) hx hb hts (fun w hw => List.mem_cons_of_mem _ (List.mem_append_right _ hw)) hown hK hP 0 rfl rfl 11 (by decide) (hts (.fieldLink RX2 48 "OldStadium$Hippodrome" "cells" "I") (List.mem_of_getElem? (i := 5) rfl)) (fun _ h9 => h9) rfl dX2_goForward_59 ?_
            refine lv_icmp_lt (tgt := 82) hx hb dX2_goForward_62 (by decide) (fun c8 => ?_) (fun c8 => ?_)
            · replace hf := z_ip hf c8
              refine lv_iinc (v := (v2 + 1)) (lv' := [(2, .int (v2 + 1)), (3, .int o2), (0, .ref h0), (1, .int v1)]) hx hb dX2_goForward_82 hl (k := 3) rfl rfl (by decide) rfl (fun ls hl => ?_)
              refine lv_goto (tgt := 2) hx hb dX2_goForward_85 (by decide) ?_
              exact ih hf hP hD hS (lv_sub hl [2, 3, 0] rfl) hexit
            · replace hf := z_im hf c8
              refine lv_aload_n hx hb dX2_goForward_65 rfl (lv_at hl 1 rfl) ?_
              refine va_get (D := (dC, dI)) (ci := 2) (v := .ref (a 2)) (C := RX2) (T := TX2) (N := 16) hx hb hts (fun w hw => List.mem_cons_of_mem _ (List.mem_append_right _ hw)) hown hK hP 0 rfl rfl 2 (by decide) (hts (.fieldLink RX2 18 "OldStadium$Hippodrome" "cell" "[I") (List.mem_of_getElem? (i := 4) rfl)) (fun _ h9 => h9) rfl dX2_goForward_66 ?_
              refine lv_iload_n hx hb dX2_goForward_69 rfl (lv_at hl 3 rfl) ?_
              refine lv_iconst (v := 0) hx hb dX2_goForward_70 (by decide) ?_
              refine va_iast hx hb hK hP hD hS 3 0 rfl rfl b3 dX2_goForward_71 (fun H locs hP hD hS => ?_)
              replace hP : va_P (dC, dI) vwCl (wX2 cI cZ cJ cA h0 a r8 r9 x10 x11 x12 x13 x14 x15 f0 f1 (upd (upd f2 (Int32.toNatClampNeg v2) ((f2 (Int32.toNatClampNeg v2)) + 1)) (Int32.toNatClampNeg v2) 0) f3 f4 f5 f6 f7 V8 V9) H := hP
              replace hD : va_D A (wX2 cI cZ cJ cA h0 a r8 r9 x10 x11 x12 x13 x14 x15 f0 f1 (upd (upd f2 (Int32.toNatClampNeg v2) ((f2 (Int32.toNatClampNeg v2)) + 1)) (Int32.toNatClampNeg v2) 0) f3 f4 f5 f6 f7 V8 V9) := hD
              refine lv_aload_n hx hb dX2_goForward_72 rfl (lv_at hl 1 rfl) ?_
              refine va_get (D := (dC, dI)) (ci := 2) (v := .ref (a 3)) (C := RX2) (T := TX2) (N := 16) hx hb hts (fun w hw => List.mem_cons_of_mem _ (List.mem_append_right _ hw)) hown hK hP 0 rfl rfl 3 (by decide) (hts (.fieldLink RX2 21 "OldStadium$Hippodrome" "lapsDone" "[I") (List.mem_of_getElem? (i := 6) rfl)) (fun _ h9 => h9) rfl dX2_goForward_73 ?_
              refine lv_iload_n hx hb dX2_goForward_76 rfl (lv_at hl 3 rfl) ?_
              refine lv_dup2_11 hx hb dX2_goForward_77 rfl rfl ?_
              refine va_iald hx hb hK hP 4 0 rfl rfl b3 dX2_goForward_78 ?_
              refine lv_iconst (v := 1) hx hb dX2_goForward_79 (by decide) ?_
              refine lv_iadd hx hb dX2_goForward_80 ?_
              refine va_iast hx hb hK hP hD hS 4 0 rfl rfl b3 dX2_goForward_81 (fun H locs hP hD hS => ?_)
              replace hP : va_P (dC, dI) vwCl (wX2 cI cZ cJ cA h0 a r8 r9 x10 x11 x12 x13 x14 x15 f0 f1 (upd (upd f2 (Int32.toNatClampNeg v2) ((f2 (Int32.toNatClampNeg v2)) + 1)) (Int32.toNatClampNeg v2) 0) (upd f3 (Int32.toNatClampNeg v2) ((f3 (Int32.toNatClampNeg v2)) + 1)) f4 f5 f6 f7 V8 V9) H := hP
              replace hD : va_D A (wX2 cI cZ cJ cA h0 a r8 r9 x10 x11 x12 x13 x14 x15 f0 f1 (upd (upd f2 (Int32.toNatClampNeg v2) ((f2 (Int32.toNatClampNeg v2)) + 1)) (Int32.toNatClampNeg v2) 0) (upd f3 (Int32.toNatClampNeg v2) ((f3 (Int32.toNatClampNeg v2)) + 1)) f4 f5 f6 f7 V8 V9) := hD
              refine lv_iinc (v := (v2 + 1)) (lv' := [(2, .int (v2 + 1)), (3, .int o2), (0, .ref h0), (1, .int v1)]) hx hb dX2_goForward_82 hl (k := 3) rfl rfl (by decide) rfl (fun ls hl => ?_)
              refine lv_goto (tgt := 2) hx hb dX2_goForward_85 (by decide) ?_
              exact ih hf hP hD hS (lv_sub hl [2, 3, 0] rfl) hexit
def q_X2_goForward (N : Nat) (v1 : Int32) (x11 : Int32) (x13 : Int32) (x14 : Int32) (f0 : (Nat → Int32)) (f2 : (Nat → Int32)) (f3 : (Nat → Int32)) (f4 : (Nat → Int32)) (f7 : (Nat → Int32)) (V8 : (Nat → Nat → Int32)) : Option ((Nat → Int32) × (Nat → Int32)) :=
  (Option.bind (q_X2_goForward_L2 N v1 x11 x13 x14 f0 f4 f7 V8 N 0 f2 f3) (fun t1 =>
  (some (t1.1, t1.2))))
set_option maxHeartbeats 4000000 in
set_option maxRecDepth 100000 in
theorem b_X2_goForward {p : Program} {l : Launch} {e : Env} {R : Room} {s : State} {m : MethodId} {args : Array Value} {below : List Frame} {meth : Method} {c : Code} {Q : State → Prop} {A : Nat → Prop} {dC : Nat → ClassId} {dI : Nat → Nat → Nat} {cI cZ cJ cA : ClassId} {h0 : Nat} {a : Nat → Nat} {r8 : Nat → Nat} {r9 : Nat → Nat} (N : Nat) (C0 : z_Cx p s m args c cX2_goForward 4 wsX2_goForward RX2 R 2 43 A dC dI (z_ty cI cZ cJ cA)) {v1 : Int32} {x10 : Int32} {x11 : Int32} {x12 : Int32} {x13 : Int32} {x14 : Int32} {x15 : Int32} {f0 : (Nat → Int32)} {f1 : (Nat → Int32)} {f2 : (Nat → Int32)} {f3 : (Nat → Int32)} {f4 : (Nat → Int32)} {f5 : (Nat → Int32)} {f6 : (Nat → Int32)} {f7 : (Nat → Int32)} {V8 : (Nat → Nat → Int32)} {V9 : (Nat → Nat → Int32)} {o : ((Nat → Int32) × (Nat → Int32))} {H : Heap} {locs : List Loc} {ls : Array Slot} (hf : q_X2_goForward N v1 x11 x13 x14 f0 f2 f3 f4 f7 V8 = some o) (hP : va_P (dC, dI) vwCl (wX2 cI cZ cJ cA h0 a r8 r9 x10 x11 x12 x13 x14 x15 f0 f1 f2 f3 f4 f5 f6 f7 V8 V9) H) (hD : va_D A (wX2 cI cZ cJ cA h0 a r8 r9 x10 x11 x12 x13 x14 x15 f0 f1 f2 f3 f4 f5 f6 f7 V8 V9)) (hS : va_S A s.heap H locs) (hl : lv_has ls 4 [(0, .ref h0), (1, .int v1)])
    (hret : ∀ (pc : Nat) (H : Heap) (locs : List Loc) (ls : Array Slot), decode cX2_goForward pc = .ok (.return_, 1) → va_P (dC, dI) vwCl (wX2 cI cZ cJ cA h0 a r8 r9 x10 x11 x12 x13 x14 x15 f0 f1 o.1 o.2 f4 f5 f6 f7 V8 V9) H → va_D A (wX2 cI cZ cJ cA h0 a r8 r9 x10 x11 x12 x13 x14 x15 f0 f1 o.1 o.2 f4 f5 f6 f7 V8 V9) → va_S A s.heap H locs → W p l e R s m args below meth c H locs 0 0 Q (F0 m pc ls [])) :
    W p l e R s m args below meth c H locs 0 0 Q (F0 m 0 ls []) := by
  obtain ⟨⟨hx, hb, hml, hown, hts⟩, hRf, hRl, hA, hN, hK⟩ := C0
  unfold q_X2_goForward at hf
  refine lv_iconst (v := 0) hx hb dX2_goForward_0 (by decide) ?_
  refine lv_istore_n (lv' := [(2, .int 0), (0, .ref h0), (1, .int v1)]) hx hb dX2_goForward_1 rfl hl (by decide) rfl (fun ls hl => ?_)
  obtain ⟨t1, ht1, hf1⟩ := z_ib hf
  replace hf := hf1
  clear hf1
  refine b_X2_goForward_L2 N ⟨⟨hx, hb, hml, hown, hts⟩, hRf, hRl, hA, hN, hK⟩ N ht1 hP hD hS (lv_sub hl [1, 2, 0] rfl) (fun H locs ls hP hD hS hl => ?_)
  obtain rfl := Option.some.inj hf
  exact hret _ _ _ _ dX2_goForward_88 hP hD hS
set_option maxHeartbeats 4000000 in
set_option maxRecDepth 100000 in
theorem k_X2_goForward (l : Launch) (dC : Nat → ClassId) (dI : Nat → Nat → Nat) (cI cZ cJ cA : ClassId) (h0 : Nat) (a : Nat → Nat) (r8 : Nat → Nat) (r9 : Nat → Nat) (sz : Nat) (N : Nat) (v1 : Int32) (x10 : Int32) (x11 : Int32) (x12 : Int32) (x13 : Int32) (x14 : Int32) (x15 : Int32) (f0 : (Nat → Int32)) (f1 : (Nat → Int32)) (f2 : (Nat → Int32)) (f3 : (Nat → Int32)) (f4 : (Nat → Int32)) (f5 : (Nat → Int32)) (f6 : (Nat → Int32)) (f7 : (Nat → Int32)) (V8 : (Nat → Nat → Int32)) (V9 : (Nat → Nat → Int32)) (o : ((Nat → Int32) × (Nat → Int32))) (hf : q_X2_goForward N v1 x11 x13 x14 f0 f2 f3 f4 f7 V8 = some o) : Met l yX2_goForward wsX2_goForward ({ frames := 2, cells := 0, slots := 0, locals := 43 } : Room) (z_Pre dC dI (z_ty cI cZ cJ cA) [.ref h0, .int v1] sz (wX2 cI cZ cJ cA h0 a r8 r9 x10 x11 x12 x13 x14 x15 f0 f1 f2 f3 f4 f5 f6 f7 V8 V9)) (z_Pv dC dI (wX2 cI cZ cJ cA h0 a r8 r9 x10 x11 x12 x13 x14 x15 f0 f1 o.1 o.2 f4 f5 f6 f7 V8 V9) sz (wX2 cI cZ cJ cA h0 a r8 r9 x10 x11 x12 x13 x14 x15 f0 f1 f2 f3 f4 f5 f6 f7 V8 V9)) 0 0 (va_A (wX2 cI cZ cJ cA h0 a r8 r9 x10 x11 x12 x13 x14 x15 f0 f1 f2 f3 f4 f5 f6 f7 V8 V9) sz) := by
  refine Met.ofW (cc := cX2_goForward) (maxL := 4) (ret := none) (by decide) rfl ?_
  intro p e s m args below meth c s₁ B hml hv
  obtain ⟨rfl, hsz, hP, hK, hD0, hN⟩ := hv
  subst hsz
  have hl := lv_entry ([.ref h0, .int v1]) (n := 4) (Nat.le_of_ble_eq_true rfl)
  rw [lg_entry_eq]
  refine b_X2_goForward N ⟨⟨B.exec, B.bytes, hml, findClass_of_methodNamed B.named, atoms_spec (ws := wsX2_goForward) B.pre⟩, Nat.le_refl _, Nat.le_refl _, fun q h => Or.inr h, hN, hK⟩ hf hP hD0.self va_S.rf hl (fun pc H locs ls hd hP hD hS => ?_)
  exact W.vret B.exec B.bytes B.returns (fun t ht hW => ⟨⟨(), rfl, trivial, by rw [ht]; exact hP, hD⟩, hS.F ht⟩) hS.2.2 hd
def q_X2_bringHome_L12 (N : Nat) (v1 : Int32) (x12 : Int32) (x13 : Int32) (x14 : Int32) (f1 : (Nat → Int32)) (f3 : (Nat → Int32)) : Nat → Int32 → Int32 → (Nat → Int32) → (Nat → Int32) → (Nat → Int32) → Option (Int32 × (Nat → Int32) × (Nat → Int32) × (Nat → Int32))
  | 0, _, _, _, _, _ => none
  | n + 1, v2, x15, f4, f5, f6 =>
    (if x13 ≤ v2 then
     (some (x15, f4, f5, f6))
    else
     (if z_in v2 8 then
     (if (f4 (Int32.toNatClampNeg v2)) = 1 then
      (if (f1 (Int32.toNatClampNeg v2)) = v1 then
       (if (f3 (Int32.toNatClampNeg v2)) < x12 then
        (q_X2_bringHome_L12 N v1 x12 x13 x14 f1 f3 n (v2 + 1) x15 f4 f5 f6)
       else
        (q_X2_bringHome_L12 N v1 x12 x13 x14 f1 f3 n (v2 + 1) (x15 + 1) (upd f4 (Int32.toNatClampNeg v2) 2) (upd f5 (Int32.toNatClampNeg v2) x14) (upd f6 (Int32.toNatClampNeg v2) (x15 + 1))))
      else
       (q_X2_bringHome_L12 N v1 x12 x13 x14 f1 f3 n (v2 + 1) x15 f4 f5 f6))
     else
      (q_X2_bringHome_L12 N v1 x12 x13 x14 f1 f3 n (v2 + 1) x15 f4 f5 f6))
     else none))
set_option maxHeartbeats 4000000 in
set_option maxRecDepth 100000 in
theorem b_X2_bringHome_L12 {p : Program} {l : Launch} {e : Env} {R : Room} {s : State} {m : MethodId} {args : Array Value} {below : List Frame} {meth : Method} {c : Code} {Q : State → Prop} {A : Nat → Prop} {dC : Nat → ClassId} {dI : Nat → Nat → Nat} {cI cZ cJ cA : ClassId} {h0 : Nat} {a : Nat → Nat} {r8 : Nat → Nat} {r9 : Nat → Nat} (N : Nat) (C0 : z_Cx p s m args c cX2_bringHome 3 wsX2_bringHome RX2 R 0 0 A dC dI (z_ty cI cZ cJ cA)) : ∀ (n : Nat) {v1 : Int32} {v2 : Int32} {x10 : Int32} {x11 : Int32} {x12 : Int32} {x13 : Int32} {x14 : Int32} {x15 : Int32} {f0 : (Nat → Int32)} {f1 : (Nat → Int32)} {f2 : (Nat → Int32)} {f3 : (Nat → Int32)} {f4 : (Nat → Int32)} {f5 : (Nat → Int32)} {f6 : (Nat → Int32)} {f7 : (Nat → Int32)} {V8 : (Nat → Nat → Int32)} {V9 : (Nat → Nat → Int32)} {o : (Int32 × (Nat → Int32) × (Nat → Int32) × (Nat → Int32))} {H : Heap} {locs : List Loc} {ls : Array Slot}, q_X2_bringHome_L12 N v1 x12 x13 x14 f1 f3 n v2 x15 f4 f5 f6 = some o → va_P (dC, dI) vwCl (wX2 cI cZ cJ cA h0 a r8 r9 x10 x11 x12 x13 x14 x15 f0 f1 f2 f3 f4 f5 f6 f7 V8 V9) H → va_D A (wX2 cI cZ cJ cA h0 a r8 r9 x10 x11 x12 x13 x14 x15 f0 f1 f2 f3 f4 f5 f6 f7 V8 V9) → va_S A s.heap H locs → lv_has ls 3 [(0, .ref h0), (1, .int v1), (2, .int v2)] →
    (∀ (H : Heap) (locs : List Loc) (ls : Array Slot), va_P (dC, dI) vwCl (wX2 cI cZ cJ cA h0 a r8 r9 x10 x11 x12 x13 x14 o.1 f0 f1 f2 f3 o.2.1 o.2.2.1 o.2.2.2 f7 V8 V9) H → va_D A (wX2 cI cZ cJ cA h0 a r8 r9 x10 x11 x12 x13 x14 o.1 f0 f1 f2 f3 o.2.1 o.2.2.1 o.2.2.2 f7 V8 V9) → va_S A s.heap H locs → lv_has ls 3 [(0, .ref h0), (1, .int v1)] → W p l e R s m args below meth c H locs 0 0 Q (F0 m 96 ls [])) →
    W p l e R s m args below meth c H locs 0 0 Q (F0 m 12 ls []) := by
  obtain ⟨⟨hx, hb, hml, hown, hts⟩, hRf, hRl, hA, hN, hK⟩ := C0
  intro n
  induction n with
  | zero =>
    intro v1 v2 x10 x11 x12 x13 x14 x15 f0 f1 f2 f3 f4 f5 f6 f7 V8 V9 o H locs ls hf
    cases hf
  | succ n ih =>
    intro v1 v2 x10 x11 x12 x13 x14 x15 f0 f1 f2 f3 f4 f5 f6 f7 V8 V9 o H locs ls hf hP hD hS hl hexit
    rw [q_X2_bringHome_L12] at hf
    refine lv_iload_n hx hb dX2_bringHome_12 rfl (lv_at hl 2 rfl) ?_
    refine lv_aload_n hx hb dX2_bringHome_13 rfl (lv_at hl 0 rfl) ?_
    refine va_get (D := (dC, dI)) (ci := 2) (v := .int x13) (C := RX2) (T := TX2) (N := 16) hx hb hts (fun w hw => List.mem_cons_of_mem _ (List.mem_append_right _ hw)) hown hK hP 0 rfl rfl 13 (by decide) (hts (.fieldLink RX2 54 "OldStadium$Hippodrome" "chariots" "I") (List.mem_of_getElem? (i := 2) rfl)) (fun _ h9 => h9) rfl dX2_bringHome_14 ?_
    refine lv_icmp_ge (tgt := 96) hx hb dX2_bringHome_17 (by decide) (fun c1 => ?_) (fun c1 => ?_)
    · replace hf := z_ip hf c1
      obtain rfl := Option.some.inj hf
      exact hexit _ _ _ hP hD hS (lv_sub hl [0, 1] rfl)
    · replace hf := z_im hf c1
      refine lv_aload_n hx hb dX2_bringHome_20 rfl (lv_at hl 0 rfl) ?_
      refine va_get (D := (dC, dI)) (ci := 2) (v := .ref (a 4)) (C := RX2) (T := TX2) (N := 16) hx hb hts (fun w hw => List.mem_cons_of_mem _ (List.mem_append_right _ hw)) hown hK hP 0 rfl rfl 4 (by decide) (hts (.fieldLink RX2 24 "OldStadium$Hippodrome" "state" "[I") (List.mem_of_getElem? (i := 3) rfl)) (fun _ h9 => h9) rfl dX2_bringHome_21 ?_
      refine lv_iload_n hx hb dX2_bringHome_24 rfl (lv_at hl 2 rfl) ?_
      have b2 := z_c1 hf
      replace hf := z_c2 hf
      refine va_iald hx hb hK hP 5 0 rfl rfl b2 dX2_bringHome_25 ?_
      refine lv_iconst (v := 1) hx hb dX2_bringHome_26 (by decide) ?_
      refine lv_icmp_ne (tgt := 90) hx hb dX2_bringHome_27 (by decide) (fun c3 => ?_) (fun c3 => ?_)
      · replace hf := z_im hf c3
        refine lv_iinc (v := (v2 + 1)) (lv' := [(2, .int (v2 + 1)), (0, .ref h0), (1, .int v1)]) hx hb dX2_bringHome_90 hl (k := 2) rfl rfl (by decide) rfl (fun ls hl => ?_)
        refine lv_goto (tgt := 12) hx hb dX2_bringHome_93 (by decide) ?_
        exact ih hf hP hD hS (lv_sub hl [1, 2, 0] rfl) hexit
      · replace hf := z_ip hf c3
        refine lv_aload_n hx hb dX2_bringHome_30 rfl (lv_at hl 0 rfl) ?_
        refine va_get (D := (dC, dI)) (ci := 2) (v := .ref (a 1)) (C := RX2) (T := TX2) (N := 16) hx hb hts (fun w hw => List.mem_cons_of_mem _ (List.mem_append_right _ hw)) hown hK hP 0 rfl rfl 1 (by decide) (hts (.fieldLink RX2 15 "OldStadium$Hippodrome" "lane" "[I") (List.mem_of_getElem? (i := 4) rfl)) (fun _ h9 => h9) rfl dX2_bringHome_31 ?_
        refine lv_iload_n hx hb dX2_bringHome_34 rfl (lv_at hl 2 rfl) ?_
        refine va_iald hx hb hK hP 2 0 rfl rfl b2 dX2_bringHome_35 ?_
        refine lv_iload_n hx hb dX2_bringHome_36 rfl (lv_at hl 1 rfl) ?_
        refine lv_icmp_ne (tgt := 90) hx hb dX2_bringHome_37 (by decide) (fun c4 => ?_) (fun c4 => ?_)
        · replace hf := z_im hf c4
          refine lv_iinc (v := (v2 + 1)) (lv' := [(2, .int (v2 + 1)), (0, .ref h0), (1, .int v1)]) hx hb dX2_bringHome_90 hl (k := 2) rfl rfl (by decide) rfl (fun ls hl => ?_)
          refine lv_goto (tgt := 12) hx hb dX2_bringHome_93 (by decide) ?_
          exact ih hf hP hD hS (lv_sub hl [1, 2, 0] rfl) hexit
        · replace hf := z_ip hf c4
          refine lv_aload_n hx hb dX2_bringHome_40 rfl (lv_at hl 0 rfl) ?_
          refine va_get (D := (dC, dI)) (ci := 2) (v := .ref (a 3)) (C := RX2) (T := TX2) (N := 16) hx hb hts (fun w hw => List.mem_cons_of_mem _ (List.mem_append_right _ hw)) hown hK hP 0 rfl rfl 3 (by decide) (hts (.fieldLink RX2 21 "OldStadium$Hippodrome" "lapsDone" "[I") (List.mem_of_getElem? (i := 5) rfl)) (fun _ h9 => h9) rfl dX2_bringHome_41 ?_
          refine lv_iload_n hx hb dX2_bringHome_44 rfl (lv_at hl 2 rfl) ?_
          refine va_iald hx hb hK hP 4 0 rfl rfl b2 dX2_bringHome_45 ?_
          refine lv_aload_n hx hb dX2_bringHome_46 rfl (lv_at hl 0 rfl) ?_
          refine va_get (D := (dC, dI)) (ci := 2) (v := .int x12) (C := RX2) (T := TX2) (N := 16) hx hb hts (fun w hw => List.mem_cons_of_mem _ (List.mem_append_right _ hw)) hown hK hP 0 rfl rfl 12 (by decide) (hts (.fieldLink RX2 51 "OldStadium$Hippodrome" "laps" "I") (List.mem_of_getElem? (i := 6) rfl)) (fun _ h9 => h9) rfl dX2_bringHome_47 ?_
          refine lv_icmp_lt (tgt := 90) hx hb dX2_bringHome_50 (by decide) (fun c5 => ?_) (fun c5 => ?_)
          · replace hf := z_ip hf c5
            refine lv_iinc (v := (v2 + 1)) (lv' := [(2, .int (v2 + 1)), (0, .ref h0), (1, .int v1)]) hx hb dX2_bringHome_90 hl (k := 2) rfl rfl (by decide) rfl (fun ls hl => ?_)
            refine lv_goto (tgt := 12) hx hb dX2_bringHome_93 (by decide) ?_
            exact ih hf hP hD hS (lv_sub hl [1, 2, 0] rfl) hexit
          · replace hf := z_im hf c5
            refine lv_aload_n hx hb dX2_bringHome_53 rfl (lv_at hl 0 rfl) ?_
            refine lv_dup hx hb dX2_bringHome_54 rfl ?_
            refine va_get (D := (dC, dI)) (ci := 2) (v := .int x15) (C := RX2) (T := TX2) (N := 16) hx hb hts (fun w hw => List.mem_cons_of_mem _ (List.mem_append_right _ hw)) hown hK hP 0 rfl rfl 15 (by decide) (hts (.fieldLink RX2 60 "OldStadium$Hippodrome" "cameHome" "I") (List.mem_of_getElem? (i := 7) rfl)) (fun _ h9 => h9) rfl dX2_bringHome_55 ?_
            refine lv_iconst (v := 1) hx hb dX2_bringHome_58 (by decide) ?_
            refine lv_iadd hx hb dX2_bringHome_59 ?_
            refine va_put (D := (dC, dI)) (ci := 2) (v := .int (x15 + 1)) (ty := .int) (C := RX2) (T := TX2) (N := 16) hx hb hts (fun w hw => List.mem_cons_of_mem _ (List.mem_append_right _ hw)) tyX2 tyX2_ok nmX2 hown hK hP hD hS 0 rfl rfl 15 (by decide) (hts (.fieldLink RX2 60 "OldStadium$Hippodrome" "cameHome" "I") (List.mem_of_getElem? (i := 7) rfl)) (fun _ h9 => h9) rfl (by decide +kernel) rfl rfl (Nat.le_of_ble_eq_true rfl) dX2_bringHome_60 (fun H locs hP hD hS => ?_)
            replace hP : va_P (dC, dI) vwCl (wX2 cI cZ cJ cA h0 a r8 r9 x10 x11 x12 x13 x14 (x15 + 1) f0 f1 f2 f3 f4 f5 f6 f7 V8 V9) H := hP
            replace hD : va_D A (wX2 cI cZ cJ cA h0 a r8 r9 x10 x11 x12 x13 x14 (x15 + 1) f0 f1 f2 f3 f4 f5 f6 f7 V8 V9) := hD
            refine lv_aload_n hx hb dX2_bringHome_63 rfl (lv_at hl 0 rfl) ?_
            refine va_get (D := (dC, dI)) (ci := 2) (v := .ref (a 4)) (C := RX2) (T := TX2) (N := 16) hx hb hts (fun w hw => List.mem_cons_of_mem _ (List.mem_append_right _ hw)) hown hK hP 0 rfl rfl 4 (by decide) (hts (.fieldLink RX2 24 "OldStadium$Hippodrome" "state" "[I") (List.mem_of_getElem? (i := 3) rfl)) (fun _ h9 => h9) rfl dX2_bringHome_64 ?_
            refine lv_iload_n hx hb dX2_bringHome_67 rfl (lv_at hl 2 rfl) ?_
            refine lv_iconst (v := 2) hx hb dX2_bringHome_68 (by decide) ?_
            refine va_iast hx hb hK hP hD hS 5 0 rfl rfl b2 dX2_bringHome_69 (fun H locs hP hD hS => ?_)
            replace hP : va_P (dC, dI) vwCl (wX2 cI cZ cJ cA h0 a r8 r9 x10 x11 x12 x13 x14 (x15 + 1) f0 f1 f2 f3 (upd f4 (Int32.toNatClampNeg v2) 2) f5 f6 f7 V8 V9) H := hP
            replace hD : va_D A (wX2 cI cZ cJ cA h0 a r8 r9 x10 x11 x12 x13 x14 (x15 + 1) f0 f1 f2 f3 (upd f4 (Int32.toNatClampNeg v2) 2) f5 f6 f7 V8 V9) := hD
            refine lv_aload_n hx hb dX2_bringHome_70 rfl (lv_at hl 0 rfl) ?_
            refine va_get (D := (dC, dI)) (ci := 2) (v := .ref (a 5)) (C := RX2) (T := TX2) (N := 16) hx hb hts (fun w hw => List.mem_cons_of_mem _ (List.mem_append_right _ hw)) hown hK hP 0 rfl rfl 5 (by decide) (hts (.fieldLink RX2 27 "OldStadium$Hippodrome" "endTick" "[I") (List.mem_of_getElem? (i := 8) rfl)) (fun _ h9 => h9) rfl dX2_bringHome_71 ?_
            refine lv_iload_n hx hb dX2_bringHome_74 rfl (lv_at hl 2 rfl) ?_
            refine lv_aload_n hx hb dX2_bringHome_75 rfl (lv_at hl 0 rfl) ?_
            refine va_get (D := (dC, dI)) (ci := 2) (v := .int x14) (C := RX2) (T := TX2) (N := 16) hx hb hts (fun w hw => List.mem_cons_of_mem _ (List.mem_append_right _ hw)) hown hK hP 0 rfl rfl 14 (by decide) (hts (.fieldLink RX2 57 "OldStadium$Hippodrome" "tick" "I") (List.mem_of_getElem? (i := 9) rfl)) (fun _ h9 => h9) rfl dX2_bringHome_76 ?_
            refine va_iast hx hb hK hP hD hS 6 0 rfl rfl b2 dX2_bringHome_79 (fun H locs hP hD hS => ?_)
            replace hP : va_P (dC, dI) vwCl (wX2 cI cZ cJ cA h0 a r8 r9 x10 x11 x12 x13 x14 (x15 + 1) f0 f1 f2 f3 (upd f4 (Int32.toNatClampNeg v2) 2) (upd f5 (Int32.toNatClampNeg v2) x14) f6 f7 V8 V9) H := hP
            replace hD : va_D A (wX2 cI cZ cJ cA h0 a r8 r9 x10 x11 x12 x13 x14 (x15 + 1) f0 f1 f2 f3 (upd f4 (Int32.toNatClampNeg v2) 2) (upd f5 (Int32.toNatClampNeg v2) x14) f6 f7 V8 V9) := hD
            refine lv_aload_n hx hb dX2_bringHome_80 rfl (lv_at hl 0 rfl) ?_
            refine va_get (D := (dC, dI)) (ci := 2) (v := .ref (a 6)) (C := RX2) (T := TX2) (N := 16) hx hb hts (fun w hw => List.mem_cons_of_mem _ (List.mem_append_right _ hw)) hown hK hP 0 rfl rfl 6 (by decide) (hts (.fieldLink RX2 30 "OldStadium$Hippodrome" "place" "[I") (List.mem_of_getElem? (i := 10) rfl)) (fun _ h9 => h9) rfl dX2_bringHome_81 ?_
            refine lv_iload_n hx hb dX2_bringHome_84 rfl (lv_at hl 2 rfl) ?_
            refine lv_aload_n hx hb dX2_bringHome_85 rfl (lv_at hl 0 rfl) ?_
            refine va_get (D := (dC, dI)) (ci := 2) (v := .int (x15 + 1)) (C := RX2) (T := TX2) (N := 16) hx hb hts (fun w hw => List.mem_cons_of_mem _ (List.mem_append_right _ hw)) hown hK hP 0 rfl rfl 15 (by decide) (hts (.fieldLink RX2 60 "OldStadium$Hippodrome" "cameHome" "I") (List.mem_of_getElem? (i := 7) rfl)) (fun _ h9 => h9) rfl dX2_bringHome_86 ?_
            refine va_iast hx hb hK hP hD hS 7 0 rfl rfl b2 dX2_bringHome_89 (fun H locs hP hD hS => ?_)
            replace hP : va_P (dC, dI) vwCl (wX2 cI cZ cJ cA h0 a r8 r9 x10 x11 x12 x13 x14 (x15 + 1) f0 f1 f2 f3 (upd f4 (Int32.toNatClampNeg v2) 2) (upd f5 (Int32.toNatClampNeg v2) x14) (upd f6 (Int32.toNatClampNeg v2) (x15 + 1)) f7 V8 V9) H := hP
            replace hD : va_D A (wX2 cI cZ cJ cA h0 a r8 r9 x10 x11 x12 x13 x14 (x15 + 1) f0 f1 f2 f3 (upd f4 (Int32.toNatClampNeg v2) 2) (upd f5 (Int32.toNatClampNeg v2) x14) (upd f6 (Int32.toNatClampNeg v2) (x15 + 1)) f7 V8 V9) := hD
            refine lv_iinc (v := (v2 + 1)) (lv' := [(2, .int (v2 + 1)), (0, .ref h0), (1, .int v1)]) hx hb dX2_bringHome_90 hl (k := 2) rfl rfl (by decide) rfl (fun ls hl => ?_)
            refine lv_goto (tgt := 12) hx hb dX2_bringHome_93 (by decide) ?_
            exact ih hf hP hD hS (lv_sub hl [1, 2, 0] rfl) hexit
def q_X2_bringHome_L2 (N : Nat) (x10 : Int32) (x12 : Int32) (x13 : Int32) (x14 : Int32) (f1 : (Nat → Int32)) (f3 : (Nat → Int32)) : Nat → Int32 → Int32 → (Nat → Int32) → (Nat → Int32) → (Nat → Int32) → Option (Int32 × (Nat → Int32) × (Nat → Int32) × (Nat → Int32))
  | 0, _, _, _, _, _ => none
  | n + 1, v1, x15, f4, f5, f6 =>
    (if x10 ≤ v1 then
     (some (x15, f4, f5, f6))
    else
     (Option.bind (q_X2_bringHome_L12 N v1 x12 x13 x14 f1 f3 N 0 x15 f4 f5 f6) (fun t2 =>
     (q_X2_bringHome_L2 N x10 x12 x13 x14 f1 f3 n (v1 + 1) t2.1 t2.2.1 t2.2.2.1 t2.2.2.2))))
set_option maxHeartbeats 4000000 in
set_option maxRecDepth 100000 in
theorem b_X2_bringHome_L2 {p : Program} {l : Launch} {e : Env} {R : Room} {s : State} {m : MethodId} {args : Array Value} {below : List Frame} {meth : Method} {c : Code} {Q : State → Prop} {A : Nat → Prop} {dC : Nat → ClassId} {dI : Nat → Nat → Nat} {cI cZ cJ cA : ClassId} {h0 : Nat} {a : Nat → Nat} {r8 : Nat → Nat} {r9 : Nat → Nat} (N : Nat) (C0 : z_Cx p s m args c cX2_bringHome 3 wsX2_bringHome RX2 R 0 0 A dC dI (z_ty cI cZ cJ cA)) : ∀ (n : Nat) {v1 : Int32} {x10 : Int32} {x11 : Int32} {x12 : Int32} {x13 : Int32} {x14 : Int32} {x15 : Int32} {f0 : (Nat → Int32)} {f1 : (Nat → Int32)} {f2 : (Nat → Int32)} {f3 : (Nat → Int32)} {f4 : (Nat → Int32)} {f5 : (Nat → Int32)} {f6 : (Nat → Int32)} {f7 : (Nat → Int32)} {V8 : (Nat → Nat → Int32)} {V9 : (Nat → Nat → Int32)} {o : (Int32 × (Nat → Int32) × (Nat → Int32) × (Nat → Int32))} {H : Heap} {locs : List Loc} {ls : Array Slot}, q_X2_bringHome_L2 N x10 x12 x13 x14 f1 f3 n v1 x15 f4 f5 f6 = some o → va_P (dC, dI) vwCl (wX2 cI cZ cJ cA h0 a r8 r9 x10 x11 x12 x13 x14 x15 f0 f1 f2 f3 f4 f5 f6 f7 V8 V9) H → va_D A (wX2 cI cZ cJ cA h0 a r8 r9 x10 x11 x12 x13 x14 x15 f0 f1 f2 f3 f4 f5 f6 f7 V8 V9) → va_S A s.heap H locs → lv_has ls 3 [(0, .ref h0), (1, .int v1)] →
    (∀ (H : Heap) (locs : List Loc) (ls : Array Slot), va_P (dC, dI) vwCl (wX2 cI cZ cJ cA h0 a r8 r9 x10 x11 x12 x13 x14 o.1 f0 f1 f2 f3 o.2.1 o.2.2.1 o.2.2.2 f7 V8 V9) H → va_D A (wX2 cI cZ cJ cA h0 a r8 r9 x10 x11 x12 x13 x14 o.1 f0 f1 f2 f3 o.2.1 o.2.2.1 o.2.2.2 f7 V8 V9) → va_S A s.heap H locs → lv_has ls 3 [] → W p l e R s m args below meth c H locs 0 0 Q (F0 m 102 ls [])) →
    W p l e R s m args below meth c H locs 0 0 Q (F0 m 2 ls []) := by
  obtain ⟨⟨hx, hb, hml, hown, hts⟩, hRf, hRl, hA, hN, hK⟩ := C0
  intro n
  induction n with
  | zero =>
    intro v1 x10 x11 x12 x13 x14 x15 f0 f1 f2 f3 f4 f5 f6 f7 V8 V9 o H locs ls hf
    cases hf
  | succ n ih =>
    intro v1 x10 x11 x12 x13 x14 x15 f0 f1 f2 f3 f4 f5 f6 f7 V8 V9 o H locs ls hf hP hD hS hl hexit
    rw [q_X2_bringHome_L2] at hf
    refine lv_iload_n hx hb dX2_bringHome_2 rfl (lv_at hl 1 rfl) ?_
    refine lv_aload_n hx hb dX2_bringHome_3 rfl (lv_at hl 0 rfl) ?_
    refine va_get (D := (dC, dI)) (ci := 2) (v := .int x10) (C := RX2) (T := TX2) (N := 16) hx hb hts (fun w hw => List.mem_cons_of_mem _ (List.mem_append_right _ hw)) hown hK hP 0 rfl rfl 10 (by decide) (hts (.fieldLink RX2 44 "OldStadium$Hippodrome" "lanes" "I") (List.mem_of_getElem? (i := 1) rfl)) (fun _ h9 => h9) rfl dX2_bringHome_4 ?_
    refine lv_icmp_ge (tgt := 102) hx hb dX2_bringHome_7 (by decide) (fun c1 => ?_) (fun c1 => ?_)
    · replace hf := z_ip hf c1
      obtain rfl := Option.some.inj hf
      exact hexit _ _ _ hP hD hS (lv_sub hl [] rfl)
    · replace hf := z_im hf c1
      refine lv_iconst (v := 0) hx hb dX2_bringHome_10 (by decide) ?_
      refine lv_istore_n (lv' := [(2, .int 0), (0, .ref h0), (1, .int v1)]) hx hb dX2_bringHome_11 rfl hl (by decide) rfl (fun ls hl => ?_)
      obtain ⟨t2, ht2, hf1⟩ := z_ib hf
      replace hf := hf1
      clear hf1
      refine b_X2_bringHome_L12 N ⟨⟨hx, hb, hml, hown, hts⟩, hRf, hRl, hA, hN, hK⟩ N ht2 hP hD hS (lv_sub hl [1, 2, 0] rfl) (fun H locs ls hP hD hS hl => ?_)
      refine lv_iinc (v := (v1 + 1)) (lv' := [(1, .int (v1 + 1)), (0, .ref h0)]) hx hb dX2_bringHome_96 hl (k := 1) rfl rfl (by decide) rfl (fun ls hl => ?_)
      refine lv_goto (tgt := 2) hx hb dX2_bringHome_99 (by decide) ?_
      exact ih hf hP hD hS (lv_sub hl [1, 0] rfl) hexit
def q_X2_bringHome (N : Nat) (x10 : Int32) (x12 : Int32) (x13 : Int32) (x14 : Int32) (x15 : Int32) (f1 : (Nat → Int32)) (f3 : (Nat → Int32)) (f4 : (Nat → Int32)) (f5 : (Nat → Int32)) (f6 : (Nat → Int32)) : Option (Int32 × (Nat → Int32) × (Nat → Int32) × (Nat → Int32)) :=
  (Option.bind (q_X2_bringHome_L2 N x10 x12 x13 x14 f1 f3 N 0 x15 f4 f5 f6) (fun t1 =>
  (some (t1.1, t1.2.1, t1.2.2.1, t1.2.2.2))))
set_option maxHeartbeats 4000000 in
set_option maxRecDepth 100000 in
theorem b_X2_bringHome {p : Program} {l : Launch} {e : Env} {R : Room} {s : State} {m : MethodId} {args : Array Value} {below : List Frame} {meth : Method} {c : Code} {Q : State → Prop} {A : Nat → Prop} {dC : Nat → ClassId} {dI : Nat → Nat → Nat} {cI cZ cJ cA : ClassId} {h0 : Nat} {a : Nat → Nat} {r8 : Nat → Nat} {r9 : Nat → Nat} (N : Nat) (C0 : z_Cx p s m args c cX2_bringHome 3 wsX2_bringHome RX2 R 0 0 A dC dI (z_ty cI cZ cJ cA)) {x10 : Int32} {x11 : Int32} {x12 : Int32} {x13 : Int32} {x14 : Int32} {x15 : Int32} {f0 : (Nat → Int32)} {f1 : (Nat → Int32)} {f2 : (Nat → Int32)} {f3 : (Nat → Int32)} {f4 : (Nat → Int32)} {f5 : (Nat → Int32)} {f6 : (Nat → Int32)} {f7 : (Nat → Int32)} {V8 : (Nat → Nat → Int32)} {V9 : (Nat → Nat → Int32)} {o : (Int32 × (Nat → Int32) × (Nat → Int32) × (Nat → Int32))} {H : Heap} {locs : List Loc} {ls : Array Slot} (hf : q_X2_bringHome N x10 x12 x13 x14 x15 f1 f3 f4 f5 f6 = some o) (hP : va_P (dC, dI) vwCl (wX2 cI cZ cJ cA h0 a r8 r9 x10 x11 x12 x13 x14 x15 f0 f1 f2 f3 f4 f5 f6 f7 V8 V9) H) (hD : va_D A (wX2 cI cZ cJ cA h0 a r8 r9 x10 x11 x12 x13 x14 x15 f0 f1 f2 f3 f4 f5 f6 f7 V8 V9)) (hS : va_S A s.heap H locs) (hl : lv_has ls 3 [(0, .ref h0)])
    (hret : ∀ (pc : Nat) (H : Heap) (locs : List Loc) (ls : Array Slot), decode cX2_bringHome pc = .ok (.return_, 1) → va_P (dC, dI) vwCl (wX2 cI cZ cJ cA h0 a r8 r9 x10 x11 x12 x13 x14 o.1 f0 f1 f2 f3 o.2.1 o.2.2.1 o.2.2.2 f7 V8 V9) H → va_D A (wX2 cI cZ cJ cA h0 a r8 r9 x10 x11 x12 x13 x14 o.1 f0 f1 f2 f3 o.2.1 o.2.2.1 o.2.2.2 f7 V8 V9) → va_S A s.heap H locs → W p l e R s m args below meth c H locs 0 0 Q (F0 m pc ls [])) :
    W p l e R s m args below meth c H locs 0 0 Q (F0 m 0 ls []) := by
  obtain ⟨⟨hx, hb, hml, hown, hts⟩, hRf, hRl, hA, hN, hK⟩ := C0
  unfold q_X2_bringHome at hf
  refine lv_iconst (v := 0) hx hb dX2_bringHome_0 (by decide) ?_
  refine lv_istore_n (lv' := [(1, .int 0), (0, .ref h0)]) hx hb dX2_bringHome_1 rfl hl (by decide) rfl (fun ls hl => ?_)
  obtain ⟨t1, ht1, hf1⟩ := z_ib hf
  replace hf := hf1
  clear hf1
  refine b_X2_bringHome_L2 N ⟨⟨hx, hb, hml, hown, hts⟩, hRf, hRl, hA, hN, hK⟩ N ht1 hP hD hS (lv_sub hl [1, 0] rfl) (fun H locs ls hP hD hS hl => ?_)
  obtain rfl := Option.some.inj hf
  exact hret _ _ _ _ dX2_bringHome_102 hP hD hS
set_option maxHeartbeats 4000000 in
set_option maxRecDepth 100000 in
theorem k_X2_bringHome (l : Launch) (dC : Nat → ClassId) (dI : Nat → Nat → Nat) (cI cZ cJ cA : ClassId) (h0 : Nat) (a : Nat → Nat) (r8 : Nat → Nat) (r9 : Nat → Nat) (sz : Nat) (N : Nat) (x10 : Int32) (x11 : Int32) (x12 : Int32) (x13 : Int32) (x14 : Int32) (x15 : Int32) (f0 : (Nat → Int32)) (f1 : (Nat → Int32)) (f2 : (Nat → Int32)) (f3 : (Nat → Int32)) (f4 : (Nat → Int32)) (f5 : (Nat → Int32)) (f6 : (Nat → Int32)) (f7 : (Nat → Int32)) (V8 : (Nat → Nat → Int32)) (V9 : (Nat → Nat → Int32)) (o : (Int32 × (Nat → Int32) × (Nat → Int32) × (Nat → Int32))) (hf : q_X2_bringHome N x10 x12 x13 x14 x15 f1 f3 f4 f5 f6 = some o) : Met l yX2_bringHome wsX2_bringHome ({ frames := 0, cells := 0, slots := 0, locals := 0 } : Room) (z_Pre dC dI (z_ty cI cZ cJ cA) [.ref h0] sz (wX2 cI cZ cJ cA h0 a r8 r9 x10 x11 x12 x13 x14 x15 f0 f1 f2 f3 f4 f5 f6 f7 V8 V9)) (z_Pv dC dI (wX2 cI cZ cJ cA h0 a r8 r9 x10 x11 x12 x13 x14 o.1 f0 f1 f2 f3 o.2.1 o.2.2.1 o.2.2.2 f7 V8 V9) sz (wX2 cI cZ cJ cA h0 a r8 r9 x10 x11 x12 x13 x14 x15 f0 f1 f2 f3 f4 f5 f6 f7 V8 V9)) 0 0 (va_A (wX2 cI cZ cJ cA h0 a r8 r9 x10 x11 x12 x13 x14 x15 f0 f1 f2 f3 f4 f5 f6 f7 V8 V9) sz) := by
  refine Met.ofW (cc := cX2_bringHome) (maxL := 3) (ret := none) (by decide) rfl ?_
  intro p e s m args below meth c s₁ B hml hv
  obtain ⟨rfl, hsz, hP, hK, hD0, hN⟩ := hv
  subst hsz
  have hl := lv_entry ([.ref h0]) (n := 3) (Nat.le_of_ble_eq_true rfl)
  rw [lg_entry_eq]
  refine b_X2_bringHome N ⟨⟨B.exec, B.bytes, hml, findClass_of_methodNamed B.named, atoms_spec (ws := wsX2_bringHome) B.pre⟩, Nat.le_refl _, Nat.le_refl _, fun q h => Or.inr h, hN, hK⟩ hf hP hD0.self va_S.rf hl (fun pc H locs ls hd hP hD hS => ?_)
  exact W.vret B.exec B.bytes B.returns (fun t ht hW => ⟨⟨(), rfl, trivial, by rw [ht]; exact hP, hD⟩, hS.F ht⟩) hS.2.2 hd
def q_X2_changeLanes_L2 (N : Nat) (x10 : Int32) (x13 : Int32) (x14 : Int32) (f0 : (Nat → Int32)) (f4 : (Nat → Int32)) (f7 : (Nat → Int32)) (V9 : (Nat → Nat → Int32)) : Nat → Int32 → (Nat → Int32) → Option (Nat → Int32)
  | 0, _, _ => none
  | n + 1, v1, f1 =>
    (if x13 ≤ v1 then
     (some f1)
    else
     (Option.bind (q_X2_actOf N v1 x14 f0 f7) (fun o2 =>
     (if z_in v1 8 then
     (if (f4 (Int32.toNatClampNeg v1)) = 1 then
      (if o2 < 0 then
       (q_X2_changeLanes_L2 N x10 x13 x14 f0 f4 f7 V9 n (v1 + 1) f1)
      else
       (if z_in o2 12 then
       (Option.bind (some (((f1 (Int32.toNatClampNeg v1)) + (V9 (Int32.toNatClampNeg v1) (Int32.toNatClampNeg o2))) : Int32)) (fun n7 =>
       (if n7 < 0 then
        (q_X2_changeLanes_L2 N x10 x13 x14 f0 f4 f7 V9 n (v1 + 1) (upd f1 (Int32.toNatClampNeg v1) (f1 (Int32.toNatClampNeg v1))))
       else
        (if x10 ≤ n7 then
         (q_X2_changeLanes_L2 N x10 x13 x14 f0 f4 f7 V9 n (v1 + 1) (upd f1 (Int32.toNatClampNeg v1) (f1 (Int32.toNatClampNeg v1))))
        else
         (q_X2_changeLanes_L2 N x10 x13 x14 f0 f4 f7 V9 n (v1 + 1) (upd f1 (Int32.toNatClampNeg v1) n7))))))
       else none))
     else
      (q_X2_changeLanes_L2 N x10 x13 x14 f0 f4 f7 V9 n (v1 + 1) f1))
     else none))))
set_option maxHeartbeats 4000000 in
set_option maxRecDepth 100000 in
theorem b_X2_changeLanes_L2 {p : Program} {l : Launch} {e : Env} {R : Room} {s : State} {m : MethodId} {args : Array Value} {below : List Frame} {meth : Method} {c : Code} {Q : State → Prop} {A : Nat → Prop} {dC : Nat → ClassId} {dI : Nat → Nat → Nat} {cI cZ cJ cA : ClassId} {h0 : Nat} {a : Nat → Nat} {r8 : Nat → Nat} {r9 : Nat → Nat} (N : Nat) (C0 : z_Cx p s m args c cX2_changeLanes 4 wsX2_changeLanes RX2 R 2 43 A dC dI (z_ty cI cZ cJ cA)) : ∀ (n : Nat) {v1 : Int32} {x10 : Int32} {x11 : Int32} {x12 : Int32} {x13 : Int32} {x14 : Int32} {x15 : Int32} {f0 : (Nat → Int32)} {f1 : (Nat → Int32)} {f2 : (Nat → Int32)} {f3 : (Nat → Int32)} {f4 : (Nat → Int32)} {f5 : (Nat → Int32)} {f6 : (Nat → Int32)} {f7 : (Nat → Int32)} {V8 : (Nat → Nat → Int32)} {V9 : (Nat → Nat → Int32)} {o : (Nat → Int32)} {H : Heap} {locs : List Loc} {ls : Array Slot}, q_X2_changeLanes_L2 N x10 x13 x14 f0 f4 f7 V9 n v1 f1 = some o → va_P (dC, dI) vwCl (wX2 cI cZ cJ cA h0 a r8 r9 x10 x11 x12 x13 x14 x15 f0 f1 f2 f3 f4 f5 f6 f7 V8 V9) H → va_D A (wX2 cI cZ cJ cA h0 a r8 r9 x10 x11 x12 x13 x14 x15 f0 f1 f2 f3 f4 f5 f6 f7 V8 V9) → va_S A s.heap H locs → lv_has ls 4 [(0, .ref h0), (1, .int v1)] →
    (∀ (H : Heap) (locs : List Loc) (ls : Array Slot), va_P (dC, dI) vwCl (wX2 cI cZ cJ cA h0 a r8 r9 x10 x11 x12 x13 x14 x15 f0 o f2 f3 f4 f5 f6 f7 V8 V9) H → va_D A (wX2 cI cZ cJ cA h0 a r8 r9 x10 x11 x12 x13 x14 x15 f0 o f2 f3 f4 f5 f6 f7 V8 V9) → va_S A s.heap H locs → lv_has ls 4 [] → W p l e R s m args below meth c H locs 0 0 Q (F0 m 80 ls [])) →
    W p l e R s m args below meth c H locs 0 0 Q (F0 m 2 ls []) := by
  obtain ⟨⟨hx, hb, hml, hown, hts⟩, hRf, hRl, hA, hN, hK⟩ := C0
  intro n
  induction n with
  | zero =>
    intro v1 x10 x11 x12 x13 x14 x15 f0 f1 f2 f3 f4 f5 f6 f7 V8 V9 o H locs ls hf
    cases hf
  | succ n ih =>
    intro v1 x10 x11 x12 x13 x14 x15 f0 f1 f2 f3 f4 f5 f6 f7 V8 V9 o H locs ls hf hP hD hS hl hexit
    rw [q_X2_changeLanes_L2] at hf
    refine lv_iload_n hx hb dX2_changeLanes_2 rfl (lv_at hl 1 rfl) ?_
    refine lv_aload_n hx hb dX2_changeLanes_3 rfl (lv_at hl 0 rfl) ?_
    refine va_get (D := (dC, dI)) (ci := 2) (v := .int x13) (C := RX2) (T := TX2) (N := 16) hx hb hts (fun w hw => List.mem_cons_of_mem _ (List.mem_append_right _ hw)) hown hK hP 0 rfl rfl 13 (by decide) (hts (.fieldLink RX2 54 "OldStadium$Hippodrome" "chariots" "I") (List.mem_of_getElem? (i := 1) rfl)) (fun _ h9 => h9) rfl dX2_changeLanes_4 ?_
    refine lv_icmp_ge (tgt := 80) hx hb dX2_changeLanes_7 (by decide) (fun c1 => ?_) (fun c1 => ?_)
    · replace hf := z_ip hf c1
      obtain rfl := Option.some.inj hf
      exact hexit _ _ _ hP hD hS (lv_sub hl [] rfl)
    · replace hf := z_im hf c1
      refine lv_aload_n hx hb dX2_changeLanes_10 rfl (lv_at hl 0 rfl) ?_
      refine lv_iload_n hx hb dX2_changeLanes_11 rfl (lv_at hl 1 rfl) ?_
      obtain ⟨o2, ho2, hf1⟩ := z_ib hf
      replace hf := hf1
      clear hf1
      refine z_Vi (As := [.int v1]) (rest := []) (w := (wX2 cI cZ cJ cA h0 a r8 r9 x10 x11 x12 x13 x14 x15 f0 f1 f2 f3 f4 f5 f6 f7 V8 V9)) (w1 := (wX2 cI cZ cJ cA h0 a r8 r9 x10 x11 x12 x13 x14 x15 f0 f1 f2 f3 f4 f5 f6 f7 V8 V9)) ⟨hx, hb, hml, hown, hts⟩ (k_X2_actOf l dC dI cI cZ cJ cA h0 a r8 r9 H.size N v1 x10 x11 x12 x13 x14 x15 f0 f1 f2 f3 f4 f5 f6 f7 V8 V9 o2 ho2) (cwV 1 hts gX2_changeLanes_X2_actOf rfl rfl rfl (by decide +kernel) ⟨Nat.le_trans (Nat.le_of_ble_eq_true rfl) hRf, Nat.le_trans (Nat.le_of_ble_eq_true rfl) hRl⟩) hK hP hD hS hA hN (ci := 2) rfl rfl rfl rfl hl.1 rfl (Nat.le_of_ble_eq_true rfl) dX2_changeLanes_12 (fun H locs hP hD hS => ?_)
      refine lv_istore_n (lv' := [(2, .int o2), (0, .ref h0), (1, .int v1)]) hx hb dX2_changeLanes_15 rfl hl (by decide) rfl (fun ls hl => ?_)
      refine lv_aload_n hx hb dX2_changeLanes_16 rfl (lv_at hl 1 rfl) ?_
      refine va_get (D := (dC, dI)) (ci := 2) (v := .ref (a 4)) (C := RX2) (T := TX2) (N := 16) hx hb hts (fun w hw => List.mem_cons_of_mem _ (List.mem_append_right _ hw)) hown hK hP 0 rfl rfl 4 (by decide) (hts (.fieldLink RX2 24 "OldStadium$Hippodrome" "state" "[I") (List.mem_of_getElem? (i := 2) rfl)) (fun _ h9 => h9) rfl dX2_changeLanes_17 ?_
      refine lv_iload_n hx hb dX2_changeLanes_20 rfl (lv_at hl 2 rfl) ?_
      have b3 := z_c1 hf
      replace hf := z_c2 hf
      refine va_iald hx hb hK hP 5 0 rfl rfl b3 dX2_changeLanes_21 ?_
      refine lv_iconst (v := 1) hx hb dX2_changeLanes_22 (by decide) ?_
      refine lv_icmp_ne (tgt := 74) hx hb dX2_changeLanes_23 (by decide) (fun c4 => ?_) (fun c4 => ?_)
      · replace hf := z_im hf c4
        refine lv_iinc (v := (v1 + 1)) (lv' := [(1, .int (v1 + 1)), (2, .int o2), (0, .ref h0)]) hx hb dX2_changeLanes_74 hl (k := 2) rfl rfl (by decide) rfl (fun ls hl => ?_)
        refine lv_goto (tgt := 2) hx hb dX2_changeLanes_77 (by decide) ?_
        exact ih hf hP hD hS (lv_sub hl [2, 0] rfl) hexit
      · replace hf := z_ip hf c4
        refine lv_iload_n hx hb dX2_changeLanes_26 rfl (lv_at hl 0 rfl) ?_
        refine lv_if_lt (tgt := 74) hx hb dX2_changeLanes_27 (by decide) (fun c5 => ?_) (fun c5 => ?_)
        · replace hf := z_ip hf c5
          refine lv_iinc (v := (v1 + 1)) (lv' := [(1, .int (v1 + 1)), (2, .int o2), (0, .ref h0)]) hx hb dX2_changeLanes_74 hl (k := 2) rfl rfl (by decide) rfl (fun ls hl => ?_)
          refine lv_goto (tgt := 2) hx hb dX2_changeLanes_77 (by decide) ?_
          exact ih hf hP hD hS (lv_sub hl [2, 0] rfl) hexit
        · replace hf := z_im hf c5
          refine lv_aload_n hx hb dX2_changeLanes_30 rfl (lv_at hl 1 rfl) ?_
          refine va_get (D := (dC, dI)) (ci := 2) (v := .ref (a 1)) (C := RX2) (T := TX2) (N := 16) hx hb hts (fun w hw => List.mem_cons_of_mem _ (List.mem_append_right _ hw)) hown hK hP 0 rfl rfl 1 (by decide) (hts (.fieldLink RX2 15 "OldStadium$Hippodrome" "lane" "[I") (List.mem_of_getElem? (i := 3) rfl)) (fun _ h9 => h9) rfl dX2_changeLanes_31 ?_
          refine lv_iload_n hx hb dX2_changeLanes_34 rfl (lv_at hl 2 rfl) ?_
          refine va_iald hx hb hK hP 2 0 rfl rfl b3 dX2_changeLanes_35 ?_
          refine lv_aload_n hx hb dX2_changeLanes_36 rfl (lv_at hl 1 rfl) ?_
          refine va_get (D := (dC, dI)) (ci := 2) (v := .ref (a 9)) (C := RX2) (T := TX2) (N := 16) hx hb hts (fun w hw => List.mem_cons_of_mem _ (List.mem_append_right _ hw)) hown hK hP 0 rfl rfl 9 (by decide) (hts (.fieldLink RX2 41 "OldStadium$Hippodrome" "side" "[[I") (List.mem_of_getElem? (i := 4) rfl)) (fun _ h9 => h9) rfl dX2_changeLanes_37 ?_
          refine lv_iload_n hx hb dX2_changeLanes_40 rfl (lv_at hl 2 rfl) ?_
          refine z_aald (H0 := s.heap) hx hb hK hP 10 3 rfl rfl b3 dX2_changeLanes_41 ?_
          refine lv_iload_n hx hb dX2_changeLanes_42 rfl (lv_at hl 0 rfl) ?_
          have b6 := z_c1 hf
          replace hf := z_c2 hf
          refine va_iald hx hb hK hP (19 + (Int32.toNatClampNeg v1)) 0 (zrX2_9 (z_lt b3)) rfl b6 dX2_changeLanes_43 ?_
          refine lv_iadd hx hb dX2_changeLanes_44 ?_
          obtain ⟨n7, hn7, hf1⟩ := z_ib hf
          replace hf := hf1
          clear hf1
          refine lv_topi (fun y9 ey9 => ?_)
          obtain rfl : n7 = y9 := (Option.some.inj hn7).symm.trans ey9.symm
          refine lv_istore_n (lv' := [(3, .int n7), (2, .int o2), (0, .ref h0), (1, .int v1)]) hx hb dX2_changeLanes_45 rfl hl (by decide) rfl (fun ls hl => ?_)
          refine lv_aload_n hx hb dX2_changeLanes_46 rfl (lv_at hl 2 rfl) ?_
          refine va_get (D := (dC, dI)) (ci := 2) (v := .ref (a 1)) (C := RX2) (T := TX2) (N := 16) hx hb hts (fun w hw => List.mem_cons_of_mem _ (List.mem_append_right _ hw)) hown hK hP 0 rfl rfl 1 (by decide) (hts (.fieldLink RX2 15 "OldStadium$Hippodrome" "lane" "[I") (List.mem_of_getElem? (i := 3) rfl)) (fun _ h9 => h9) rfl dX2_changeLanes_47 ?_
          refine lv_iload_n hx hb dX2_changeLanes_50 rfl (lv_at hl 3 rfl) ?_
          refine lv_iload_n hx hb dX2_changeLanes_51 rfl (lv_at hl 0 rfl) ?_
          refine lv_if_lt (tgt := 67) hx hb dX2_changeLanes_52 (by decide) (fun c8 => ?_) (fun c8 => ?_)
          · replace hf := z_ip hf c8
            refine lv_aload_n hx hb dX2_changeLanes_67 rfl (lv_at hl 2 rfl) ?_
            refine va_get (D := (dC, dI)) (ci := 2) (v := .ref (a 1)) (C := RX2) (T := TX2) (N := 16) hx hb hts (fun w hw => List.mem_cons_of_mem _ (List.mem_append_right _ hw)) hown hK hP 0 rfl rfl 1 (by decide) (hts (.fieldLink RX2 15 "OldStadium$Hippodrome" "lane" "[I") (List.mem_of_getElem? (i := 3) rfl)) (fun _ h9 => h9) rfl dX2_changeLanes_68 ?_
            refine lv_iload_n hx hb dX2_changeLanes_71 rfl (lv_at hl 3 rfl) ?_
            refine va_iald hx hb hK hP 2 0 rfl rfl b3 dX2_changeLanes_72 ?_
            refine va_iast hx hb hK hP hD hS 2 0 rfl rfl b3 dX2_changeLanes_73 (fun H locs hP hD hS => ?_)
            replace hP : va_P (dC, dI) vwCl (wX2 cI cZ cJ cA h0 a r8 r9 x10 x11 x12 x13 x14 x15 f0 (upd f1 (Int32.toNatClampNeg v1) (f1 (Int32.toNatClampNeg v1))) f2 f3 f4 f5 f6 f7 V8 V9) H := hP
            replace hD : va_D A (wX2 cI cZ cJ cA h0 a r8 r9 x10 x11 x12 x13 x14 x15 f0 (upd f1 (Int32.toNatClampNeg v1) (f1 (Int32.toNatClampNeg v1))) f2 f3 f4 f5 f6 f7 V8 V9) := hD
            refine lv_iinc (v := (v1 + 1)) (lv' := [(1, .int (v1 + 1)), (3, .int n7), (2, .int o2), (0, .ref h0)]) hx hb dX2_changeLanes_74 hl (k := 3) rfl rfl (by decide) rfl (fun ls hl => ?_)
            refine lv_goto (tgt := 2) hx hb dX2_changeLanes_77 (by decide) ?_
            exact ih hf hP hD hS (lv_sub hl [3, 0] rfl) hexit
          · replace hf := z_im hf c8
            refine lv_iload_n hx hb dX2_changeLanes_55 rfl (lv_at hl 0 rfl) ?_
            refine lv_aload_n hx hb dX2_changeLanes_56 rfl (lv_at hl 2 rfl) ?_
            refine va_get (D := (dC, dI)) (ci := 2) (v := .int x10) (C := RX2) (T := TX2) (N := 16) hx hb hts (fun w hw => List.mem_cons_of_mem _ (List.mem_append_right _ hw)) hown hK hP 0 rfl rfl 10 (by decide) (hts (.fieldLink RX2 44 "OldStadium$Hippodrome" "lanes" "I") (List.mem_of_getElem? (i := 5) rfl)) (fun _ h9 => h9) rfl dX2_changeLanes_57 ?_
            refine lv_icmp_ge (tgt := 67) hx hb dX2_changeLanes_60 (by decide) (fun c9 => ?_) (fun c9 => ?_)
            · replace hf := z_ip hf c9
              refine lv_aload_n hx hb dX2_changeLanes_67 rfl (lv_at hl 2 rfl) ?_
              refine va_get (D := (dC, dI)) (ci := 2) (v := .ref (a 1)) (C := RX2) (T := TX2) (N := 16) hx hb hts (fun w hw => List.mem_cons_of_mem _ (List.mem_append_right _ hw)) hown hK hP 0 rfl rfl 1 (by decide) (hts (.fieldLink RX2 15 "OldStadium$Hippodrome" "lane" "[I") (List.mem_of_getElem? (i := 3) rfl)) (fun _ h9 => h9) rfl dX2_changeLanes_68 ?_
              refine lv_iload_n hx hb dX2_changeLanes_71 rfl (lv_at hl 3 rfl) ?_
              refine va_iald hx hb hK hP 2 0 rfl rfl b3 dX2_changeLanes_72 ?_
              refine va_iast hx hb hK hP hD hS 2 0 rfl rfl b3 dX2_changeLanes_73 (fun H locs hP hD hS => ?_)
              replace hP : va_P (dC, dI) vwCl (wX2 cI cZ cJ cA h0 a r8 r9 x10 x11 x12 x13 x14 x15 f0 (upd f1 (Int32.toNatClampNeg v1) (f1 (Int32.toNatClampNeg v1))) f2 f3 f4 f5 f6 f7 V8 V9) H := hP
              replace hD : va_D A (wX2 cI cZ cJ cA h0 a r8 r9 x10 x11 x12 x13 x14 x15 f0 (upd f1 (Int32.toNatClampNeg v1) (f1 (Int32.toNatClampNeg v1))) f2 f3 f4 f5 f6 f7 V8 V9) := hD
              refine lv_iinc (v := (v1 + 1)) (lv' := [(1, .int (v1 + 1)), (3, .int n7), (2, .int o2), (0, .ref h0)]) hx hb dX2_changeLanes_74 hl (k := 3) rfl rfl (by decide) rfl (fun ls hl => ?_)
              refine lv_goto (tgt := 2) hx hb dX2_changeLanes_77 (by decide) ?_
              exact ih hf hP hD hS (lv_sub hl [3, 0] rfl) hexit
            · replace hf := z_im hf c9
              refine lv_iload_n hx hb dX2_changeLanes_63 rfl (lv_at hl 0 rfl) ?_
              refine lv_goto (tgt := 73) hx hb dX2_changeLanes_64 (by decide) ?_
              refine va_iast hx hb hK hP hD hS 2 0 rfl rfl b3 dX2_changeLanes_73 (fun H locs hP hD hS => ?_)
              replace hP : va_P (dC, dI) vwCl (wX2 cI cZ cJ cA h0 a r8 r9 x10 x11 x12 x13 x14 x15 f0 (upd f1 (Int32.toNatClampNeg v1) n7) f2 f3 f4 f5 f6 f7 V8 V9) H := hP
              replace hD : va_D A (wX2 cI cZ cJ cA h0 a r8 r9 x10 x11 x12 x13 x14 x15 f0 (upd f1 (Int32.toNatClampNeg v1) n7) f2 f3 f4 f5 f6 f7 V8 V9) := hD
              refine lv_iinc (v := (v1 + 1)) (lv' := [(1, .int (v1 + 1)), (3, .int n7), (2, .int o2), (0, .ref h0)]) hx hb dX2_changeLanes_74 hl (k := 3) rfl rfl (by decide) rfl (fun ls hl => ?_)
              refine lv_goto (tgt := 2) hx hb dX2_changeLanes_77 (by decide) ?_
              exact ih hf hP hD hS (lv_sub hl [3, 0] rfl) hexit
def q_X2_changeLanes (N : Nat) (x10 : Int32) (x13 : Int32) (x14 : Int32) (f0 : (Nat → Int32)) (f1 : (Nat → Int32)) (f4 : (Nat → Int32)) (f7 : (Nat → Int32)) (V9 : (Nat → Nat → Int32)) : Option (Nat → Int32) :=
  (Option.bind (q_X2_changeLanes_L2 N x10 x13 x14 f0 f4 f7 V9 N 0 f1) (fun t1 =>
  (some t1)))
set_option maxHeartbeats 4000000 in
set_option maxRecDepth 100000 in
theorem b_X2_changeLanes {p : Program} {l : Launch} {e : Env} {R : Room} {s : State} {m : MethodId} {args : Array Value} {below : List Frame} {meth : Method} {c : Code} {Q : State → Prop} {A : Nat → Prop} {dC : Nat → ClassId} {dI : Nat → Nat → Nat} {cI cZ cJ cA : ClassId} {h0 : Nat} {a : Nat → Nat} {r8 : Nat → Nat} {r9 : Nat → Nat} (N : Nat) (C0 : z_Cx p s m args c cX2_changeLanes 4 wsX2_changeLanes RX2 R 2 43 A dC dI (z_ty cI cZ cJ cA)) {x10 : Int32} {x11 : Int32} {x12 : Int32} {x13 : Int32} {x14 : Int32} {x15 : Int32} {f0 : (Nat → Int32)} {f1 : (Nat → Int32)} {f2 : (Nat → Int32)} {f3 : (Nat → Int32)} {f4 : (Nat → Int32)} {f5 : (Nat → Int32)} {f6 : (Nat → Int32)} {f7 : (Nat → Int32)} {V8 : (Nat → Nat → Int32)} {V9 : (Nat → Nat → Int32)} {o : (Nat → Int32)} {H : Heap} {locs : List Loc} {ls : Array Slot} (hf : q_X2_changeLanes N x10 x13 x14 f0 f1 f4 f7 V9 = some o) (hP : va_P (dC, dI) vwCl (wX2 cI cZ cJ cA h0 a r8 r9 x10 x11 x12 x13 x14 x15 f0 f1 f2 f3 f4 f5 f6 f7 V8 V9) H) (hD : va_D A (wX2 cI cZ cJ cA h0 a r8 r9 x10 x11 x12 x13 x14 x15 f0 f1 f2 f3 f4 f5 f6 f7 V8 V9)) (hS : va_S A s.heap H locs) (hl : lv_has ls 4 [(0, .ref h0)])
    (hret : ∀ (pc : Nat) (H : Heap) (locs : List Loc) (ls : Array Slot), decode cX2_changeLanes pc = .ok (.return_, 1) → va_P (dC, dI) vwCl (wX2 cI cZ cJ cA h0 a r8 r9 x10 x11 x12 x13 x14 x15 f0 o f2 f3 f4 f5 f6 f7 V8 V9) H → va_D A (wX2 cI cZ cJ cA h0 a r8 r9 x10 x11 x12 x13 x14 x15 f0 o f2 f3 f4 f5 f6 f7 V8 V9) → va_S A s.heap H locs → W p l e R s m args below meth c H locs 0 0 Q (F0 m pc ls [])) :
    W p l e R s m args below meth c H locs 0 0 Q (F0 m 0 ls []) := by
  obtain ⟨⟨hx, hb, hml, hown, hts⟩, hRf, hRl, hA, hN, hK⟩ := C0
  unfold q_X2_changeLanes at hf
  refine lv_iconst (v := 0) hx hb dX2_changeLanes_0 (by decide) ?_
  refine lv_istore_n (lv' := [(1, .int 0), (0, .ref h0)]) hx hb dX2_changeLanes_1 rfl hl (by decide) rfl (fun ls hl => ?_)
  obtain ⟨t1, ht1, hf1⟩ := z_ib hf
  replace hf := hf1
  clear hf1
  refine b_X2_changeLanes_L2 N ⟨⟨hx, hb, hml, hown, hts⟩, hRf, hRl, hA, hN, hK⟩ N ht1 hP hD hS (lv_sub hl [1, 0] rfl) (fun H locs ls hP hD hS hl => ?_)
  obtain rfl := Option.some.inj hf
  exact hret _ _ _ _ dX2_changeLanes_80 hP hD hS
set_option maxHeartbeats 4000000 in
set_option maxRecDepth 100000 in
theorem k_X2_changeLanes (l : Launch) (dC : Nat → ClassId) (dI : Nat → Nat → Nat) (cI cZ cJ cA : ClassId) (h0 : Nat) (a : Nat → Nat) (r8 : Nat → Nat) (r9 : Nat → Nat) (sz : Nat) (N : Nat) (x10 : Int32) (x11 : Int32) (x12 : Int32) (x13 : Int32) (x14 : Int32) (x15 : Int32) (f0 : (Nat → Int32)) (f1 : (Nat → Int32)) (f2 : (Nat → Int32)) (f3 : (Nat → Int32)) (f4 : (Nat → Int32)) (f5 : (Nat → Int32)) (f6 : (Nat → Int32)) (f7 : (Nat → Int32)) (V8 : (Nat → Nat → Int32)) (V9 : (Nat → Nat → Int32)) (o : (Nat → Int32)) (hf : q_X2_changeLanes N x10 x13 x14 f0 f1 f4 f7 V9 = some o) : Met l yX2_changeLanes wsX2_changeLanes ({ frames := 2, cells := 0, slots := 0, locals := 43 } : Room) (z_Pre dC dI (z_ty cI cZ cJ cA) [.ref h0] sz (wX2 cI cZ cJ cA h0 a r8 r9 x10 x11 x12 x13 x14 x15 f0 f1 f2 f3 f4 f5 f6 f7 V8 V9)) (z_Pv dC dI (wX2 cI cZ cJ cA h0 a r8 r9 x10 x11 x12 x13 x14 x15 f0 o f2 f3 f4 f5 f6 f7 V8 V9) sz (wX2 cI cZ cJ cA h0 a r8 r9 x10 x11 x12 x13 x14 x15 f0 f1 f2 f3 f4 f5 f6 f7 V8 V9)) 0 0 (va_A (wX2 cI cZ cJ cA h0 a r8 r9 x10 x11 x12 x13 x14 x15 f0 f1 f2 f3 f4 f5 f6 f7 V8 V9) sz) := by
  refine Met.ofW (cc := cX2_changeLanes) (maxL := 4) (ret := none) (by decide) rfl ?_
  intro p e s m args below meth c s₁ B hml hv
  obtain ⟨rfl, hsz, hP, hK, hD0, hN⟩ := hv
  subst hsz
  have hl := lv_entry ([.ref h0]) (n := 4) (Nat.le_of_ble_eq_true rfl)
  rw [lg_entry_eq]
  refine b_X2_changeLanes N ⟨⟨B.exec, B.bytes, hml, findClass_of_methodNamed B.named, atoms_spec (ws := wsX2_changeLanes) B.pre⟩, Nat.le_refl _, Nat.le_refl _, fun q h => Or.inr h, hN, hK⟩ hf hP hD0.self va_S.rf hl (fun pc H locs ls hd hP hD hS => ?_)
  exact W.vret B.exec B.bytes B.returns (fun t ht hW => ⟨⟨(), rfl, trivial, by rw [ht]; exact hP, hD⟩, hS.F ht⟩) hS.2.2 hd
def q_X2_passTick_L20 (N : Nat) (x10 : Int32) (x11 : Int32) (x12 : Int32) (x13 : Int32) (x14 : Int32) (f0 : (Nat → Int32)) (f1 : (Nat → Int32)) (f7 : (Nat → Int32)) (V8 : (Nat → Nat → Int32)) : Nat → Int32 → Int32 → (Nat → Int32) → (Nat → Int32) → (Nat → Int32) → (Nat → Int32) → (Nat → Int32) → Option (Int32 × (Nat → Int32) × (Nat → Int32) × (Nat → Int32) × (Nat → Int32) × (Nat → Int32))
  | 0, _, _, _, _, _, _, _ => none
  | n + 1, v1, x15, f2, f3, f4, f5, f6 =>
    (if 4 < v1 then
     (some (x15, f2, f3, f4, f5, f6))
    else
     (Option.bind (q_X2_goForward N v1 x11 x13 x14 f0 f2 f3 f4 f7 V8) (fun o2 =>
     (Option.bind (q_X2_bringHome N x10 x12 x13 x14 x15 f1 o2.2 f4 f5 f6) (fun o3 =>
     (Option.bind (q_X2_crash N x13 x14 f1 o2.1 o3.2.1 o3.2.2.1) (fun o4 =>
     (q_X2_passTick_L20 N x10 x11 x12 x13 x14 f0 f1 f7 V8 n (v1 + 1) o3.1 o2.1 o2.2 o4.1 o4.2 o3.2.2.2))))))))
set_option maxHeartbeats 4000000 in
set_option maxRecDepth 100000 in
theorem b_X2_passTick_L20 {p : Program} {l : Launch} {e : Env} {R : Room} {s : State} {m : MethodId} {args : Array Value} {below : List Frame} {meth : Method} {c : Code} {Q : State → Prop} {A : Nat → Prop} {dC : Nat → ClassId} {dI : Nat → Nat → Nat} {cI cZ cJ cA : ClassId} {h0 : Nat} {a : Nat → Nat} {r8 : Nat → Nat} {r9 : Nat → Nat} (N : Nat) (C0 : z_Cx p s m args c cX2_passTick 2 wsX2_passTick RX2 R 3 66 A dC dI (z_ty cI cZ cJ cA)) : ∀ (n : Nat) {v1 : Int32} {x10 : Int32} {x11 : Int32} {x12 : Int32} {x13 : Int32} {x14 : Int32} {x15 : Int32} {f0 : (Nat → Int32)} {f1 : (Nat → Int32)} {f2 : (Nat → Int32)} {f3 : (Nat → Int32)} {f4 : (Nat → Int32)} {f5 : (Nat → Int32)} {f6 : (Nat → Int32)} {f7 : (Nat → Int32)} {V8 : (Nat → Nat → Int32)} {V9 : (Nat → Nat → Int32)} {o : (Int32 × (Nat → Int32) × (Nat → Int32) × (Nat → Int32) × (Nat → Int32) × (Nat → Int32))} {H : Heap} {locs : List Loc} {ls : Array Slot}, q_X2_passTick_L20 N x10 x11 x12 x13 x14 f0 f1 f7 V8 n v1 x15 f2 f3 f4 f5 f6 = some o → va_P (dC, dI) vwCl (wX2 cI cZ cJ cA h0 a r8 r9 x10 x11 x12 x13 x14 x15 f0 f1 f2 f3 f4 f5 f6 f7 V8 V9) H → va_D A (wX2 cI cZ cJ cA h0 a r8 r9 x10 x11 x12 x13 x14 x15 f0 f1 f2 f3 f4 f5 f6 f7 V8 V9) → va_S A s.heap H locs → lv_has ls 2 [(0, .ref h0), (1, .int v1)] →
    (∀ (H : Heap) (locs : List Loc) (ls : Array Slot), va_P (dC, dI) vwCl (wX2 cI cZ cJ cA h0 a r8 r9 x10 x11 x12 x13 x14 o.1 f0 f1 o.2.1 o.2.2.1 o.2.2.2.1 o.2.2.2.2.1 o.2.2.2.2.2 f7 V8 V9) H → va_D A (wX2 cI cZ cJ cA h0 a r8 r9 x10 x11 x12 x13 x14 o.1 f0 f1 o.2.1 o.2.2.1 o.2.2.2.1 o.2.2.2.2.1 o.2.2.2.2.2 f7 V8 V9) → va_S A s.heap H locs → lv_has ls 2 [(0, .ref h0)] → W p l e R s m args below meth c H locs 0 0 Q (F0 m 44 ls [])) →
    W p l e R s m args below meth c H locs 0 0 Q (F0 m 20 ls []) := by
  obtain ⟨⟨hx, hb, hml, hown, hts⟩, hRf, hRl, hA, hN, hK⟩ := C0
  intro n
  induction n with
  | zero =>
    intro v1 x10 x11 x12 x13 x14 x15 f0 f1 f2 f3 f4 f5 f6 f7 V8 V9 o H locs ls hf
    cases hf
  | succ n ih =>
    intro v1 x10 x11 x12 x13 x14 x15 f0 f1 f2 f3 f4 f5 f6 f7 V8 V9 o H locs ls hf hP hD hS hl hexit
    rw [q_X2_passTick_L20] at hf
    refine lv_iload_n hx hb dX2_passTick_20 rfl (lv_at hl 1 rfl) ?_
    refine lv_iconst (v := 4) hx hb dX2_passTick_21 (by decide) ?_
    refine lv_icmp_gt (tgt := 44) hx hb dX2_passTick_22 (by decide) (fun c1 => ?_) (fun c1 => ?_)
    · replace hf := z_ip hf c1
      obtain rfl := Option.some.inj hf
      exact hexit _ _ _ hP hD hS (lv_sub hl [0] rfl)
    · replace hf := z_im hf c1
      refine lv_aload_n hx hb dX2_passTick_25 rfl (lv_at hl 0 rfl) ?_
      refine lv_iload_n hx hb dX2_passTick_26 rfl (lv_at hl 1 rfl) ?_
      obtain ⟨o2, ho2, hf1⟩ := z_ib hf
      replace hf := hf1
      clear hf1
      refine z_Vv (As := [.int v1]) (rest := []) (w := (wX2 cI cZ cJ cA h0 a r8 r9 x10 x11 x12 x13 x14 x15 f0 f1 f2 f3 f4 f5 f6 f7 V8 V9)) (w1 := (wX2 cI cZ cJ cA h0 a r8 r9 x10 x11 x12 x13 x14 x15 f0 f1 o2.1 o2.2 f4 f5 f6 f7 V8 V9)) ⟨hx, hb, hml, hown, hts⟩ (k_X2_goForward l dC dI cI cZ cJ cA h0 a r8 r9 H.size N v1 x10 x11 x12 x13 x14 x15 f0 f1 f2 f3 f4 f5 f6 f7 V8 V9 o2 ho2) (cwV 1 hts gX2_passTick_X2_goForward rfl rfl rfl (by decide +kernel) ⟨Nat.le_trans (Nat.le_of_ble_eq_true rfl) hRf, Nat.le_trans (Nat.le_of_ble_eq_true rfl) hRl⟩) hK hP hD hS hA hN (ci := 2) rfl rfl rfl rfl hl.1 rfl (Nat.le_of_ble_eq_true rfl) dX2_passTick_27 (fun H locs hP hD hS => ?_)
      refine lv_aload_n hx hb dX2_passTick_30 rfl (lv_at hl 0 rfl) ?_
      obtain ⟨o3, ho3, hf1⟩ := z_ib hf
      replace hf := hf1
      clear hf1
      refine z_Vv (As := []) (rest := []) (w := (wX2 cI cZ cJ cA h0 a r8 r9 x10 x11 x12 x13 x14 x15 f0 f1 o2.1 o2.2 f4 f5 f6 f7 V8 V9)) (w1 := (wX2 cI cZ cJ cA h0 a r8 r9 x10 x11 x12 x13 x14 o3.1 f0 f1 o2.1 o2.2 o3.2.1 o3.2.2.1 o3.2.2.2 f7 V8 V9)) ⟨hx, hb, hml, hown, hts⟩ (k_X2_bringHome l dC dI cI cZ cJ cA h0 a r8 r9 H.size N x10 x11 x12 x13 x14 x15 f0 f1 o2.1 o2.2 f4 f5 f6 f7 V8 V9 o3 ho3) (cwV 0 hts gX2_passTick_X2_bringHome rfl rfl rfl (by decide +kernel) ⟨Nat.le_trans (Nat.le_of_ble_eq_true rfl) hRf, Nat.le_trans (Nat.le_of_ble_eq_true rfl) hRl⟩) hK hP hD hS hA hN (ci := 2) rfl rfl rfl rfl hl.1 rfl (Nat.le_of_ble_eq_true rfl) dX2_passTick_31 (fun H locs hP hD hS => ?_)
      refine lv_aload_n hx hb dX2_passTick_34 rfl (lv_at hl 0 rfl) ?_
      obtain ⟨o4, ho4, hf1⟩ := z_ib hf
      replace hf := hf1
      clear hf1
      refine z_Vv (As := []) (rest := []) (w := (wX2 cI cZ cJ cA h0 a r8 r9 x10 x11 x12 x13 x14 o3.1 f0 f1 o2.1 o2.2 o3.2.1 o3.2.2.1 o3.2.2.2 f7 V8 V9)) (w1 := (wX2 cI cZ cJ cA h0 a r8 r9 x10 x11 x12 x13 x14 o3.1 f0 f1 o2.1 o2.2 o4.1 o4.2 o3.2.2.2 f7 V8 V9)) ⟨hx, hb, hml, hown, hts⟩ (k_X2_crash l dC dI cI cZ cJ cA h0 a r8 r9 H.size N x10 x11 x12 x13 x14 o3.1 f0 f1 o2.1 o2.2 o3.2.1 o3.2.2.1 o3.2.2.2 f7 V8 V9 o4 ho4) (cwV 0 hts gX2_passTick_X2_crash rfl rfl rfl (by decide +kernel) ⟨Nat.le_trans (Nat.le_of_ble_eq_true rfl) hRf, Nat.le_trans (Nat.le_of_ble_eq_true rfl) hRl⟩) hK hP hD hS hA hN (ci := 2) rfl rfl rfl rfl hl.1 rfl (Nat.le_of_ble_eq_true rfl) dX2_passTick_35 (fun H locs hP hD hS => ?_)
      refine lv_iinc (v := (v1 + 1)) (lv' := [(1, .int (v1 + 1)), (0, .ref h0)]) hx hb dX2_passTick_38 hl (k := 1) rfl rfl (by decide) rfl (fun ls hl => ?_)
      refine lv_goto (tgt := 20) hx hb dX2_passTick_41 (by decide) ?_
      exact ih hf hP hD hS (lv_sub hl [1, 0] rfl) hexit
def q_X2_passTick (N : Nat) (x10 : Int32) (x11 : Int32) (x12 : Int32) (x13 : Int32) (x14 : Int32) (x15 : Int32) (f0 : (Nat → Int32)) (f1 : (Nat → Int32)) (f2 : (Nat → Int32)) (f3 : (Nat → Int32)) (f4 : (Nat → Int32)) (f5 : (Nat → Int32)) (f6 : (Nat → Int32)) (f7 : (Nat → Int32)) (V8 : (Nat → Nat → Int32)) (V9 : (Nat → Nat → Int32)) : Option (Int32 × Int32 × (Nat → Int32) × (Nat → Int32) × (Nat → Int32) × (Nat → Int32) × (Nat → Int32) × (Nat → Int32)) :=
  (Option.bind (q_X2_letIn N x13 (x14 + 1) f0 f4) (fun o1 =>
  (Option.bind (q_X2_crash N x13 (x14 + 1) f1 f2 o1 f5) (fun o2 =>
  (Option.bind (q_X2_passTick_L20 N x10 x11 x12 x13 (x14 + 1) f0 f1 f7 V8 N 1 x15 f2 f3 o2.1 o2.2 f6) (fun t3 =>
  (Option.bind (q_X2_changeLanes N x10 x13 (x14 + 1) f0 f1 t3.2.2.2.1 f7 V9) (fun o4 =>
  (Option.bind (q_X2_crash N x13 (x14 + 1) o4 t3.2.1 t3.2.2.2.1 t3.2.2.2.2.1) (fun o5 =>
  (some ((x14 + 1), t3.1, o4, t3.2.1, t3.2.2.1, o5.1, o5.2, t3.2.2.2.2.2))))))))))))
set_option maxHeartbeats 4000000 in
set_option maxRecDepth 100000 in
theorem b_X2_passTick {p : Program} {l : Launch} {e : Env} {R : Room} {s : State} {m : MethodId} {args : Array Value} {below : List Frame} {meth : Method} {c : Code} {Q : State → Prop} {A : Nat → Prop} {dC : Nat → ClassId} {dI : Nat → Nat → Nat} {cI cZ cJ cA : ClassId} {h0 : Nat} {a : Nat → Nat} {r8 : Nat → Nat} {r9 : Nat → Nat} (N : Nat) (C0 : z_Cx p s m args c cX2_passTick 2 wsX2_passTick RX2 R 3 66 A dC dI (z_ty cI cZ cJ cA)) {x10 : Int32} {x11 : Int32} {x12 : Int32} {x13 : Int32} {x14 : Int32} {x15 : Int32} {f0 : (Nat → Int32)} {f1 : (Nat → Int32)} {f2 : (Nat → Int32)} {f3 : (Nat → Int32)} {f4 : (Nat → Int32)} {f5 : (Nat → Int32)} {f6 : (Nat → Int32)} {f7 : (Nat → Int32)} {V8 : (Nat → Nat → Int32)} {V9 : (Nat → Nat → Int32)} {o : (Int32 × Int32 × (Nat → Int32) × (Nat → Int32) × (Nat → Int32) × (Nat → Int32) × (Nat → Int32) × (Nat → Int32))} {H : Heap} {locs : List Loc} {ls : Array Slot} (hf : q_X2_passTick N x10 x11 x12 x13 x14 x15 f0 f1 f2 f3 f4 f5 f6 f7 V8 V9 = some o) (hP : va_P (dC, dI) vwCl (wX2 cI cZ cJ cA h0 a r8 r9 x10 x11 x12 x13 x14 x15 f0 f1 f2 f3 f4 f5 f6 f7 V8 V9) H) (hD : va_D A (wX2 cI cZ cJ cA h0 a r8 r9 x10 x11 x12 x13 x14 x15 f0 f1 f2 f3 f4 f5 f6 f7 V8 V9)) (hS : va_S A s.heap H locs) (hl : lv_has ls 2 [(0, .ref h0)])
    (hret : ∀ (pc : Nat) (H : Heap) (locs : List Loc) (ls : Array Slot), decode cX2_passTick pc = .ok (.return_, 1) → va_P (dC, dI) vwCl (wX2 cI cZ cJ cA h0 a r8 r9 x10 x11 x12 x13 o.1 o.2.1 f0 o.2.2.1 o.2.2.2.1 o.2.2.2.2.1 o.2.2.2.2.2.1 o.2.2.2.2.2.2.1 o.2.2.2.2.2.2.2 f7 V8 V9) H → va_D A (wX2 cI cZ cJ cA h0 a r8 r9 x10 x11 x12 x13 o.1 o.2.1 f0 o.2.2.1 o.2.2.2.1 o.2.2.2.2.1 o.2.2.2.2.2.1 o.2.2.2.2.2.2.1 o.2.2.2.2.2.2.2 f7 V8 V9) → va_S A s.heap H locs → W p l e R s m args below meth c H locs 0 0 Q (F0 m pc ls [])) :
    W p l e R s m args below meth c H locs 0 0 Q (F0 m 0 ls []) := by
  obtain ⟨⟨hx, hb, hml, hown, hts⟩, hRf, hRl, hA, hN, hK⟩ := C0
  unfold q_X2_passTick at hf
  refine lv_aload_n hx hb dX2_passTick_0 rfl (lv_at hl 0 rfl) ?_
  refine lv_dup hx hb dX2_passTick_1 rfl ?_
  refine va_get (D := (dC, dI)) (ci := 2) (v := .int x14) (C := RX2) (T := TX2) (N := 16) hx hb hts (fun w hw => List.mem_cons_of_mem _ (List.mem_append_right _ hw)) hown hK hP 0 rfl rfl 14 (by decide) (hts (.fieldLink RX2 57 "OldStadium$Hippodrome" "tick" "I") (List.mem_of_getElem? (i := 1) rfl)) (fun _ h9 => h9) rfl dX2_passTick_2 ?_
  refine lv_iconst (v := 1) hx hb dX2_passTick_5 (by decide) ?_
  refine lv_iadd hx hb dX2_passTick_6 ?_
  refine va_put (D := (dC, dI)) (ci := 2) (v := .int (x14 + 1)) (ty := .int) (C := RX2) (T := TX2) (N := 16) hx hb hts (fun w hw => List.mem_cons_of_mem _ (List.mem_append_right _ hw)) tyX2 tyX2_ok nmX2 hown hK hP hD hS 0 rfl rfl 14 (by decide) (hts (.fieldLink RX2 57 "OldStadium$Hippodrome" "tick" "I") (List.mem_of_getElem? (i := 1) rfl)) (fun _ h9 => h9) rfl (by decide +kernel) rfl rfl (Nat.le_of_ble_eq_true rfl) dX2_passTick_7 (fun H locs hP hD hS => ?_)
  replace hP : va_P (dC, dI) vwCl (wX2 cI cZ cJ cA h0 a r8 r9 x10 x11 x12 x13 (x14 + 1) x15 f0 f1 f2 f3 f4 f5 f6 f7 V8 V9) H := hP
  replace hD : va_D A (wX2 cI cZ cJ cA h0 a r8 r9 x10 x11 x12 x13 (x14 + 1) x15 f0 f1 f2 f3 f4 f5 f6 f7 V8 V9) := hD
  refine lv_aload_n hx hb dX2_passTick_10 rfl (lv_at hl 0 rfl) ?_
  obtain ⟨o1, ho1, hf1⟩ := z_ib hf
  replace hf := hf1
  clear hf1
  refine z_Vv (As := []) (rest := []) (w := (wX2 cI cZ cJ cA h0 a r8 r9 x10 x11 x12 x13 (x14 + 1) x15 f0 f1 f2 f3 f4 f5 f6 f7 V8 V9)) (w1 := (wX2 cI cZ cJ cA h0 a r8 r9 x10 x11 x12 x13 (x14 + 1) x15 f0 f1 f2 f3 o1 f5 f6 f7 V8 V9)) ⟨hx, hb, hml, hown, hts⟩ (k_X2_letIn l dC dI cI cZ cJ cA h0 a r8 r9 H.size N x10 x11 x12 x13 (x14 + 1) x15 f0 f1 f2 f3 f4 f5 f6 f7 V8 V9 o1 ho1) (cwV 0 hts gX2_passTick_X2_letIn rfl rfl rfl (by decide +kernel) ⟨Nat.le_trans (Nat.le_of_ble_eq_true rfl) hRf, Nat.le_trans (Nat.le_of_ble_eq_true rfl) hRl⟩) hK hP hD hS hA hN (ci := 2) rfl rfl rfl rfl hl.1 rfl (Nat.le_of_ble_eq_true rfl) dX2_passTick_11 (fun H locs hP hD hS => ?_)
  refine lv_aload_n hx hb dX2_passTick_14 rfl (lv_at hl 0 rfl) ?_
  obtain ⟨o2, ho2, hf1⟩ := z_ib hf
  replace hf := hf1
  clear hf1
  refine z_Vv (As := []) (rest := []) (w := (wX2 cI cZ cJ cA h0 a r8 r9 x10 x11 x12 x13 (x14 + 1) x15 f0 f1 f2 f3 o1 f5 f6 f7 V8 V9)) (w1 := (wX2 cI cZ cJ cA h0 a r8 r9 x10 x11 x12 x13 (x14 + 1) x15 f0 f1 f2 f3 o2.1 o2.2 f6 f7 V8 V9)) ⟨hx, hb, hml, hown, hts⟩ (k_X2_crash l dC dI cI cZ cJ cA h0 a r8 r9 H.size N x10 x11 x12 x13 (x14 + 1) x15 f0 f1 f2 f3 o1 f5 f6 f7 V8 V9 o2 ho2) (cwV 0 hts gX2_passTick_X2_crash rfl rfl rfl (by decide +kernel) ⟨Nat.le_trans (Nat.le_of_ble_eq_true rfl) hRf, Nat.le_trans (Nat.le_of_ble_eq_true rfl) hRl⟩) hK hP hD hS hA hN (ci := 2) rfl rfl rfl rfl hl.1 rfl (Nat.le_of_ble_eq_true rfl) dX2_passTick_15 (fun H locs hP hD hS => ?_)
  refine lv_iconst (v := 1) hx hb dX2_passTick_18 (by decide) ?_
  refine lv_istore_n (lv' := [(1, .int 1), (0, .ref h0)]) hx hb dX2_passTick_19 rfl hl (by decide) rfl (fun ls hl => ?_)
  obtain ⟨t3, ht3, hf1⟩ := z_ib hf
  replace hf := hf1
  clear hf1
  refine b_X2_passTick_L20 N ⟨⟨hx, hb, hml, hown, hts⟩, hRf, hRl, hA, hN, hK⟩ N ht3 hP hD hS (lv_sub hl [1, 0] rfl) (fun H locs ls hP hD hS hl => ?_)
  refine lv_aload_n hx hb dX2_passTick_44 rfl (lv_at hl 0 rfl) ?_
  obtain ⟨o4, ho4, hf1⟩ := z_ib hf
  replace hf := hf1
  clear hf1
  refine z_Vv (As := []) (rest := []) (w := (wX2 cI cZ cJ cA h0 a r8 r9 x10 x11 x12 x13 (x14 + 1) t3.1 f0 f1 t3.2.1 t3.2.2.1 t3.2.2.2.1 t3.2.2.2.2.1 t3.2.2.2.2.2 f7 V8 V9)) (w1 := (wX2 cI cZ cJ cA h0 a r8 r9 x10 x11 x12 x13 (x14 + 1) t3.1 f0 o4 t3.2.1 t3.2.2.1 t3.2.2.2.1 t3.2.2.2.2.1 t3.2.2.2.2.2 f7 V8 V9)) ⟨hx, hb, hml, hown, hts⟩ (k_X2_changeLanes l dC dI cI cZ cJ cA h0 a r8 r9 H.size N x10 x11 x12 x13 (x14 + 1) t3.1 f0 f1 t3.2.1 t3.2.2.1 t3.2.2.2.1 t3.2.2.2.2.1 t3.2.2.2.2.2 f7 V8 V9 o4 ho4) (cwV 0 hts gX2_passTick_X2_changeLanes rfl rfl rfl (by decide +kernel) ⟨Nat.le_trans (Nat.le_of_ble_eq_true rfl) hRf, Nat.le_trans (Nat.le_of_ble_eq_true rfl) hRl⟩) hK hP hD hS hA hN (ci := 2) rfl rfl rfl rfl hl.1 rfl (Nat.le_of_ble_eq_true rfl) dX2_passTick_45 (fun H locs hP hD hS => ?_)
  refine lv_aload_n hx hb dX2_passTick_48 rfl (lv_at hl 0 rfl) ?_
  obtain ⟨o5, ho5, hf1⟩ := z_ib hf
  replace hf := hf1
  clear hf1
  refine z_Vv (As := []) (rest := []) (w := (wX2 cI cZ cJ cA h0 a r8 r9 x10 x11 x12 x13 (x14 + 1) t3.1 f0 o4 t3.2.1 t3.2.2.1 t3.2.2.2.1 t3.2.2.2.2.1 t3.2.2.2.2.2 f7 V8 V9)) (w1 := (wX2 cI cZ cJ cA h0 a r8 r9 x10 x11 x12 x13 (x14 + 1) t3.1 f0 o4 t3.2.1 t3.2.2.1 o5.1 o5.2 t3.2.2.2.2.2 f7 V8 V9)) ⟨hx, hb, hml, hown, hts⟩ (k_X2_crash l dC dI cI cZ cJ cA h0 a r8 r9 H.size N x10 x11 x12 x13 (x14 + 1) t3.1 f0 o4 t3.2.1 t3.2.2.1 t3.2.2.2.1 t3.2.2.2.2.1 t3.2.2.2.2.2 f7 V8 V9 o5 ho5) (cwV 0 hts gX2_passTick_X2_crash rfl rfl rfl (by decide +kernel) ⟨Nat.le_trans (Nat.le_of_ble_eq_true rfl) hRf, Nat.le_trans (Nat.le_of_ble_eq_true rfl) hRl⟩) hK hP hD hS hA hN (ci := 2) rfl rfl rfl rfl hl.1 rfl (Nat.le_of_ble_eq_true rfl) dX2_passTick_49 (fun H locs hP hD hS => ?_)
  obtain rfl := Option.some.inj hf
  exact hret _ _ _ _ dX2_passTick_52 hP hD hS
set_option maxHeartbeats 4000000 in
set_option maxRecDepth 100000 in
theorem k_X2_passTick (l : Launch) (dC : Nat → ClassId) (dI : Nat → Nat → Nat) (cI cZ cJ cA : ClassId) (h0 : Nat) (a : Nat → Nat) (r8 : Nat → Nat) (r9 : Nat → Nat) (sz : Nat) (N : Nat) (x10 : Int32) (x11 : Int32) (x12 : Int32) (x13 : Int32) (x14 : Int32) (x15 : Int32) (f0 : (Nat → Int32)) (f1 : (Nat → Int32)) (f2 : (Nat → Int32)) (f3 : (Nat → Int32)) (f4 : (Nat → Int32)) (f5 : (Nat → Int32)) (f6 : (Nat → Int32)) (f7 : (Nat → Int32)) (V8 : (Nat → Nat → Int32)) (V9 : (Nat → Nat → Int32)) (o : (Int32 × Int32 × (Nat → Int32) × (Nat → Int32) × (Nat → Int32) × (Nat → Int32) × (Nat → Int32) × (Nat → Int32))) (hf : q_X2_passTick N x10 x11 x12 x13 x14 x15 f0 f1 f2 f3 f4 f5 f6 f7 V8 V9 = some o) : Met l yX2_passTick wsX2_passTick ({ frames := 3, cells := 0, slots := 0, locals := 66 } : Room) (z_Pre dC dI (z_ty cI cZ cJ cA) [.ref h0] sz (wX2 cI cZ cJ cA h0 a r8 r9 x10 x11 x12 x13 x14 x15 f0 f1 f2 f3 f4 f5 f6 f7 V8 V9)) (z_Pv dC dI (wX2 cI cZ cJ cA h0 a r8 r9 x10 x11 x12 x13 o.1 o.2.1 f0 o.2.2.1 o.2.2.2.1 o.2.2.2.2.1 o.2.2.2.2.2.1 o.2.2.2.2.2.2.1 o.2.2.2.2.2.2.2 f7 V8 V9) sz (wX2 cI cZ cJ cA h0 a r8 r9 x10 x11 x12 x13 x14 x15 f0 f1 f2 f3 f4 f5 f6 f7 V8 V9)) 0 0 (va_A (wX2 cI cZ cJ cA h0 a r8 r9 x10 x11 x12 x13 x14 x15 f0 f1 f2 f3 f4 f5 f6 f7 V8 V9) sz) := by
  refine Met.ofW (cc := cX2_passTick) (maxL := 2) (ret := none) (by decide) rfl ?_
  intro p e s m args below meth c s₁ B hml hv
  obtain ⟨rfl, hsz, hP, hK, hD0, hN⟩ := hv
  subst hsz
  have hl := lv_entry ([.ref h0]) (n := 2) (Nat.le_of_ble_eq_true rfl)
  rw [lg_entry_eq]
  refine b_X2_passTick N ⟨⟨B.exec, B.bytes, hml, findClass_of_methodNamed B.named, atoms_spec (ws := wsX2_passTick) B.pre⟩, Nat.le_refl _, Nat.le_refl _, fun q h => Or.inr h, hN, hK⟩ hf hP hD0.self va_S.rf hl (fun pc H locs ls hd hP hD hS => ?_)
  exact W.vret B.exec B.bytes B.returns (fun t ht hW => ⟨⟨(), rfl, trivial, by rw [ht]; exact hP, hD⟩, hS.F ht⟩) hS.2.2 hd
def q_X2_pass_L22 (N : Nat) (v1 : Int32) (x10 : Int32) (x11 : Int32) (x12 : Int32) (x13 : Int32) (f0 : (Nat → Int32)) (f7 : (Nat → Int32)) (V8 : (Nat → Nat → Int32)) (V9 : (Nat → Nat → Int32)) : Nat → Int32 → Int32 → Int32 → (Nat → Int32) → (Nat → Int32) → (Nat → Int32) → (Nat → Int32) → (Nat → Int32) → (Nat → Int32) → Option (Int32 × Int32 × (Nat → Int32) × (Nat → Int32) × (Nat → Int32) × (Nat → Int32) × (Nat → Int32) × (Nat → Int32))
  | 0, _, _, _, _, _, _, _, _, _ => none
  | n + 1, v2, x14, x15, f1, f2, f3, f4, f5, f6 =>
    (if v1 ≤ v2 then
     (some (x14, x15, f1, f2, f3, f4, f5, f6))
    else
     (Option.bind (q_X2_passTick N x10 x11 x12 x13 x14 x15 f0 f1 f2 f3 f4 f5 f6 f7 V8 V9) (fun o2 =>
     (q_X2_pass_L22 N v1 x10 x11 x12 x13 f0 f7 V8 V9 n (v2 + 1) o2.1 o2.2.1 o2.2.2.1 o2.2.2.2.1 o2.2.2.2.2.1 o2.2.2.2.2.2.1 o2.2.2.2.2.2.2.1 o2.2.2.2.2.2.2.2))))
set_option maxHeartbeats 4000000 in
set_option maxRecDepth 100000 in
theorem b_X2_pass_L22 {p : Program} {l : Launch} {e : Env} {R : Room} {s : State} {m : MethodId} {args : Array Value} {below : List Frame} {meth : Method} {c : Code} {Q : State → Prop} {A : Nat → Prop} {dC : Nat → ClassId} {dI : Nat → Nat → Nat} {cI cZ cJ cA : ClassId} {h0 : Nat} {a : Nat → Nat} {r8 : Nat → Nat} {r9 : Nat → Nat} (N : Nat) (C0 : z_Cx p s m args c cX2_pass 4 wsX2_pass RX2 R 4 87 A dC dI (z_ty cI cZ cJ cA)) : ∀ (n : Nat) {v1 : Int32} {v2 : Int32} {x10 : Int32} {x11 : Int32} {x12 : Int32} {x13 : Int32} {x14 : Int32} {x15 : Int32} {f0 : (Nat → Int32)} {f1 : (Nat → Int32)} {f2 : (Nat → Int32)} {f3 : (Nat → Int32)} {f4 : (Nat → Int32)} {f5 : (Nat → Int32)} {f6 : (Nat → Int32)} {f7 : (Nat → Int32)} {V8 : (Nat → Nat → Int32)} {V9 : (Nat → Nat → Int32)} {o : (Int32 × Int32 × (Nat → Int32) × (Nat → Int32) × (Nat → Int32) × (Nat → Int32) × (Nat → Int32) × (Nat → Int32))} {H : Heap} {locs : List Loc} {ls : Array Slot}, q_X2_pass_L22 N v1 x10 x11 x12 x13 f0 f7 V8 V9 n v2 x14 x15 f1 f2 f3 f4 f5 f6 = some o → va_P (dC, dI) vwCl (wX2 cI cZ cJ cA h0 a r8 r9 x10 x11 x12 x13 x14 x15 f0 f1 f2 f3 f4 f5 f6 f7 V8 V9) H → va_D A (wX2 cI cZ cJ cA h0 a r8 r9 x10 x11 x12 x13 x14 x15 f0 f1 f2 f3 f4 f5 f6 f7 V8 V9) → va_S A s.heap H locs → lv_has ls 4 [(0, .ref h0), (1, .int v1), (2, .int v2)] →
    (∀ (H : Heap) (locs : List Loc) (ls : Array Slot), va_P (dC, dI) vwCl (wX2 cI cZ cJ cA h0 a r8 r9 x10 x11 x12 x13 o.1 o.2.1 f0 o.2.2.1 o.2.2.2.1 o.2.2.2.2.1 o.2.2.2.2.2.1 o.2.2.2.2.2.2.1 o.2.2.2.2.2.2.2 f7 V8 V9) H → va_D A (wX2 cI cZ cJ cA h0 a r8 r9 x10 x11 x12 x13 o.1 o.2.1 f0 o.2.2.1 o.2.2.2.1 o.2.2.2.2.1 o.2.2.2.2.2.1 o.2.2.2.2.2.2.1 o.2.2.2.2.2.2.2 f7 V8 V9) → va_S A s.heap H locs → lv_has ls 4 [(0, .ref h0)] → W p l e R s m args below meth c H locs 0 0 Q (F0 m 37 ls [])) →
    W p l e R s m args below meth c H locs 0 0 Q (F0 m 22 ls []) := by
  obtain ⟨⟨hx, hb, hml, hown, hts⟩, hRf, hRl, hA, hN, hK⟩ := C0
  intro n
  induction n with
  | zero =>
    intro v1 v2 x10 x11 x12 x13 x14 x15 f0 f1 f2 f3 f4 f5 f6 f7 V8 V9 o H locs ls hf
    cases hf
  | succ n ih =>
    intro v1 v2 x10 x11 x12 x13 x14 x15 f0 f1 f2 f3 f4 f5 f6 f7 V8 V9 o H locs ls hf hP hD hS hl hexit
    rw [q_X2_pass_L22] at hf
    refine lv_iload_n hx hb dX2_pass_22 rfl (lv_at hl 2 rfl) ?_
    refine lv_iload_n hx hb dX2_pass_23 rfl (lv_at hl 1 rfl) ?_
    refine lv_icmp_ge (tgt := 37) hx hb dX2_pass_24 (by decide) (fun c1 => ?_) (fun c1 => ?_)
    · replace hf := z_ip hf c1
      obtain rfl := Option.some.inj hf
      exact hexit _ _ _ hP hD hS (lv_sub hl [0] rfl)
    · replace hf := z_im hf c1
      refine lv_aload_n hx hb dX2_pass_27 rfl (lv_at hl 0 rfl) ?_
      obtain ⟨o2, ho2, hf1⟩ := z_ib hf
      replace hf := hf1
      clear hf1
      refine z_Vv (As := []) (rest := []) (w := (wX2 cI cZ cJ cA h0 a r8 r9 x10 x11 x12 x13 x14 x15 f0 f1 f2 f3 f4 f5 f6 f7 V8 V9)) (w1 := (wX2 cI cZ cJ cA h0 a r8 r9 x10 x11 x12 x13 o2.1 o2.2.1 f0 o2.2.2.1 o2.2.2.2.1 o2.2.2.2.2.1 o2.2.2.2.2.2.1 o2.2.2.2.2.2.2.1 o2.2.2.2.2.2.2.2 f7 V8 V9)) ⟨hx, hb, hml, hown, hts⟩ (k_X2_passTick l dC dI cI cZ cJ cA h0 a r8 r9 H.size N x10 x11 x12 x13 x14 x15 f0 f1 f2 f3 f4 f5 f6 f7 V8 V9 o2 ho2) (cwV 0 hts gX2_pass_X2_passTick rfl rfl rfl (by decide +kernel) ⟨Nat.le_trans (Nat.le_of_ble_eq_true rfl) hRf, Nat.le_trans (Nat.le_of_ble_eq_true rfl) hRl⟩) hK hP hD hS hA hN (ci := 2) rfl rfl rfl rfl hl.1 rfl (Nat.le_of_ble_eq_true rfl) dX2_pass_28 (fun H locs hP hD hS => ?_)
      refine lv_iinc (v := (v2 + 1)) (lv' := [(2, .int (v2 + 1)), (0, .ref h0), (1, .int v1)]) hx hb dX2_pass_31 hl (k := 2) rfl rfl (by decide) rfl (fun ls hl => ?_)
      refine lv_goto (tgt := 22) hx hb dX2_pass_34 (by decide) ?_
      exact ih hf hP hD hS (lv_sub hl [1, 2, 0] rfl) hexit
def q_X2_pass_L41 (N : Nat) (x13 : Int32) (f4 : (Nat → Int32)) : Nat → Int32 → Int32 → Option Int32
  | 0, _, _ => none
  | n + 1, v2, v3 =>
    (if x13 ≤ v3 then
     (some v2)
    else
     (if z_in v3 8 then
     (if (f4 (Int32.toNatClampNeg v3)) = 1 then
      (q_X2_pass_L41 N x13 f4 n (v2 + 1) (v3 + 1))
     else
      (q_X2_pass_L41 N x13 f4 n v2 (v3 + 1)))
     else none))
set_option maxHeartbeats 4000000 in
set_option maxRecDepth 100000 in
theorem b_X2_pass_L41 {p : Program} {l : Launch} {e : Env} {R : Room} {s : State} {m : MethodId} {args : Array Value} {below : List Frame} {meth : Method} {c : Code} {Q : State → Prop} {A : Nat → Prop} {dC : Nat → ClassId} {dI : Nat → Nat → Nat} {cI cZ cJ cA : ClassId} {h0 : Nat} {a : Nat → Nat} {r8 : Nat → Nat} {r9 : Nat → Nat} (N : Nat) (C0 : z_Cx p s m args c cX2_pass 4 wsX2_pass RX2 R 4 87 A dC dI (z_ty cI cZ cJ cA)) : ∀ (n : Nat) {v2 : Int32} {v3 : Int32} {x10 : Int32} {x11 : Int32} {x12 : Int32} {x13 : Int32} {x14 : Int32} {x15 : Int32} {f0 : (Nat → Int32)} {f1 : (Nat → Int32)} {f2 : (Nat → Int32)} {f3 : (Nat → Int32)} {f4 : (Nat → Int32)} {f5 : (Nat → Int32)} {f6 : (Nat → Int32)} {f7 : (Nat → Int32)} {V8 : (Nat → Nat → Int32)} {V9 : (Nat → Nat → Int32)} {o : Int32} {H : Heap} {locs : List Loc} {ls : Array Slot}, q_X2_pass_L41 N x13 f4 n v2 v3 = some o → va_P (dC, dI) vwCl (wX2 cI cZ cJ cA h0 a r8 r9 x10 x11 x12 x13 x14 x15 f0 f1 f2 f3 f4 f5 f6 f7 V8 V9) H → va_D A (wX2 cI cZ cJ cA h0 a r8 r9 x10 x11 x12 x13 x14 x15 f0 f1 f2 f3 f4 f5 f6 f7 V8 V9) → va_S A s.heap H locs → lv_has ls 4 [(0, .ref h0), (2, .int v2), (3, .int v3)] →
    (∀ (H : Heap) (locs : List Loc) (ls : Array Slot), va_P (dC, dI) vwCl (wX2 cI cZ cJ cA h0 a r8 r9 x10 x11 x12 x13 x14 x15 f0 f1 f2 f3 f4 f5 f6 f7 V8 V9) H → va_D A (wX2 cI cZ cJ cA h0 a r8 r9 x10 x11 x12 x13 x14 x15 f0 f1 f2 f3 f4 f5 f6 f7 V8 V9) → va_S A s.heap H locs → lv_has ls 4 [(2, .int o)] → W p l e R s m args below meth c H locs 0 0 Q (F0 m 68 ls [])) →
    W p l e R s m args below meth c H locs 0 0 Q (F0 m 41 ls []) := by
  obtain ⟨⟨hx, hb, hml, hown, hts⟩, hRf, hRl, hA, hN, hK⟩ := C0
  intro n
  induction n with
  | zero =>
    intro v2 v3 x10 x11 x12 x13 x14 x15 f0 f1 f2 f3 f4 f5 f6 f7 V8 V9 o H locs ls hf
    cases hf
  | succ n ih =>
    intro v2 v3 x10 x11 x12 x13 x14 x15 f0 f1 f2 f3 f4 f5 f6 f7 V8 V9 o H locs ls hf hP hD hS hl hexit
    rw [q_X2_pass_L41] at hf
    refine lv_iload_n hx hb dX2_pass_41 rfl (lv_at hl 2 rfl) ?_
    refine lv_aload_n hx hb dX2_pass_42 rfl (lv_at hl 0 rfl) ?_
    refine va_get (D := (dC, dI)) (ci := 2) (v := .int x13) (C := RX2) (T := TX2) (N := 16) hx hb hts (fun w hw => List.mem_cons_of_mem _ (List.mem_append_right _ hw)) hown hK hP 0 rfl rfl 13 (by decide) (hts (.fieldLink RX2 54 "OldStadium$Hippodrome" "chariots" "I") (List.mem_of_getElem? (i := 2) rfl)) (fun _ h9 => h9) rfl dX2_pass_43 ?_
    refine lv_icmp_ge (tgt := 68) hx hb dX2_pass_46 (by decide) (fun c1 => ?_) (fun c1 => ?_)
    · replace hf := z_ip hf c1
      obtain rfl := Option.some.inj hf
      exact hexit _ _ _ hP hD hS (lv_sub hl [1] rfl)
    · replace hf := z_im hf c1
      refine lv_aload_n hx hb dX2_pass_49 rfl (lv_at hl 0 rfl) ?_
      refine va_get (D := (dC, dI)) (ci := 2) (v := .ref (a 4)) (C := RX2) (T := TX2) (N := 16) hx hb hts (fun w hw => List.mem_cons_of_mem _ (List.mem_append_right _ hw)) hown hK hP 0 rfl rfl 4 (by decide) (hts (.fieldLink RX2 24 "OldStadium$Hippodrome" "state" "[I") (List.mem_of_getElem? (i := 3) rfl)) (fun _ h9 => h9) rfl dX2_pass_50 ?_
      refine lv_iload_n hx hb dX2_pass_53 rfl (lv_at hl 2 rfl) ?_
      have b2 := z_c1 hf
      replace hf := z_c2 hf
      refine va_iald hx hb hK hP 5 0 rfl rfl b2 dX2_pass_54 ?_
      refine lv_iconst (v := 1) hx hb dX2_pass_55 (by decide) ?_
      refine lv_icmp_ne (tgt := 62) hx hb dX2_pass_56 (by decide) (fun c3 => ?_) (fun c3 => ?_)
      · replace hf := z_im hf c3
        refine lv_iinc (v := (v3 + 1)) (lv' := [(3, .int (v3 + 1)), (0, .ref h0), (2, .int v2)]) hx hb dX2_pass_62 hl (k := 2) rfl rfl (by decide) rfl (fun ls hl => ?_)
        refine lv_goto (tgt := 41) hx hb dX2_pass_65 (by decide) ?_
        exact ih hf hP hD hS (lv_sub hl [1, 2, 0] rfl) hexit
      · replace hf := z_ip hf c3
        refine lv_iinc (v := (v2 + 1)) (lv' := [(2, .int (v2 + 1)), (0, .ref h0), (3, .int v3)]) hx hb dX2_pass_59 hl (k := 1) rfl rfl (by decide) rfl (fun ls hl => ?_)
        refine lv_iinc (v := (v3 + 1)) (lv' := [(3, .int (v3 + 1)), (2, .int (v2 + 1)), (0, .ref h0)]) hx hb dX2_pass_62 hl (k := 2) rfl rfl (by decide) rfl (fun ls hl => ?_)
        refine lv_goto (tgt := 41) hx hb dX2_pass_65 (by decide) ?_
        exact ih hf hP hD hS (lv_sub hl [2, 1, 0] rfl) hexit
def q_X2_pass (N : Nat) (v1 : Int32) (x10 : Int32) (x11 : Int32) (x12 : Int32) (x13 : Int32) (x14 : Int32) (x15 : Int32) (f0 : (Nat → Int32)) (f1 : (Nat → Int32)) (f2 : (Nat → Int32)) (f3 : (Nat → Int32)) (f4 : (Nat → Int32)) (f5 : (Nat → Int32)) (f6 : (Nat → Int32)) (f7 : (Nat → Int32)) (V8 : (Nat → Nat → Int32)) (V9 : (Nat → Nat → Int32)) : Option (Int32 × Int32 × Int32 × (Nat → Int32) × (Nat → Int32) × (Nat → Int32) × (Nat → Int32) × (Nat → Int32) × (Nat → Int32)) :=
  (if x10 = 0 then
   (some ((-1), x14, x15, f1, f2, f3, f4, f5, f6))
  else
   (if v1 < 0 then
    (some ((-1), x14, x15, f1, f2, f3, f4, f5, f6))
   else
    (if v1 ≤ 200 then
     (Option.bind (q_X2_pass_L22 N v1 x10 x11 x12 x13 f0 f7 V8 V9 N 0 x14 x15 f1 f2 f3 f4 f5 f6) (fun t4 =>
     (Option.bind (q_X2_pass_L41 N x13 t4.2.2.2.2.2.1 N 0 0) (fun t5 =>
     (some (t5, t4.1, t4.2.1, t4.2.2.1, t4.2.2.2.1, t4.2.2.2.2.1, t4.2.2.2.2.2.1, t4.2.2.2.2.2.2.1, t4.2.2.2.2.2.2.2))))))
    else
     (some ((-1), x14, x15, f1, f2, f3, f4, f5, f6)))))
set_option maxHeartbeats 4000000 in
set_option maxRecDepth 100000 in
theorem b_X2_pass {p : Program} {l : Launch} {e : Env} {R : Room} {s : State} {m : MethodId} {args : Array Value} {below : List Frame} {meth : Method} {c : Code} {Q : State → Prop} {A : Nat → Prop} {dC : Nat → ClassId} {dI : Nat → Nat → Nat} {cI cZ cJ cA : ClassId} {h0 : Nat} {a : Nat → Nat} {r8 : Nat → Nat} {r9 : Nat → Nat} (N : Nat) (C0 : z_Cx p s m args c cX2_pass 4 wsX2_pass RX2 R 4 87 A dC dI (z_ty cI cZ cJ cA)) {v1 : Int32} {x10 : Int32} {x11 : Int32} {x12 : Int32} {x13 : Int32} {x14 : Int32} {x15 : Int32} {f0 : (Nat → Int32)} {f1 : (Nat → Int32)} {f2 : (Nat → Int32)} {f3 : (Nat → Int32)} {f4 : (Nat → Int32)} {f5 : (Nat → Int32)} {f6 : (Nat → Int32)} {f7 : (Nat → Int32)} {V8 : (Nat → Nat → Int32)} {V9 : (Nat → Nat → Int32)} {o : (Int32 × Int32 × Int32 × (Nat → Int32) × (Nat → Int32) × (Nat → Int32) × (Nat → Int32) × (Nat → Int32) × (Nat → Int32))} {H : Heap} {locs : List Loc} {ls : Array Slot} (hf : q_X2_pass N v1 x10 x11 x12 x13 x14 x15 f0 f1 f2 f3 f4 f5 f6 f7 V8 V9 = some o) (hP : va_P (dC, dI) vwCl (wX2 cI cZ cJ cA h0 a r8 r9 x10 x11 x12 x13 x14 x15 f0 f1 f2 f3 f4 f5 f6 f7 V8 V9) H) (hD : va_D A (wX2 cI cZ cJ cA h0 a r8 r9 x10 x11 x12 x13 x14 x15 f0 f1 f2 f3 f4 f5 f6 f7 V8 V9)) (hS : va_S A s.heap H locs) (hl : lv_has ls 4 [(0, .ref h0), (1, .int v1)])
    (hret : ∀ (pc : Nat) (H : Heap) (locs : List Loc) (ls : Array Slot) (r : Int32), decode cX2_pass pc = .ok (.ireturn, 1) → r = o.1 → va_P (dC, dI) vwCl (wX2 cI cZ cJ cA h0 a r8 r9 x10 x11 x12 x13 o.2.1 o.2.2.1 f0 o.2.2.2.1 o.2.2.2.2.1 o.2.2.2.2.2.1 o.2.2.2.2.2.2.1 o.2.2.2.2.2.2.2.1 o.2.2.2.2.2.2.2.2 f7 V8 V9) H → va_D A (wX2 cI cZ cJ cA h0 a r8 r9 x10 x11 x12 x13 o.2.1 o.2.2.1 f0 o.2.2.2.1 o.2.2.2.2.1 o.2.2.2.2.2.1 o.2.2.2.2.2.2.1 o.2.2.2.2.2.2.2.1 o.2.2.2.2.2.2.2.2 f7 V8 V9) → va_S A s.heap H locs → W p l e R s m args below meth c H locs 0 0 Q (F0 m pc ls [.int r])) :
    W p l e R s m args below meth c H locs 0 0 Q (F0 m 0 ls []) := by
  obtain ⟨⟨hx, hb, hml, hown, hts⟩, hRf, hRl, hA, hN, hK⟩ := C0
  unfold q_X2_pass at hf
  refine lv_aload_n hx hb dX2_pass_0 rfl (lv_at hl 0 rfl) ?_
  refine va_get (D := (dC, dI)) (ci := 2) (v := .int x10) (C := RX2) (T := TX2) (N := 16) hx hb hts (fun w hw => List.mem_cons_of_mem _ (List.mem_append_right _ hw)) hown hK hP 0 rfl rfl 10 (by decide) (hts (.fieldLink RX2 44 "OldStadium$Hippodrome" "lanes" "I") (List.mem_of_getElem? (i := 1) rfl)) (fun _ h9 => h9) rfl dX2_pass_1 ?_
  refine lv_if_eq (tgt := 18) hx hb dX2_pass_4 (by decide) (fun c1 => ?_) (fun c1 => ?_)
  · replace hf := z_ip hf c1
    refine lv_iconst (v := (-1)) hx hb dX2_pass_18 (by decide) ?_
    obtain rfl := Option.some.inj hf
    exact hret _ _ _ _ _ dX2_pass_19 rfl hP hD hS
  · replace hf := z_im hf c1
    refine lv_iload_n hx hb dX2_pass_7 rfl (lv_at hl 1 rfl) ?_
    refine lv_if_lt (tgt := 18) hx hb dX2_pass_8 (by decide) (fun c2 => ?_) (fun c2 => ?_)
    · replace hf := z_ip hf c2
      refine lv_iconst (v := (-1)) hx hb dX2_pass_18 (by decide) ?_
      obtain rfl := Option.some.inj hf
      exact hret _ _ _ _ _ dX2_pass_19 rfl hP hD hS
    · replace hf := z_im hf c2
      refine lv_iload_n hx hb dX2_pass_11 rfl (lv_at hl 1 rfl) ?_
      refine lv_sipush (v := 200) hx hb dX2_pass_12 (by decide) ?_
      refine lv_icmp_le (tgt := 20) hx hb dX2_pass_15 (by decide) (fun c3 => ?_) (fun c3 => ?_)
      · replace hf := z_ip hf c3
        refine lv_iconst (v := 0) hx hb dX2_pass_20 (by decide) ?_
        refine lv_istore_n (lv' := [(2, .int 0), (0, .ref h0), (1, .int v1)]) hx hb dX2_pass_21 rfl hl (by decide) rfl (fun ls hl => ?_)
        obtain ⟨t4, ht4, hf1⟩ := z_ib hf
        replace hf := hf1
        clear hf1
        refine b_X2_pass_L22 N ⟨⟨hx, hb, hml, hown, hts⟩, hRf, hRl, hA, hN, hK⟩ N ht4 hP hD hS (lv_sub hl [1, 2, 0] rfl) (fun H locs ls hP hD hS hl => ?_)
        refine lv_iconst (v := 0) hx hb dX2_pass_37 (by decide) ?_
        refine lv_istore_n (lv' := [(2, .int 0), (0, .ref h0)]) hx hb dX2_pass_38 rfl hl (by decide) rfl (fun ls hl => ?_)
        refine lv_iconst (v := 0) hx hb dX2_pass_39 (by decide) ?_
        refine lv_istore_n (lv' := [(3, .int 0), (2, .int 0), (0, .ref h0)]) hx hb dX2_pass_40 rfl hl (by decide) rfl (fun ls hl => ?_)
        obtain ⟨t5, ht5, hf1⟩ := z_ib hf
        replace hf := hf1
        clear hf1
        refine b_X2_pass_L41 N ⟨⟨hx, hb, hml, hown, hts⟩, hRf, hRl, hA, hN, hK⟩ N ht5 hP hD hS (lv_sub hl [2, 1, 0] rfl) (fun H locs ls hP hD hS hl => ?_)
        refine lv_iload_n hx hb dX2_pass_68 rfl (lv_at hl 0 rfl) ?_
        obtain rfl := Option.some.inj hf
        exact hret _ _ _ _ _ dX2_pass_69 rfl hP hD hS
      · replace hf := z_im hf c3
        refine lv_iconst (v := (-1)) hx hb dX2_pass_18 (by decide) ?_
        obtain rfl := Option.some.inj hf
        exact hret _ _ _ _ _ dX2_pass_19 rfl hP hD hS
set_option maxHeartbeats 4000000 in
set_option maxRecDepth 100000 in
theorem k_X2_pass (l : Launch) (dC : Nat → ClassId) (dI : Nat → Nat → Nat) (cI cZ cJ cA : ClassId) (h0 : Nat) (a : Nat → Nat) (r8 : Nat → Nat) (r9 : Nat → Nat) (sz : Nat) (N : Nat) (v1 : Int32) (x10 : Int32) (x11 : Int32) (x12 : Int32) (x13 : Int32) (x14 : Int32) (x15 : Int32) (f0 : (Nat → Int32)) (f1 : (Nat → Int32)) (f2 : (Nat → Int32)) (f3 : (Nat → Int32)) (f4 : (Nat → Int32)) (f5 : (Nat → Int32)) (f6 : (Nat → Int32)) (f7 : (Nat → Int32)) (V8 : (Nat → Nat → Int32)) (V9 : (Nat → Nat → Int32)) (o : (Int32 × Int32 × Int32 × (Nat → Int32) × (Nat → Int32) × (Nat → Int32) × (Nat → Int32) × (Nat → Int32) × (Nat → Int32))) (hf : q_X2_pass N v1 x10 x11 x12 x13 x14 x15 f0 f1 f2 f3 f4 f5 f6 f7 V8 V9 = some o) : Met l yX2_pass wsX2_pass ({ frames := 4, cells := 0, slots := 0, locals := 87 } : Room) (z_Pre dC dI (z_ty cI cZ cJ cA) [.ref h0, .int v1] sz (wX2 cI cZ cJ cA h0 a r8 r9 x10 x11 x12 x13 x14 x15 f0 f1 f2 f3 f4 f5 f6 f7 V8 V9)) (z_Pi dC dI o.1 (wX2 cI cZ cJ cA h0 a r8 r9 x10 x11 x12 x13 o.2.1 o.2.2.1 f0 o.2.2.2.1 o.2.2.2.2.1 o.2.2.2.2.2.1 o.2.2.2.2.2.2.1 o.2.2.2.2.2.2.2.1 o.2.2.2.2.2.2.2.2 f7 V8 V9) sz (wX2 cI cZ cJ cA h0 a r8 r9 x10 x11 x12 x13 x14 x15 f0 f1 f2 f3 f4 f5 f6 f7 V8 V9)) 0 0 (va_A (wX2 cI cZ cJ cA h0 a r8 r9 x10 x11 x12 x13 x14 x15 f0 f1 f2 f3 f4 f5 f6 f7 V8 V9) sz) := by
  refine Met.ofW (cc := cX2_pass) (maxL := 4) (ret := (some .int)) (by decide) rfl ?_
  intro p e s m args below meth c s₁ B hml hv
  obtain ⟨rfl, hsz, hP, hK, hD0, hN⟩ := hv
  subst hsz
  have hl := lv_entry ([.ref h0, .int v1]) (n := 4) (Nat.le_of_ble_eq_true rfl)
  rw [lg_entry_eq]
  refine b_X2_pass N ⟨⟨B.exec, B.bytes, hml, findClass_of_methodNamed B.named, atoms_spec (ws := wsX2_pass) B.pre⟩, Nat.le_refl _, Nat.le_refl _, fun q h => Or.inr h, hN, hK⟩ hf hP hD0.self va_S.rf hl (fun pc H locs ls r hd hr hP hD hS => ?_)
  subst hr
  exact W.iret B.exec B.bytes B.returns (fun t ht hW => ⟨⟨_, (), rfl, rfl, by rw [ht]; exact hP, hD⟩, hS.F ht⟩) hS.2.2 hd
def q_X2_tell (N : Nat) (v1 : Int32) (v2 : Int32) (x13 : Int32) (f1 : (Nat → Int32)) (f2 : (Nat → Int32)) (f3 : (Nat → Int32)) (f4 : (Nat → Int32)) (f5 : (Nat → Int32)) (f6 : (Nat → Int32)) : Option Int32 :=
  (Option.bind (q_X2_isChariot N v1 x13) (fun o1 =>
  (if o1 = 0 then
   (some (-1))
  else
   (if v2 = 0 then
    (if z_in v1 8 then
    (some (f4 (Int32.toNatClampNeg v1)))
    else none)
   else
   (if v2 = 1 then
    (if z_in v1 8 then
    (some (f1 (Int32.toNatClampNeg v1)))
    else none)
   else
   (if v2 = 2 then
    (if z_in v1 8 then
    (some (f2 (Int32.toNatClampNeg v1)))
    else none)
   else
   (if v2 = 3 then
    (if z_in v1 8 then
    (some (f3 (Int32.toNatClampNeg v1)))
    else none)
   else
   (if v2 = 4 then
    (if z_in v1 8 then
    (some (f5 (Int32.toNatClampNeg v1)))
    else none)
   else
   (if v2 = 5 then
    (if z_in v1 8 then
    (some (f6 (Int32.toNatClampNeg v1)))
    else none)
   else
   (some (-1)))))))))))
set_option maxHeartbeats 4000000 in
set_option maxRecDepth 100000 in
theorem b_X2_tell {p : Program} {l : Launch} {e : Env} {R : Room} {s : State} {m : MethodId} {args : Array Value} {below : List Frame} {meth : Method} {c : Code} {Q : State → Prop} {A : Nat → Prop} {dC : Nat → ClassId} {dI : Nat → Nat → Nat} {cI cZ cJ cA : ClassId} {h0 : Nat} {a : Nat → Nat} {r8 : Nat → Nat} {r9 : Nat → Nat} (N : Nat) (C0 : z_Cx p s m args c cX2_tell 3 wsX2_tell RX2 R 1 21 A dC dI (z_ty cI cZ cJ cA)) {v1 : Int32} {v2 : Int32} {x10 : Int32} {x11 : Int32} {x12 : Int32} {x13 : Int32} {x14 : Int32} {x15 : Int32} {f0 : (Nat → Int32)} {f1 : (Nat → Int32)} {f2 : (Nat → Int32)} {f3 : (Nat → Int32)} {f4 : (Nat → Int32)} {f5 : (Nat → Int32)} {f6 : (Nat → Int32)} {f7 : (Nat → Int32)} {V8 : (Nat → Nat → Int32)} {V9 : (Nat → Nat → Int32)} {o : Int32} {H : Heap} {locs : List Loc} {ls : Array Slot} (hf : q_X2_tell N v1 v2 x13 f1 f2 f3 f4 f5 f6 = some o) (hP : va_P (dC, dI) vwCl (wX2 cI cZ cJ cA h0 a r8 r9 x10 x11 x12 x13 x14 x15 f0 f1 f2 f3 f4 f5 f6 f7 V8 V9) H) (hD : va_D A (wX2 cI cZ cJ cA h0 a r8 r9 x10 x11 x12 x13 x14 x15 f0 f1 f2 f3 f4 f5 f6 f7 V8 V9)) (hS : va_S A s.heap H locs) (hl : lv_has ls 3 [(0, .ref h0), (1, .int v1), (2, .int v2)])
    (hret : ∀ (pc : Nat) (H : Heap) (locs : List Loc) (ls : Array Slot) (r : Int32), decode cX2_tell pc = .ok (.ireturn, 1) → r = o → va_P (dC, dI) vwCl (wX2 cI cZ cJ cA h0 a r8 r9 x10 x11 x12 x13 x14 x15 f0 f1 f2 f3 f4 f5 f6 f7 V8 V9) H → va_D A (wX2 cI cZ cJ cA h0 a r8 r9 x10 x11 x12 x13 x14 x15 f0 f1 f2 f3 f4 f5 f6 f7 V8 V9) → va_S A s.heap H locs → W p l e R s m args below meth c H locs 0 0 Q (F0 m pc ls [.int r])) :
    W p l e R s m args below meth c H locs 0 0 Q (F0 m 0 ls []) := by
  obtain ⟨⟨hx, hb, hml, hown, hts⟩, hRf, hRl, hA, hN, hK⟩ := C0
  unfold q_X2_tell at hf
  refine lv_aload_n hx hb dX2_tell_0 rfl (lv_at hl 0 rfl) ?_
  refine lv_iload_n hx hb dX2_tell_1 rfl (lv_at hl 1 rfl) ?_
  obtain ⟨o1, ho1, hf1⟩ := z_ib hf
  replace hf := hf1
  clear hf1
  refine z_Vi (As := [.int v1]) (rest := []) (w := (wX2 cI cZ cJ cA h0 a r8 r9 x10 x11 x12 x13 x14 x15 f0 f1 f2 f3 f4 f5 f6 f7 V8 V9)) (w1 := (wX2 cI cZ cJ cA h0 a r8 r9 x10 x11 x12 x13 x14 x15 f0 f1 f2 f3 f4 f5 f6 f7 V8 V9)) ⟨hx, hb, hml, hown, hts⟩ (k_X2_isChariot l dC dI cI cZ cJ cA h0 a r8 r9 H.size N v1 x10 x11 x12 x13 x14 x15 f0 f1 f2 f3 f4 f5 f6 f7 V8 V9 o1 ho1) (cwV 1 hts gX2_tell_X2_isChariot rfl rfl rfl (by decide +kernel) ⟨Nat.le_trans (Nat.le_of_ble_eq_true rfl) hRf, Nat.le_trans (Nat.le_of_ble_eq_true rfl) hRl⟩) hK hP hD hS hA hN (ci := 2) rfl rfl rfl rfl hl.1 rfl (Nat.le_of_ble_eq_true rfl) dX2_tell_2 (fun H locs hP hD hS => ?_)
  refine lv_if_ne (tgt := 10) hx hb dX2_tell_5 (by decide) (fun c2 => ?_) (fun c2 => ?_)
  · replace hf := z_im hf c2
    refine lv_iload_n hx hb dX2_tell_10 rfl (lv_at hl 2 rfl) ?_
    by_cases c3 : v2 = 0
    · replace hf := z_ip hf c3
      refine lv_tableIn (tgt := 48) hx hb dX2_tell_11 (by rw [z_tin (k := 0) c3 (by omega)]; decide) (by rw [z_tin (k := 0) c3 (by omega)]; decide) (by rw [z_tin (k := 0) c3 (by omega)]; rfl) (by decide) ?_
      refine lv_aload_n hx hb dX2_tell_48 rfl (lv_at hl 0 rfl) ?_
      refine va_get (D := (dC, dI)) (ci := 2) (v := .ref (a 4)) (C := RX2) (T := TX2) (N := 16) hx hb hts (fun w hw => List.mem_cons_of_mem _ (List.mem_append_right _ hw)) hown hK hP 0 rfl rfl 4 (by decide) (hts (.fieldLink RX2 24 "OldStadium$Hippodrome" "state" "[I") (List.mem_of_getElem? (i := 1) rfl)) (fun _ h9 => h9) rfl dX2_tell_49 ?_
      refine lv_iload_n hx hb dX2_tell_52 rfl (lv_at hl 1 rfl) ?_
      have b9 := z_c1 hf
      replace hf := z_c2 hf
      refine va_iald hx hb hK hP 5 0 rfl rfl b9 dX2_tell_53 ?_
      obtain rfl := Option.some.inj hf
      exact hret _ _ _ _ _ dX2_tell_54 rfl hP hD hS
    replace hf := z_im hf c3
    by_cases c4 : v2 = 1
    · replace hf := z_ip hf c4
      refine lv_tableIn (tgt := 55) hx hb dX2_tell_11 (by rw [z_tin (k := 1) c4 (by omega)]; decide) (by rw [z_tin (k := 1) c4 (by omega)]; decide) (by rw [z_tin (k := 1) c4 (by omega)]; rfl) (by decide) ?_
      refine lv_aload_n hx hb dX2_tell_55 rfl (lv_at hl 0 rfl) ?_
      refine va_get (D := (dC, dI)) (ci := 2) (v := .ref (a 1)) (C := RX2) (T := TX2) (N := 16) hx hb hts (fun w hw => List.mem_cons_of_mem _ (List.mem_append_right _ hw)) hown hK hP 0 rfl rfl 1 (by decide) (hts (.fieldLink RX2 15 "OldStadium$Hippodrome" "lane" "[I") (List.mem_of_getElem? (i := 2) rfl)) (fun _ h9 => h9) rfl dX2_tell_56 ?_
      refine lv_iload_n hx hb dX2_tell_59 rfl (lv_at hl 1 rfl) ?_
      have b10 := z_c1 hf
      replace hf := z_c2 hf
      refine va_iald hx hb hK hP 2 0 rfl rfl b10 dX2_tell_60 ?_
      obtain rfl := Option.some.inj hf
      exact hret _ _ _ _ _ dX2_tell_61 rfl hP hD hS
    replace hf := z_im hf c4
    by_cases c5 : v2 = 2
    · replace hf := z_ip hf c5
      refine lv_tableIn (tgt := 62) hx hb dX2_tell_11 (by rw [z_tin (k := 2) c5 (by omega)]; decide) (by rw [z_tin (k := 2) c5 (by omega)]; decide) (by rw [z_tin (k := 2) c5 (by omega)]; rfl) (by decide) ?_
      refine lv_aload_n hx hb dX2_tell_62 rfl (lv_at hl 0 rfl) ?_
      refine va_get (D := (dC, dI)) (ci := 2) (v := .ref (a 2)) (C := RX2) (T := TX2) (N := 16) hx hb hts (fun w hw => List.mem_cons_of_mem _ (List.mem_append_right _ hw)) hown hK hP 0 rfl rfl 2 (by decide) (hts (.fieldLink RX2 18 "OldStadium$Hippodrome" "cell" "[I") (List.mem_of_getElem? (i := 3) rfl)) (fun _ h9 => h9) rfl dX2_tell_63 ?_
      refine lv_iload_n hx hb dX2_tell_66 rfl (lv_at hl 1 rfl) ?_
      have b11 := z_c1 hf
      replace hf := z_c2 hf
      refine va_iald hx hb hK hP 3 0 rfl rfl b11 dX2_tell_67 ?_
      obtain rfl := Option.some.inj hf
      exact hret _ _ _ _ _ dX2_tell_68 rfl hP hD hS
    replace hf := z_im hf c5
    by_cases c6 : v2 = 3
    · replace hf := z_ip hf c6
      refine lv_tableIn (tgt := 69) hx hb dX2_tell_11 (by rw [z_tin (k := 3) c6 (by omega)]; decide) (by rw [z_tin (k := 3) c6 (by omega)]; decide) (by rw [z_tin (k := 3) c6 (by omega)]; rfl) (by decide) ?_
      refine lv_aload_n hx hb dX2_tell_69 rfl (lv_at hl 0 rfl) ?_
      refine va_get (D := (dC, dI)) (ci := 2) (v := .ref (a 3)) (C := RX2) (T := TX2) (N := 16) hx hb hts (fun w hw => List.mem_cons_of_mem _ (List.mem_append_right _ hw)) hown hK hP 0 rfl rfl 3 (by decide) (hts (.fieldLink RX2 21 "OldStadium$Hippodrome" "lapsDone" "[I") (List.mem_of_getElem? (i := 4) rfl)) (fun _ h9 => h9) rfl dX2_tell_70 ?_
      refine lv_iload_n hx hb dX2_tell_73 rfl (lv_at hl 1 rfl) ?_
      have b12 := z_c1 hf
      replace hf := z_c2 hf
      refine va_iald hx hb hK hP 4 0 rfl rfl b12 dX2_tell_74 ?_
      obtain rfl := Option.some.inj hf
      exact hret _ _ _ _ _ dX2_tell_75 rfl hP hD hS
    replace hf := z_im hf c6
    by_cases c7 : v2 = 4
    · replace hf := z_ip hf c7
      refine lv_tableIn (tgt := 76) hx hb dX2_tell_11 (by rw [z_tin (k := 4) c7 (by omega)]; decide) (by rw [z_tin (k := 4) c7 (by omega)]; decide) (by rw [z_tin (k := 4) c7 (by omega)]; rfl) (by decide) ?_
      refine lv_aload_n hx hb dX2_tell_76 rfl (lv_at hl 0 rfl) ?_
      refine va_get (D := (dC, dI)) (ci := 2) (v := .ref (a 5)) (C := RX2) (T := TX2) (N := 16) hx hb hts (fun w hw => List.mem_cons_of_mem _ (List.mem_append_right _ hw)) hown hK hP 0 rfl rfl 5 (by decide) (hts (.fieldLink RX2 27 "OldStadium$Hippodrome" "endTick" "[I") (List.mem_of_getElem? (i := 5) rfl)) (fun _ h9 => h9) rfl dX2_tell_77 ?_
      refine lv_iload_n hx hb dX2_tell_80 rfl (lv_at hl 1 rfl) ?_
      have b13 := z_c1 hf
      replace hf := z_c2 hf
      refine va_iald hx hb hK hP 6 0 rfl rfl b13 dX2_tell_81 ?_
      obtain rfl := Option.some.inj hf
      exact hret _ _ _ _ _ dX2_tell_82 rfl hP hD hS
    replace hf := z_im hf c7
    by_cases c8 : v2 = 5
    · replace hf := z_ip hf c8
      refine lv_tableIn (tgt := 83) hx hb dX2_tell_11 (by rw [z_tin (k := 5) c8 (by omega)]; decide) (by rw [z_tin (k := 5) c8 (by omega)]; decide) (by rw [z_tin (k := 5) c8 (by omega)]; rfl) (by decide) ?_
      refine lv_aload_n hx hb dX2_tell_83 rfl (lv_at hl 0 rfl) ?_
      refine va_get (D := (dC, dI)) (ci := 2) (v := .ref (a 6)) (C := RX2) (T := TX2) (N := 16) hx hb hts (fun w hw => List.mem_cons_of_mem _ (List.mem_append_right _ hw)) hown hK hP 0 rfl rfl 6 (by decide) (hts (.fieldLink RX2 30 "OldStadium$Hippodrome" "place" "[I") (List.mem_of_getElem? (i := 6) rfl)) (fun _ h9 => h9) rfl dX2_tell_84 ?_
      refine lv_iload_n hx hb dX2_tell_87 rfl (lv_at hl 1 rfl) ?_
      have b14 := z_c1 hf
      replace hf := z_c2 hf
      refine va_iald hx hb hK hP 7 0 rfl rfl b14 dX2_tell_88 ?_
      obtain rfl := Option.some.inj hf
      exact hret _ _ _ _ _ dX2_tell_89 rfl hP hD hS
    replace hf := z_im hf c8
    refine lv_tableOut (tgt := 90) hx hb dX2_tell_11 (z_tout (n := 5) ⟨⟨⟨⟨⟨⟨trivial, c3⟩, c4⟩, c5⟩, c6⟩, c7⟩, c8⟩ (by omega)) (by decide) ?_
    refine lv_iconst (v := (-1)) hx hb dX2_tell_90 (by decide) ?_
    obtain rfl := Option.some.inj hf
    exact hret _ _ _ _ _ dX2_tell_91 rfl hP hD hS
  · replace hf := z_ip hf c2
    refine lv_iconst (v := (-1)) hx hb dX2_tell_8 (by decide) ?_
    obtain rfl := Option.some.inj hf
    exact hret _ _ _ _ _ dX2_tell_9 rfl hP hD hS
set_option maxHeartbeats 4000000 in
set_option maxRecDepth 100000 in
theorem k_X2_tell (l : Launch) (dC : Nat → ClassId) (dI : Nat → Nat → Nat) (cI cZ cJ cA : ClassId) (h0 : Nat) (a : Nat → Nat) (r8 : Nat → Nat) (r9 : Nat → Nat) (sz : Nat) (N : Nat) (v1 : Int32) (v2 : Int32) (x10 : Int32) (x11 : Int32) (x12 : Int32) (x13 : Int32) (x14 : Int32) (x15 : Int32) (f0 : (Nat → Int32)) (f1 : (Nat → Int32)) (f2 : (Nat → Int32)) (f3 : (Nat → Int32)) (f4 : (Nat → Int32)) (f5 : (Nat → Int32)) (f6 : (Nat → Int32)) (f7 : (Nat → Int32)) (V8 : (Nat → Nat → Int32)) (V9 : (Nat → Nat → Int32)) (o : Int32) (hf : q_X2_tell N v1 v2 x13 f1 f2 f3 f4 f5 f6 = some o) : Met l yX2_tell wsX2_tell ({ frames := 1, cells := 0, slots := 0, locals := 21 } : Room) (z_Pre dC dI (z_ty cI cZ cJ cA) [.ref h0, .int v1, .int v2] sz (wX2 cI cZ cJ cA h0 a r8 r9 x10 x11 x12 x13 x14 x15 f0 f1 f2 f3 f4 f5 f6 f7 V8 V9)) (z_Pi dC dI o (wX2 cI cZ cJ cA h0 a r8 r9 x10 x11 x12 x13 x14 x15 f0 f1 f2 f3 f4 f5 f6 f7 V8 V9) sz (wX2 cI cZ cJ cA h0 a r8 r9 x10 x11 x12 x13 x14 x15 f0 f1 f2 f3 f4 f5 f6 f7 V8 V9)) 0 0 (va_A (wX2 cI cZ cJ cA h0 a r8 r9 x10 x11 x12 x13 x14 x15 f0 f1 f2 f3 f4 f5 f6 f7 V8 V9) sz) := by
  refine Met.ofW (cc := cX2_tell) (maxL := 3) (ret := (some .int)) (by decide) rfl ?_
  intro p e s m args below meth c s₁ B hml hv
  obtain ⟨rfl, hsz, hP, hK, hD0, hN⟩ := hv
  subst hsz
  have hl := lv_entry ([.ref h0, .int v1, .int v2]) (n := 3) (Nat.le_of_ble_eq_true rfl)
  rw [lg_entry_eq]
  refine b_X2_tell N ⟨⟨B.exec, B.bytes, hml, findClass_of_methodNamed B.named, atoms_spec (ws := wsX2_tell) B.pre⟩, Nat.le_refl _, Nat.le_refl _, fun q h => Or.inr h, hN, hK⟩ hf hP hD0.self va_S.rf hl (fun pc H locs ls r hd hr hP hD hS => ?_)
  subst hr
  exact W.iret B.exec B.bytes B.returns (fun t ht hW => ⟨⟨_, (), rfl, rfl, by rw [ht]; exact hP, hD⟩, hS.F ht⟩) hS.2.2 hd

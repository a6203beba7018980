def q_X3_countFrom_L25 (N : Nat) (v1 : Int32) (x7 : Int32) (x8 : Int32) (f0 : (Nat → Int32)) (f1 : (Nat → Int32)) (f2 : (Nat → Int32)) (f6 : (Nat → Int32)) (f9 : (Nat → Int32)) (rc : (Int32 → Int32 → Int32 → (Nat → Int32) → (Nat → Int32) → (Nat → Int32) → (Nat → Int32) → (Nat → Int32) → (Nat → Int32) → (Nat → Int64) → Option (Int32 × (Nat → Int32) × (Nat → Int64)))) : Nat → Int32 → Int32 → (Nat → Int32) → (Nat → Int64) → Option (Int32 × (Nat → Int32) × (Nat → Int64))
  | 0, _, _, _, _ => none
  | n + 1, v2, v3, f10, f11 =>
    (if z_in v1 6 then
    (if (f2 (Int32.toNatClampNeg v1)) < v3 then
     (some (v2, f10, f11))
    else
     (Option.bind (q_X3_fits N v1 (-1) x8 f0 f6 f9 (upd f10 (Int32.toNatClampNeg v1) v3)) (fun o3 =>
     (if o3 = 0 then
      (q_X3_countFrom_L25 N v1 x7 x8 f0 f1 f2 f6 f9 rc n v2 (v3 + 1) (upd f10 (Int32.toNatClampNeg v1) v3) f11)
     else
      (Option.bind (rc (v1 + 1) x7 x8 f0 f1 f2 f6 f9 (upd f10 (Int32.toNatClampNeg v1) v3) f11) (fun o5 =>
      (if o5.1 ≤ 0 then
       (q_X3_countFrom_L25 N v1 x7 x8 f0 f1 f2 f6 f9 rc n v2 (v3 + 1) o5.2.1 o5.2.2)
      else
       (Option.bind (some (((o5.2.2 (Int32.toNatClampNeg v1)) ||| (z_lshl 1 v3)) : Int64)) (fun n7 =>
       (q_X3_countFrom_L25 N v1 x7 x8 f0 f1 f2 f6 f9 rc n (v2 + o5.1) (v3 + 1) o5.2.1 (vp_updL o5.2.2 (Int32.toNatClampNeg v1) n7)))))))))))
    else none)
set_option maxHeartbeats 4000000 in
set_option maxRecDepth 100000 in
theorem b_X3_countFrom_L25 {p : Program} {l : Launch} {e : Env} {R : Room} {s : State} {m : MethodId} {args : Array Value} {below : List Frame} {meth : Method} {c : Code} {Q : State → Prop} {A : Nat → Prop} {dC : Nat → ClassId} {dI : Nat → Nat → Nat} {cI cZ cJ cA : ClassId} {h0 : Nat} {a : Nat → Nat} (N : Nat) {rc : (Int32 → Int32 → Int32 → (Nat → Int32) → (Nat → Int32) → (Nat → Int32) → (Nat → Int32) → (Nat → Int32) → (Nat → Int32) → (Nat → Int64) → Option (Int32 × (Nat → Int32) × (Nat → Int64)))} {D E : Nat} (hrc : ∀ (sz : Nat) (v1 : Int32) (x7 : Int32) (x8 : Int32) (x12 : Int32) (x13 : Int32) (f0 : (Nat → Int32)) (f1 : (Nat → Int32)) (f2 : (Nat → Int32)) (f3 : (Nat → Int32)) (f4 : (Nat → Int32)) (f5 : (Nat → Int32)) (f6 : (Nat → Int32)) (f9 : (Nat → Int32)) (f10 : (Nat → Int32)) (f11 : (Nat → Int64)) (o : (Int32 × (Nat → Int32) × (Nat → Int64))), rc v1 x7 x8 f0 f1 f2 f6 f9 f10 f11 = some o → Met l yX3_countFrom wsX3_countFrom ({ frames := D + 10, cells := 0, slots := 0, locals := E + 100 } : Room) (z_Pre dC dI (z_ty cI cZ cJ cA) [.ref h0, .int v1] sz (wX3 cI cZ cJ cA h0 a x7 x8 x12 x13 f0 f1 f2 f3 f4 f5 f6 f9 f10 f11)) (z_Pi dC dI o.1 (wX3 cI cZ cJ cA h0 a x7 x8 x12 x13 f0 f1 f2 f3 f4 f5 f6 f9 o.2.1 o.2.2) sz (wX3 cI cZ cJ cA h0 a x7 x8 x12 x13 f0 f1 f2 f3 f4 f5 f6 f9 f10 f11)) 0 0 (va_A (wX3 cI cZ cJ cA h0 a x7 x8 x12 x13 f0 f1 f2 f3 f4 f5 f6 f9 f10 f11) sz)) (C0 : z_Cx p s m args c cX3_countFrom 5 wsX3_countFrom RX3 R (D + 11) (8 + (5 + 11) + (E + 100)) A dC dI (z_ty cI cZ cJ cA)) : ∀ (n : Nat) {v1 : Int32} {v2 : Int32} {v3 : Int32} {x7 : Int32} {x8 : Int32} {x12 : Int32} {x13 : Int32} {f0 : (Nat → Int32)} {f1 : (Nat → Int32)} {f2 : (Nat → Int32)} {f3 : (Nat → Int32)} {f4 : (Nat → Int32)} {f5 : (Nat → Int32)} {f6 : (Nat → Int32)} {f9 : (Nat → Int32)} {f10 : (Nat → Int32)} {f11 : (Nat → Int64)} {o : (Int32 × (Nat → Int32) × (Nat → Int64))} {H : Heap} {locs : List Loc} {ls : Array Slot}, q_X3_countFrom_L25 N v1 x7 x8 f0 f1 f2 f6 f9 rc n v2 v3 f10 f11 = some o → va_P (dC, dI) vwCl (wX3 cI cZ cJ cA h0 a x7 x8 x12 x13 f0 f1 f2 f3 f4 f5 f6 f9 f10 f11) H → va_D A (wX3 cI cZ cJ cA h0 a x7 x8 x12 x13 f0 f1 f2 f3 f4 f5 f6 f9 f10 f11) → va_S A s.heap H locs → lv_has ls 5 [(0, .ref h0), (1, .int v1), (2, .int v2), (3, .int v3)] →
    (∀ (H : Heap) (locs : List Loc) (ls : Array Slot), va_P (dC, dI) vwCl (wX3 cI cZ cJ cA h0 a x7 x8 x12 x13 f0 f1 f2 f3 f4 f5 f6 f9 o.2.1 o.2.2) H → va_D A (wX3 cI cZ cJ cA h0 a x7 x8 x12 x13 f0 f1 f2 f3 f4 f5 f6 f9 o.2.1 o.2.2) → va_S A s.heap H locs → lv_has ls 5 [(2, .int o.1)] → W p l e R s m args below meth c H locs 0 0 Q (F0 m 92 ls [])) →
    W p l e R s m args below meth c H locs 0 0 Q (F0 m 25 ls []) := by
  obtain ⟨⟨hx, hb, hml, hown, hts⟩, hRf, hRl, hA, hN, hK⟩ := C0
  intro n
  induction n with
  | zero =>
    intro v1 v2 v3 x7 x8 x12 x13 f0 f1 f2 f3 f4 f5 f6 f9 f10 f11 o H locs ls hf
    cases hf
  | succ n ih =>
    intro v1 v2 v3 x7 x8 x12 x13 f0 f1 f2 f3 f4 f5 f6 f9 f10 f11 o H locs ls hf hP hD hS hl hexit
    rw [q_X3_countFrom_L25] at hf
    refine lv_iload_n hx hb dX3_countFrom_25 rfl (lv_at hl 3 rfl) ?_
    refine lv_aload_n hx hb dX3_countFrom_26 rfl (lv_at hl 0 rfl) ?_
    refine va_get (D := (dC, dI)) (ci := 3) (v := .ref (a 2)) (C := RX3) (T := TX3) (N := 14) hx hb hts (fun w hw => List.mem_cons_of_mem _ (List.mem_append_right _ hw)) hown hK hP 0 rfl rfl 2 (by decide) (hts (.fieldLink RX3 18 "OldStadium$Quarry" "to" "[I") (List.mem_of_getElem? (i := 3) rfl)) (fun _ h9 => h9) rfl dX3_countFrom_27 ?_
    refine lv_iload_n hx hb dX3_countFrom_30 rfl (lv_at hl 1 rfl) ?_
    have b1 := z_c1 hf
    replace hf := z_c2 hf
    refine va_iald hx hb hK hP 3 0 rfl rfl b1 dX3_countFrom_31 ?_
    refine lv_icmp_gt (tgt := 92) hx hb dX3_countFrom_32 (by decide) (fun c2 => ?_) (fun c2 => ?_)
    · replace hf := z_ip hf c2
      obtain rfl := Option.some.inj hf
      exact hexit _ _ _ hP hD hS (lv_sub hl [2] rfl)
    · replace hf := z_im hf c2
      refine lv_aload_n hx hb dX3_countFrom_35 rfl (lv_at hl 0 rfl) ?_
      refine va_get (D := (dC, dI)) (ci := 3) (v := .ref (a 10)) (C := RX3) (T := TX3) (N := 14) hx hb hts (fun w hw => List.mem_cons_of_mem _ (List.mem_append_right _ hw)) hown hK hP 0 rfl rfl 10 (by decide) (hts (.fieldLink RX3 43 "OldStadium$Quarry" "yea\x72" "[I") (List.mem_of_getElem? (i := 4) rfl)) (fun _ h9 => h9) rfl dX3_countFrom_36 ?_
      refine lv_iload_n hx hb dX3_countFrom_39 rfl (lv_at hl 1 rfl) ?_
      refine lv_iload_n hx hb dX3_countFrom_40 rfl (lv_at hl 3 rfl) ?_
      refine va_iast hx hb hK hP hD hS 9 0 rfl rfl b1 dX3_countFrom_41 (fun H locs hP hD hS => ?_)
      replace hP : va_P (dC, dI) vwCl (wX3 cI cZ cJ cA h0 a x7 x8 x12 x13 f0 f1 f2 f3 f4 f5 f6 f9 (upd f10 (Int32.toNatClampNeg v1) v3) f11) H := hP
      replace hD : va_D A (wX3 cI cZ cJ cA h0 a x7 x8 x12 x13 f0 f1 f2 f3 f4 f5 f6 f9 (upd f10 (Int32.toNatClampNeg v1) v3) f11) := hD
      refine lv_aload_n hx hb dX3_countFrom_42 rfl (lv_at hl 0 rfl) ?_
      refine lv_iload_n hx hb dX3_countFrom_43 rfl (lv_at hl 1 rfl) ?_
      refine lv_iconst (v := (-1)) hx hb dX3_countFrom_44 (by decide) ?_
      obtain ⟨o3, ho3, hf1⟩ := z_ib hf
      replace hf := hf1
      clear hf1
      refine z_Vi (As := [.int v1, .int (-1)]) (rest := []) (w := (wX3 cI cZ cJ cA h0 a x7 x8 x12 x13 f0 f1 f2 f3 f4 f5 f6 f9 (upd f10 (Int32.toNatClampNeg v1) v3) f11)) (w1 := (wX3 cI cZ cJ cA h0 a x7 x8 x12 x13 f0 f1 f2 f3 f4 f5 f6 f9 (upd f10 (Int32.toNatClampNeg v1) v3) f11)) ⟨hx, hb, hml, hown, hts⟩ (k_X3_fits l dC dI cI cZ cJ cA h0 a H.size N v1 (-1) x7 x8 x12 x13 f0 f1 f2 f3 f4 f5 f6 f9 (upd f10 (Int32.toNatClampNeg v1) v3) f11 o3 ho3) (cwV 2 hts gX3_countFrom_X3_fits rfl rfl rfl (by decide +kernel) ⟨Nat.le_trans (Nat.le_trans (Nat.le_of_ble_eq_true rfl) (Nat.le_add_left 11 D)) hRf, Nat.le_trans (Nat.le_trans (Nat.le_of_ble_eq_true rfl) (show 100 ≤ 8 + (5 + 11) + (E + 100) by omega)) hRl⟩) hK hP hD hS hA hN (ci := 3) rfl rfl rfl rfl hl.1 rfl (Nat.le_of_ble_eq_true rfl) dX3_countFrom_45 (fun H locs hP hD hS => ?_)
      refine lv_if_eq (tgt := 61) hx hb dX3_countFrom_48 (by decide) (fun c4 => ?_) (fun c4 => ?_)
      · replace hf := z_ip hf c4
        refine lv_iconst (v := 0) hx hb dX3_countFrom_61 (by decide) ?_
        refine lv_istore (lv' := [(4, .int 0), (0, .ref h0), (1, .int v1), (2, .int v2), (3, .int v3)]) hx hb dX3_countFrom_62 hl (by decide) rfl (fun ls hl => ?_)
        refine lv_iload hx hb dX3_countFrom_64 (lv_at hl 0 rfl) ?_
        refine lv_if_le (tgt := 86) hx hb dX3_countFrom_66 (by decide) (fun _ => ?_) (fun c0 => absurd c0 (by decide))
        refine lv_iinc (v := (v3 + 1)) (lv' := [(3, .int (v3 + 1)), (4, .int 0), (0, .ref h0), (1, .int v1), (2, .int v2)]) hx hb dX3_countFrom_86 hl (k := 4) rfl rfl (by decide) rfl (fun ls hl => ?_)
        refine lv_goto (tgt := 25) hx hb dX3_countFrom_89 (by decide) ?_
        exact ih hf hP hD hS (lv_sub hl [2, 3, 4, 0] rfl) hexit
      · replace hf := z_im hf c4
        refine lv_aload_n hx hb dX3_countFrom_51 rfl (lv_at hl 0 rfl) ?_
        refine lv_iload_n hx hb dX3_countFrom_52 rfl (lv_at hl 1 rfl) ?_
        refine lv_iconst (v := 1) hx hb dX3_countFrom_53 (by decide) ?_
        refine lv_iadd hx hb dX3_countFrom_54 ?_
        obtain ⟨o5, ho5, hf1⟩ := z_ib hf
        replace hf := hf1
        clear hf1
        refine z_Si (As := [.ref h0, .int (v1 + 1)]) (rest := []) (w := (wX3 cI cZ cJ cA h0 a x7 x8 x12 x13 f0 f1 f2 f3 f4 f5 f6 f9 (upd f10 (Int32.toNatClampNeg v1) v3) f11)) (w1 := (wX3 cI cZ cJ cA h0 a x7 x8 x12 x13 f0 f1 f2 f3 f4 f5 f6 f9 o5.2.1 o5.2.2)) ⟨hx, hb, hml, hown, hts⟩ (hrc H.size (v1 + 1) x7 x8 x12 x13 f0 f1 f2 f3 f4 f5 f6 f9 (upd f10 (Int32.toNatClampNeg v1) v3) f11 o5 ho5) (va_cwS 2 hts gX3_countFrom_X3_countFrom rfl rfl rfl (by decide +kernel) ⟨hRf, hRl⟩) hK hP hD hS hA hN rfl hl.1 rfl (Nat.le_of_ble_eq_true rfl) dX3_countFrom_55 (fun H locs hP hD hS => ?_)
        refine lv_goto (tgt := 62) hx hb dX3_countFrom_58 (by decide) ?_
        refine lv_istore (lv' := [(4, .int o5.1), (0, .ref h0), (1, .int v1), (2, .int v2), (3, .int v3)]) hx hb dX3_countFrom_62 hl (by decide) rfl (fun ls hl => ?_)
        refine lv_iload hx hb dX3_countFrom_64 (lv_at hl 0 rfl) ?_
        refine lv_if_le (tgt := 86) hx hb dX3_countFrom_66 (by decide) (fun c6 => ?_) (fun c6 => ?_)
        · replace hf := z_ip hf c6
          refine lv_iinc (v := (v3 + 1)) (lv' := [(3, .int (v3 + 1)), (4, .int o5.1), (0, .ref h0), (1, .int v1), (2, .int v2)]) hx hb dX3_countFrom_86 hl (k := 4) rfl rfl (by decide) rfl (fun ls hl => ?_)
          refine lv_goto (tgt := 25) hx hb dX3_countFrom_89 (by decide) ?_
          exact ih hf hP hD hS (lv_sub hl [2, 3, 4, 0] rfl) hexit
        · replace hf := z_im hf c6
          refine lv_aload_n hx hb dX3_countFrom_69 rfl (lv_at hl 1 rfl) ?_
          refine va_get (D := (dC, dI)) (ci := 3) (v := .ref (a 11)) (C := RX3) (T := TX3) (N := 14) hx hb hts (fun w hw => List.mem_cons_of_mem _ (List.mem_append_right _ hw)) hown hK hP 0 rfl rfl 11 (by decide) (hts (.fieldLink RX3 46 "OldStadium$Quarry" "seen" "[J") (List.mem_of_getElem? (i := 5) rfl)) (fun _ h9 => h9) rfl dX3_countFrom_70 ?_
          refine lv_iload_n hx hb dX3_countFrom_73 rfl (lv_at hl 2 rfl) ?_
          refine lv_dup2_11 hx hb dX3_countFrom_74 rfl rfl ?_
          refine va_lald hx hb hK hP 10 2 rfl rfl b1 dX3_countFrom_75 ?_
          refine lv_lconst (v := 1) hx hb dX3_countFrom_76 (by decide) ?_
          refine lv_iload_n hx hb dX3_countFrom_77 rfl (lv_at hl 4 rfl) ?_
          refine z_lsh hx hb dX3_countFrom_78 ?_
          refine lv_lor hx hb dX3_countFrom_79 ?_
          obtain ⟨n7, hn7, hf1⟩ := z_ib hf
          replace hf := hf1
          clear hf1
          refine lv_topl (fun y9 ey9 => ?_)
          obtain rfl : n7 = y9 := (Option.some.inj hn7).symm.trans ey9.symm
          refine va_last hx hb hK hP hD hS 10 2 rfl rfl b1 dX3_countFrom_80 (fun H locs hP hD hS => ?_)
          replace hP : va_P (dC, dI) vwCl (wX3 cI cZ cJ cA h0 a x7 x8 x12 x13 f0 f1 f2 f3 f4 f5 f6 f9 o5.2.1 (vp_updL o5.2.2 (Int32.toNatClampNeg v1) n7)) H := hP
          replace hD : va_D A (wX3 cI cZ cJ cA h0 a x7 x8 x12 x13 f0 f1 f2 f3 f4 f5 f6 f9 o5.2.1 (vp_updL o5.2.2 (Int32.toNatClampNeg v1) n7)) := hD
          refine lv_iload_n hx hb dX3_countFrom_81 rfl (lv_at hl 3 rfl) ?_
          refine lv_iload hx hb dX3_countFrom_82 (lv_at hl 0 rfl) ?_
          refine lv_iadd hx hb dX3_countFrom_84 ?_
          refine lv_istore_n (lv' := [(2, .int (v2 + o5.1)), (4, .int o5.1), (0, .ref h0), (1, .int v1), (3, .int v3)]) hx hb dX3_countFrom_85 rfl hl (by decide) rfl (fun ls hl => ?_)
          refine lv_iinc (v := (v3 + 1)) (lv' := [(3, .int (v3 + 1)), (2, .int (v2 + o5.1)), (4, .int o5.1), (0, .ref h0), (1, .int v1)]) hx hb dX3_countFrom_86 hl (k := 4) rfl rfl (by decide) rfl (fun ls hl => ?_)
          refine lv_goto (tgt := 25) hx hb dX3_countFrom_89 (by decide) ?_
          exact ih hf hP hD hS (lv_sub hl [3, 4, 1, 0] rfl) hexit
def q_X3_countFrom_B (N : Nat) (rc : (Int32 → Int32 → Int32 → (Nat → Int32) → (Nat → Int32) → (Nat → Int32) → (Nat → Int32) → (Nat → Int32) → (Nat → Int32) → (Nat → Int64) → Option (Int32 × (Nat → Int32) × (Nat → Int64)))) (v1 : Int32) (x7 : Int32) (x8 : Int32) (f0 : (Nat → Int32)) (f1 : (Nat → Int32)) (f2 : (Nat → Int32)) (f6 : (Nat → Int32)) (f9 : (Nat → Int32)) (f10 : (Nat → Int32)) (f11 : (Nat → Int64)) : Option (Int32 × (Nat → Int32) × (Nat → Int64)) :=
  (if x7 ≤ v1 then
   (some (1, f10, f11))
  else
   (if v1 < 6 then
    (if z_in v1 6 then
    (Option.bind (q_X3_countFrom_L25 N v1 x7 x8 f0 f1 f2 f6 f9 rc N 0 (f1 (Int32.toNatClampNeg v1)) f10 f11) (fun t4 =>
    (some (t4.1, t4.2.1, t4.2.2))))
    else none)
   else
    (some (1, f10, f11))))
set_option maxHeartbeats 4000000 in
set_option maxRecDepth 100000 in
theorem b_X3_countFrom {p : Program} {l : Launch} {e : Env} {R : Room} {s : State} {m : MethodId} {args : Array Value} {below : List Frame} {meth : Method} {c : Code} {Q : State → Prop} {A : Nat → Prop} {dC : Nat → ClassId} {dI : Nat → Nat → Nat} {cI cZ cJ cA : ClassId} {h0 : Nat} {a : Nat → Nat} (N : Nat) {rc : (Int32 → Int32 → Int32 → (Nat → Int32) → (Nat → Int32) → (Nat → Int32) → (Nat → Int32) → (Nat → Int32) → (Nat → Int32) → (Nat → Int64) → Option (Int32 × (Nat → Int32) × (Nat → Int64)))} {D E : Nat} (hrc : ∀ (sz : Nat) (v1 : Int32) (x7 : Int32) (x8 : Int32) (x12 : Int32) (x13 : Int32) (f0 : (Nat → Int32)) (f1 : (Nat → Int32)) (f2 : (Nat → Int32)) (f3 : (Nat → Int32)) (f4 : (Nat → Int32)) (f5 : (Nat → Int32)) (f6 : (Nat → Int32)) (f9 : (Nat → Int32)) (f10 : (Nat → Int32)) (f11 : (Nat → Int64)) (o : (Int32 × (Nat → Int32) × (Nat → Int64))), rc v1 x7 x8 f0 f1 f2 f6 f9 f10 f11 = some o → Met l yX3_countFrom wsX3_countFrom ({ frames := D + 10, cells := 0, slots := 0, locals := E + 100 } : Room) (z_Pre dC dI (z_ty cI cZ cJ cA) [.ref h0, .int v1] sz (wX3 cI cZ cJ cA h0 a x7 x8 x12 x13 f0 f1 f2 f3 f4 f5 f6 f9 f10 f11)) (z_Pi dC dI o.1 (wX3 cI cZ cJ cA h0 a x7 x8 x12 x13 f0 f1 f2 f3 f4 f5 f6 f9 o.2.1 o.2.2) sz (wX3 cI cZ cJ cA h0 a x7 x8 x12 x13 f0 f1 f2 f3 f4 f5 f6 f9 f10 f11)) 0 0 (va_A (wX3 cI cZ cJ cA h0 a x7 x8 x12 x13 f0 f1 f2 f3 f4 f5 f6 f9 f10 f11) sz)) (C0 : z_Cx p s m args c cX3_countFrom 5 wsX3_countFrom RX3 R (D + 11) (8 + (5 + 11) + (E + 100)) A dC dI (z_ty cI cZ cJ cA)) {v1 : Int32} {x7 : Int32} {x8 : Int32} {x12 : Int32} {x13 : Int32} {f0 : (Nat → Int32)} {f1 : (Nat → Int32)} {f2 : (Nat → Int32)} {f3 : (Nat → Int32)} {f4 : (Nat → Int32)} {f5 : (Nat → Int32)} {f6 : (Nat → Int32)} {f9 : (Nat → Int32)} {f10 : (Nat → Int32)} {f11 : (Nat → Int64)} {o : (Int32 × (Nat → Int32) × (Nat → Int64))} {H : Heap} {locs : List Loc} {ls : Array Slot} (hf : q_X3_countFrom_B N rc v1 x7 x8 f0 f1 f2 f6 f9 f10 f11 = some o) (hP : va_P (dC, dI) vwCl (wX3 cI cZ cJ cA h0 a x7 x8 x12 x13 f0 f1 f2 f3 f4 f5 f6 f9 f10 f11) H) (hD : va_D A (wX3 cI cZ cJ cA h0 a x7 x8 x12 x13 f0 f1 f2 f3 f4 f5 f6 f9 f10 f11)) (hS : va_S A s.heap H locs) (hl : lv_has ls 5 [(0, .ref h0), (1, .int v1)])
    (hret : ∀ (pc : Nat) (H : Heap) (locs : List Loc) (ls : Array Slot) (r : Int32), decode cX3_countFrom pc = .ok (.ireturn, 1) → r = o.1 → va_P (dC, dI) vwCl (wX3 cI cZ cJ cA h0 a x7 x8 x12 x13 f0 f1 f2 f3 f4 f5 f6 f9 o.2.1 o.2.2) H → va_D A (wX3 cI cZ cJ cA h0 a x7 x8 x12 x13 f0 f1 f2 f3 f4 f5 f6 f9 o.2.1 o.2.2) → va_S A s.heap H locs → W p l e R s m args below meth c H locs 0 0 Q (F0 m pc ls [.int r])) :
    W p l e R s m args below meth c H locs 0 0 Q (F0 m 0 ls []) := by
  obtain ⟨⟨hx, hb, hml, hown, hts⟩, hRf, hRl, hA, hN, hK⟩ := C0
  unfold q_X3_countFrom_B at hf
  refine lv_iload_n hx hb dX3_countFrom_0 rfl (lv_at hl 1 rfl) ?_
  refine lv_aload_n hx hb dX3_countFrom_1 rfl (lv_at hl 0 rfl) ?_
  refine va_get (D := (dC, dI)) (ci := 3) (v := .int x7) (C := RX3) (T := TX3) (N := 14) hx hb hts (fun w hw => List.mem_cons_of_mem _ (List.mem_append_right _ hw)) hown hK hP 0 rfl rfl 7 (by decide) (hts (.fieldLink RX3 33 "OldStadium$Quarry" "stones" "I") (List.mem_of_getElem? (i := 1) rfl)) (fun _ h9 => h9) rfl dX3_countFrom_2 ?_
  refine lv_icmp_ge (tgt := 14) hx hb dX3_countFrom_5 (by decide) (fun c1 => ?_) (fun c1 => ?_)
  · replace hf := z_ip hf c1
    refine lv_iconst (v := 1) hx hb dX3_countFrom_14 (by decide) ?_
    obtain rfl := Option.some.inj hf
    exact hret _ _ _ _ _ dX3_countFrom_15 rfl hP hD hS
  · replace hf := z_im hf c1
    refine lv_iload_n hx hb dX3_countFrom_8 rfl (lv_at hl 1 rfl) ?_
    refine lv_bipush (v := 6) hx hb dX3_countFrom_9 (by decide) ?_
    refine lv_icmp_lt (tgt := 16) hx hb dX3_countFrom_11 (by decide) (fun c2 => ?_) (fun c2 => ?_)
    · replace hf := z_ip hf c2
      refine lv_iconst (v := 0) hx hb dX3_countFrom_16 (by decide) ?_
      refine lv_istore_n (lv' := [(2, .int 0), (0, .ref h0), (1, .int v1)]) hx hb dX3_countFrom_17 rfl hl (by decide) rfl (fun ls hl => ?_)
      refine lv_aload_n hx hb dX3_countFrom_18 rfl (lv_at hl 1 rfl) ?_
      refine va_get (D := (dC, dI)) (ci := 3) (v := .ref (a 1)) (C := RX3) (T := TX3) (N := 14) hx hb hts (fun w hw => List.mem_cons_of_mem _ (List.mem_append_right _ hw)) hown hK hP 0 rfl rfl 1 (by decide) (hts (.fieldLink RX3 15 "OldStadium$Quarry" "from" "[I") (List.mem_of_getElem? (i := 2) rfl)) (fun _ h9 => h9) rfl dX3_countFrom_19 ?_
      refine lv_iload_n hx hb dX3_countFrom_22 rfl (lv_at hl 2 rfl) ?_
      have b3 := z_c1 hf
      replace hf := z_c2 hf
      refine va_iald hx hb hK hP 2 0 rfl rfl b3 dX3_countFrom_23 ?_
      refine lv_istore_n (lv' := [(3, .int (f1 (Int32.toNatClampNeg v1))), (2, .int 0), (0, .ref h0), (1, .int v1)]) hx hb dX3_countFrom_24 rfl hl (by decide) rfl (fun ls hl => ?_)
      obtain ⟨t4, ht4, hf1⟩ := z_ib hf
      replace hf := hf1
      clear hf1
      refine b_X3_countFrom_L25 N hrc ⟨⟨hx, hb, hml, hown, hts⟩, hRf, hRl, hA, hN, hK⟩ N ht4 hP hD hS (lv_sub hl [2, 3, 1, 0] rfl) (fun H locs ls hP hD hS hl => ?_)
      refine lv_iload_n hx hb dX3_countFrom_92 rfl (lv_at hl 0 rfl) ?_
      obtain rfl := Option.some.inj hf
      exact hret _ _ _ _ _ dX3_countFrom_93 rfl hP hD hS
    · replace hf := z_im hf c2
      refine lv_iconst (v := 1) hx hb dX3_countFrom_14 (by decide) ?_
      obtain rfl := Option.some.inj hf
      exact hret _ _ _ _ _ dX3_countFrom_15 rfl hP hD hS
set_option maxHeartbeats 4000000 in
set_option maxRecDepth 100000 in
theorem k_X3_countFrom_B (l : Launch) (dC : Nat → ClassId) (dI : Nat → Nat → Nat) (cI cZ cJ cA : ClassId) (h0 : Nat) (a : Nat → Nat) (N : Nat) (rc : (Int32 → Int32 → Int32 → (Nat → Int32) → (Nat → Int32) → (Nat → Int32) → (Nat → Int32) → (Nat → Int32) → (Nat → Int32) → (Nat → Int64) → Option (Int32 × (Nat → Int32) × (Nat → Int64)))) (D E : Nat) (hrc : ∀ (sz : Nat) (v1 : Int32) (x7 : Int32) (x8 : Int32) (x12 : Int32) (x13 : Int32) (f0 : (Nat → Int32)) (f1 : (Nat → Int32)) (f2 : (Nat → Int32)) (f3 : (Nat → Int32)) (f4 : (Nat → Int32)) (f5 : (Nat → Int32)) (f6 : (Nat → Int32)) (f9 : (Nat → Int32)) (f10 : (Nat → Int32)) (f11 : (Nat → Int64)) (o : (Int32 × (Nat → Int32) × (Nat → Int64))), rc v1 x7 x8 f0 f1 f2 f6 f9 f10 f11 = some o → Met l yX3_countFrom wsX3_countFrom ({ frames := D + 10, cells := 0, slots := 0, locals := E + 100 } : Room) (z_Pre dC dI (z_ty cI cZ cJ cA) [.ref h0, .int v1] sz (wX3 cI cZ cJ cA h0 a x7 x8 x12 x13 f0 f1 f2 f3 f4 f5 f6 f9 f10 f11)) (z_Pi dC dI o.1 (wX3 cI cZ cJ cA h0 a x7 x8 x12 x13 f0 f1 f2 f3 f4 f5 f6 f9 o.2.1 o.2.2) sz (wX3 cI cZ cJ cA h0 a x7 x8 x12 x13 f0 f1 f2 f3 f4 f5 f6 f9 f10 f11)) 0 0 (va_A (wX3 cI cZ cJ cA h0 a x7 x8 x12 x13 f0 f1 f2 f3 f4 f5 f6 f9 f10 f11) sz)) : ∀ (sz : Nat) (v1 : Int32) (x7 : Int32) (x8 : Int32) (x12 : Int32) (x13 : Int32) (f0 : (Nat → Int32)) (f1 : (Nat → Int32)) (f2 : (Nat → Int32)) (f3 : (Nat → Int32)) (f4 : (Nat → Int32)) (f5 : (Nat → Int32)) (f6 : (Nat → Int32)) (f9 : (Nat → Int32)) (f10 : (Nat → Int32)) (f11 : (Nat → Int64)) (o : (Int32 × (Nat → Int32) × (Nat → Int64))), q_X3_countFrom_B N rc v1 x7 x8 f0 f1 f2 f6 f9 f10 f11 = some o → Met l yX3_countFrom wsX3_countFrom ({ frames := (D + 11), cells := 0, slots := 0, locals := (8 + (5 + 11) + (E + 100)) } : Room) (z_Pre dC dI (z_ty cI cZ cJ cA) [.ref h0, .int v1] sz (wX3 cI cZ cJ cA h0 a x7 x8 x12 x13 f0 f1 f2 f3 f4 f5 f6 f9 f10 f11)) (z_Pi dC dI o.1 (wX3 cI cZ cJ cA h0 a x7 x8 x12 x13 f0 f1 f2 f3 f4 f5 f6 f9 o.2.1 o.2.2) sz (wX3 cI cZ cJ cA h0 a x7 x8 x12 x13 f0 f1 f2 f3 f4 f5 f6 f9 f10 f11)) 0 0 (va_A (wX3 cI cZ cJ cA h0 a x7 x8 x12 x13 f0 f1 f2 f3 f4 f5 f6 f9 f10 f11) sz) := by
  intro sz v1 x7 x8 x12 x13 f0 f1 f2 f3 f4 f5 f6 f9 f10 f11 o hf
  refine Met.ofW (cc := cX3_countFrom) (maxL := 5) (ret := (some .int)) (by decide) rfl ?_
  intro p e s m args below meth c s₁ B hml hv
  obtain ⟨rfl, hsz, hP, hK, hD0, hN⟩ := hv
  subst hsz
  have hl := lv_entry ([.ref h0, .int v1]) (n := 5) (Nat.le_of_ble_eq_true rfl)
  rw [lg_entry_eq]
  refine b_X3_countFrom N hrc ⟨⟨B.exec, B.bytes, hml, findClass_of_methodNamed B.named, atoms_spec (ws := wsX3_countFrom) B.pre⟩, Nat.le_refl _, Nat.le_refl _, fun q h => Or.inr h, hN, hK⟩ hf hP hD0.self va_S.rf hl (fun pc H locs ls r hd hr hP hD hS => ?_)
  subst hr
  exact W.iret B.exec B.bytes B.returns (fun t ht hW => ⟨⟨_, (), rfl, rfl, by rw [ht]; exact hP, hD⟩, hS.F ht⟩) hS.2.2 hd
def q_X3_countFrom_D (N : Nat) : Nat → Int32 → Int32 → Int32 → (Nat → Int32) → (Nat → Int32) → (Nat → Int32) → (Nat → Int32) → (Nat → Int32) → (Nat → Int32) → (Nat → Int64) → Option (Int32 × (Nat → Int32) × (Nat → Int64))
  | 0, _, _, _, _, _, _, _, _, _, _ => none
  | d + 1, v1, x7, x8, f0, f1, f2, f6, f9, f10, f11 => q_X3_countFrom_B N (q_X3_countFrom_D N d) v1 x7 x8 f0 f1 f2 f6 f9 f10 f11
def q_X3_countFrom (N : Nat) (v1 : Int32) (x7 : Int32) (x8 : Int32) (f0 : (Nat → Int32)) (f1 : (Nat → Int32)) (f2 : (Nat → Int32)) (f6 : (Nat → Int32)) (f9 : (Nat → Int32)) (f10 : (Nat → Int32)) (f11 : (Nat → Int64)) : Option (Int32 × (Nat → Int32) × (Nat → Int64)) := q_X3_countFrom_D N 8 v1 x7 x8 f0 f1 f2 f6 f9 f10 f11
set_option maxHeartbeats 4000000 in
set_option maxRecDepth 100000 in
theorem k_X3_countFrom (l : Launch) (dC : Nat → ClassId) (dI : Nat → Nat → Nat) (cI cZ cJ cA : ClassId) (h0 : Nat) (a : Nat → Nat) (sz : Nat) (N : Nat) (v1 : Int32) (x7 : Int32) (x8 : Int32) (x12 : Int32) (x13 : Int32) (f0 : (Nat → Int32)) (f1 : (Nat → Int32)) (f2 : (Nat → Int32)) (f3 : (Nat → Int32)) (f4 : (Nat → Int32)) (f5 : (Nat → Int32)) (f6 : (Nat → Int32)) (f9 : (Nat → Int32)) (f10 : (Nat → Int32)) (f11 : (Nat → Int64)) (o : (Int32 × (Nat → Int32) × (Nat → Int64))) (hf : q_X3_countFrom N v1 x7 x8 f0 f1 f2 f6 f9 f10 f11 = some o) : Met l yX3_countFrom wsX3_countFrom ({ frames := 18, cells := 0, slots := 0, locals := 292 } : Room) (z_Pre dC dI (z_ty cI cZ cJ cA) [.ref h0, .int v1] sz (wX3 cI cZ cJ cA h0 a x7 x8 x12 x13 f0 f1 f2 f3 f4 f5 f6 f9 f10 f11)) (z_Pi dC dI o.1 (wX3 cI cZ cJ cA h0 a x7 x8 x12 x13 f0 f1 f2 f3 f4 f5 f6 f9 o.2.1 o.2.2) sz (wX3 cI cZ cJ cA h0 a x7 x8 x12 x13 f0 f1 f2 f3 f4 f5 f6 f9 f10 f11)) 0 0 (va_A (wX3 cI cZ cJ cA h0 a x7 x8 x12 x13 f0 f1 f2 f3 f4 f5 f6 f9 f10 f11) sz) := by
  have k0 : ∀ (sz : Nat) (v1 : Int32) (x7 : Int32) (x8 : Int32) (x12 : Int32) (x13 : Int32) (f0 : (Nat → Int32)) (f1 : (Nat → Int32)) (f2 : (Nat → Int32)) (f3 : (Nat → Int32)) (f4 : (Nat → Int32)) (f5 : (Nat → Int32)) (f6 : (Nat → Int32)) (f9 : (Nat → Int32)) (f10 : (Nat → Int32)) (f11 : (Nat → Int64)) (o : (Int32 × (Nat → Int32) × (Nat → Int64))), q_X3_countFrom_D N 0 v1 x7 x8 f0 f1 f2 f6 f9 f10 f11 = some o → Met l yX3_countFrom wsX3_countFrom ({ frames := 10, cells := 0, slots := 0, locals := 100 } : Room) (z_Pre dC dI (z_ty cI cZ cJ cA) [.ref h0, .int v1] sz (wX3 cI cZ cJ cA h0 a x7 x8 x12 x13 f0 f1 f2 f3 f4 f5 f6 f9 f10 f11)) (z_Pi dC dI o.1 (wX3 cI cZ cJ cA h0 a x7 x8 x12 x13 f0 f1 f2 f3 f4 f5 f6 f9 o.2.1 o.2.2) sz (wX3 cI cZ cJ cA h0 a x7 x8 x12 x13 f0 f1 f2 f3 f4 f5 f6 f9 f10 f11)) 0 0 (va_A (wX3 cI cZ cJ cA h0 a x7 x8 x12 x13 f0 f1 f2 f3 f4 f5 f6 f9 f10 f11) sz) := by
    intro sz v1 x7 x8 x12 x13 f0 f1 f2 f3 f4 f5 f6 f9 f10 f11 o hf
    cases hf
  have k1 : ∀ (sz : Nat) (v1 : Int32) (x7 : Int32) (x8 : Int32) (x12 : Int32) (x13 : Int32) (f0 : (Nat → Int32)) (f1 : (Nat → Int32)) (f2 : (Nat → Int32)) (f3 : (Nat → Int32)) (f4 : (Nat → Int32)) (f5 : (Nat → Int32)) (f6 : (Nat → Int32)) (f9 : (Nat → Int32)) (f10 : (Nat → Int32)) (f11 : (Nat → Int64)) (o : (Int32 × (Nat → Int32) × (Nat → Int64))), q_X3_countFrom_D N 1 v1 x7 x8 f0 f1 f2 f6 f9 f10 f11 = some o → Met l yX3_countFrom wsX3_countFrom ({ frames := 11, cells := 0, slots := 0, locals := 124 } : Room) (z_Pre dC dI (z_ty cI cZ cJ cA) [.ref h0, .int v1] sz (wX3 cI cZ cJ cA h0 a x7 x8 x12 x13 f0 f1 f2 f3 f4 f5 f6 f9 f10 f11)) (z_Pi dC dI o.1 (wX3 cI cZ cJ cA h0 a x7 x8 x12 x13 f0 f1 f2 f3 f4 f5 f6 f9 o.2.1 o.2.2) sz (wX3 cI cZ cJ cA h0 a x7 x8 x12 x13 f0 f1 f2 f3 f4 f5 f6 f9 f10 f11)) 0 0 (va_A (wX3 cI cZ cJ cA h0 a x7 x8 x12 x13 f0 f1 f2 f3 f4 f5 f6 f9 f10 f11) sz) := k_X3_countFrom_B l dC dI cI cZ cJ cA h0 a N (q_X3_countFrom_D N 0) 0 0 k0
  have k2 : ∀ (sz : Nat) (v1 : Int32) (x7 : Int32) (x8 : Int32) (x12 : Int32) (x13 : Int32) (f0 : (Nat → Int32)) (f1 : (Nat → Int32)) (f2 : (Nat → Int32)) (f3 : (Nat → Int32)) (f4 : (Nat → Int32)) (f5 : (Nat → Int32)) (f6 : (Nat → Int32)) (f9 : (Nat → Int32)) (f10 : (Nat → Int32)) (f11 : (Nat → Int64)) (o : (Int32 × (Nat → Int32) × (Nat → Int64))), q_X3_countFrom_D N 2 v1 x7 x8 f0 f1 f2 f6 f9 f10 f11 = some o → Met l yX3_countFrom wsX3_countFrom ({ frames := 12, cells := 0, slots := 0, locals := 148 } : Room) (z_Pre dC dI (z_ty cI cZ cJ cA) [.ref h0, .int v1] sz (wX3 cI cZ cJ cA h0 a x7 x8 x12 x13 f0 f1 f2 f3 f4 f5 f6 f9 f10 f11)) (z_Pi dC dI o.1 (wX3 cI cZ cJ cA h0 a x7 x8 x12 x13 f0 f1 f2 f3 f4 f5 f6 f9 o.2.1 o.2.2) sz (wX3 cI cZ cJ cA h0 a x7 x8 x12 x13 f0 f1 f2 f3 f4 f5 f6 f9 f10 f11)) 0 0 (va_A (wX3 cI cZ cJ cA h0 a x7 x8 x12 x13 f0 f1 f2 f3 f4 f5 f6 f9 f10 f11) sz) := k_X3_countFrom_B l dC dI cI cZ cJ cA h0 a N (q_X3_countFrom_D N 1) 1 24 k1
  have k3 : ∀ (sz : Nat) (v1 : Int32) (x7 : Int32) (x8 : Int32) (x12 : Int32) (x13 : Int32) (f0 : (Nat → Int32)) (f1 : (Nat → Int32)) (f2 : (Nat → Int32)) (f3 : (Nat → Int32)) (f4 : (Nat → Int32)) (f5 : (Nat → Int32)) (f6 : (Nat → Int32)) (f9 : (Nat → Int32)) (f10 : (Nat → Int32)) (f11 : (Nat → Int64)) (o : (Int32 × (Nat → Int32) × (Nat → Int64))), q_X3_countFrom_D N 3 v1 x7 x8 f0 f1 f2 f6 f9 f10 f11 = some o → Met l yX3_countFrom wsX3_countFrom ({ frames := 13, cells := 0, slots := 0, locals := 172 } : Room) (z_Pre dC dI (z_ty cI cZ cJ cA) [.ref h0, .int v1] sz (wX3 cI cZ cJ cA h0 a x7 x8 x12 x13 f0 f1 f2 f3 f4 f5 f6 f9 f10 f11)) (z_Pi dC dI o.1 (wX3 cI cZ cJ cA h0 a x7 x8 x12 x13 f0 f1 f2 f3 f4 f5 f6 f9 o.2.1 o.2.2) sz (wX3 cI cZ cJ cA h0 a x7 x8 x12 x13 f0 f1 f2 f3 f4 f5 f6 f9 f10 f11)) 0 0 (va_A (wX3 cI cZ cJ cA h0 a x7 x8 x12 x13 f0 f1 f2 f3 f4 f5 f6 f9 f10 f11) sz) := k_X3_countFrom_B l dC dI cI cZ cJ cA h0 a N (q_X3_countFrom_D N 2) 2 48 k2
  have k4 : ∀ (sz : Nat) (v1 : Int32) (x7 : Int32) (x8 : Int32) (x12 : Int32) (x13 : Int32) (f0 : (Nat → Int32)) (f1 : (Nat → Int32)) (f2 : (Nat → Int32)) (f3 : (Nat → Int32)) (f4 : (Nat → Int32)) (f5 : (Nat → Int32)) (f6 : (Nat → Int32)) (f9 : (Nat → Int32)) (f10 : (Nat → Int32)) (f11 : (Nat → Int64)) (o : (Int32 × (Nat → Int32) × (Nat → Int64))), q_X3_countFrom_D N 4 v1 x7 x8 f0 f1 f2 f6 f9 f10 f11 = some o → Met l yX3_countFrom wsX3_countFrom ({ frames := 14, cells := 0, slots := 0, locals := 196 } : Room) (z_Pre dC dI (z_ty cI cZ cJ cA) [.ref h0, .int v1] sz (wX3 cI cZ cJ cA h0 a x7 x8 x12 x13 f0 f1 f2 f3 f4 f5 f6 f9 f10 f11)) (z_Pi dC dI o.1 (wX3 cI cZ cJ cA h0 a x7 x8 x12 x13 f0 f1 f2 f3 f4 f5 f6 f9 o.2.1 o.2.2) sz (wX3 cI cZ cJ cA h0 a x7 x8 x12 x13 f0 f1 f2 f3 f4 f5 f6 f9 f10 f11)) 0 0 (va_A (wX3 cI cZ cJ cA h0 a x7 x8 x12 x13 f0 f1 f2 f3 f4 f5 f6 f9 f10 f11) sz) := k_X3_countFrom_B l dC dI cI cZ cJ cA h0 a N (q_X3_countFrom_D N 3) 3 72 k3
  have k5 : ∀ (sz : Nat) (v1 : Int32) (x7 : Int32) (x8 : Int32) (x12 : Int32) (x13 : Int32) (f0 : (Nat → Int32)) (f1 : (Nat → Int32)) (f2 : (Nat → Int32)) (f3 : (Nat → Int32)) (f4 : (Nat → Int32)) (f5 : (Nat → Int32)) (f6 : (Nat → Int32)) (f9 : (Nat → Int32)) (f10 : (Nat → Int32)) (f11 : (Nat → Int64)) (o : (Int32 × (Nat → Int32) × (Nat → Int64))), q_X3_countFrom_D N 5 v1 x7 x8 f0 f1 f2 f6 f9 f10 f11 = some o → Met l yX3_countFrom wsX3_countFrom ({ frames := 15, cells := 0, slots := 0, locals := 220 } : Room) (z_Pre dC dI (z_ty cI cZ cJ cA) [.ref h0, .int v1] sz (wX3 cI cZ cJ cA h0 a x7 x8 x12 x13 f0 f1 f2 f3 f4 f5 f6 f9 f10 f11)) (z_Pi dC dI o.1 (wX3 cI cZ cJ cA h0 a x7 x8 x12 x13 f0 f1 f2 f3 f4 f5 f6 f9 o.2.1 o.2.2) sz (wX3 cI cZ cJ cA h0 a x7 x8 x12 x13 f0 f1 f2 f3 f4 f5 f6 f9 f10 f11)) 0 0 (va_A (wX3 cI cZ cJ cA h0 a x7 x8 x12 x13 f0 f1 f2 f3 f4 f5 f6 f9 f10 f11) sz) := k_X3_countFrom_B l dC dI cI cZ cJ cA h0 a N (q_X3_countFrom_D N 4) 4 96 k4
  have k6 : ∀ (sz : Nat) (v1 : Int32) (x7 : Int32) (x8 : Int32) (x12 : Int32) (x13 : Int32) (f0 : (Nat → Int32)) (f1 : (Nat → Int32)) (f2 : (Nat → Int32)) (f3 : (Nat → Int32)) (f4 : (Nat → Int32)) (f5 : (Nat → Int32)) (f6 : (Nat → Int32)) (f9 : (Nat → Int32)) (f10 : (Nat → Int32)) (f11 : (Nat → Int64)) (o : (Int32 × (Nat → Int32) × (Nat → Int64))), q_X3_countFrom_D N 6 v1 x7 x8 f0 f1 f2 f6 f9 f10 f11 = some o → Met l yX3_countFrom wsX3_countFrom ({ frames := 16, cells := 0, slots := 0, locals := 244 } : Room) (z_Pre dC dI (z_ty cI cZ cJ cA) [.ref h0, .int v1] sz (wX3 cI cZ cJ cA h0 a x7 x8 x12 x13 f0 f1 f2 f3 f4 f5 f6 f9 f10 f11)) (z_Pi dC dI o.1 (wX3 cI cZ cJ cA h0 a x7 x8 x12 x13 f0 f1 f2 f3 f4 f5 f6 f9 o.2.1 o.2.2) sz (wX3 cI cZ cJ cA h0 a x7 x8 x12 x13 f0 f1 f2 f3 f4 f5 f6 f9 f10 f11)) 0 0 (va_A (wX3 cI cZ cJ cA h0 a x7 x8 x12 x13 f0 f1 f2 f3 f4 f5 f6 f9 f10 f11) sz) := k_X3_countFrom_B l dC dI cI cZ cJ cA h0 a N (q_X3_countFrom_D N 5) 5 120 k5
  have k7 : ∀ (sz : Nat) (v1 : Int32) (x7 : Int32) (x8 : Int32) (x12 : Int32) (x13 : Int32) (f0 : (Nat → Int32)) (f1 : (Nat → Int32)) (f2 : (Nat → Int32)) (f3 : (Nat → Int32)) (f4 : (Nat → Int32)) (f5 : (Nat → Int32)) (f6 : (Nat → Int32)) (f9 : (Nat → Int32)) (f10 : (Nat → Int32)) (f11 : (Nat → Int64)) (o : (Int32 × (Nat → Int32) × (Nat → Int64))), q_X3_countFrom_D N 7 v1 x7 x8 f0 f1 f2 f6 f9 f10 f11 = some o → Met l yX3_countFrom wsX3_countFrom ({ frames := 17, cells := 0, slots := 0, locals := 268 } : Room) (z_Pre dC dI (z_ty cI cZ cJ cA) [.ref h0, .int v1] sz (wX3 cI cZ cJ cA h0 a x7 x8 x12 x13 f0 f1 f2 f3 f4 f5 f6 f9 f10 f11)) (z_Pi dC dI o.1 (wX3 cI cZ cJ cA h0 a x7 x8 x12 x13 f0 f1 f2 f3 f4 f5 f6 f9 o.2.1 o.2.2) sz (wX3 cI cZ cJ cA h0 a x7 x8 x12 x13 f0 f1 f2 f3 f4 f5 f6 f9 f10 f11)) 0 0 (va_A (wX3 cI cZ cJ cA h0 a x7 x8 x12 x13 f0 f1 f2 f3 f4 f5 f6 f9 f10 f11) sz) := k_X3_countFrom_B l dC dI cI cZ cJ cA h0 a N (q_X3_countFrom_D N 6) 6 144 k6
  have k8 : ∀ (sz : Nat) (v1 : Int32) (x7 : Int32) (x8 : Int32) (x12 : Int32) (x13 : Int32) (f0 : (Nat → Int32)) (f1 : (Nat → Int32)) (f2 : (Nat → Int32)) (f3 : (Nat → Int32)) (f4 : (Nat → Int32)) (f5 : (Nat → Int32)) (f6 : (Nat → Int32)) (f9 : (Nat → Int32)) (f10 : (Nat → Int32)) (f11 : (Nat → Int64)) (o : (Int32 × (Nat → Int32) × (Nat → Int64))), q_X3_countFrom_D N 8 v1 x7 x8 f0 f1 f2 f6 f9 f10 f11 = some o → Met l yX3_countFrom wsX3_countFrom ({ frames := 18, cells := 0, slots := 0, locals := 292 } : Room) (z_Pre dC dI (z_ty cI cZ cJ cA) [.ref h0, .int v1] sz (wX3 cI cZ cJ cA h0 a x7 x8 x12 x13 f0 f1 f2 f3 f4 f5 f6 f9 f10 f11)) (z_Pi dC dI o.1 (wX3 cI cZ cJ cA h0 a x7 x8 x12 x13 f0 f1 f2 f3 f4 f5 f6 f9 o.2.1 o.2.2) sz (wX3 cI cZ cJ cA h0 a x7 x8 x12 x13 f0 f1 f2 f3 f4 f5 f6 f9 f10 f11)) 0 0 (va_A (wX3 cI cZ cJ cA h0 a x7 x8 x12 x13 f0 f1 f2 f3 f4 f5 f6 f9 f10 f11) sz) := k_X3_countFrom_B l dC dI cI cZ cJ cA h0 a N (q_X3_countFrom_D N 7) 7 168 k7
  exact k8 sz v1 x7 x8 x12 x13 f0 f1 f2 f3 f4 f5 f6 f9 f10 f11 o hf
def q_X3_isRollFrom_L40 (N : Nat) (v1 : Int32) (v2 : Int32) (x7 : Int32) (x8 : Int32) (f0 : (Nat → Int32)) (f1 : (Nat → Int32)) (f2 : (Nat → Int32)) (f6 : (Nat → Int32)) (f9 : (Nat → Int32)) (rc : (Int32 → Int32 → Int32 → Int32 → (Nat → Int32) → (Nat → Int32) → (Nat → Int32) → (Nat → Int32) → (Nat → Int32) → (Nat → Int32) → Option (Int32 × (Nat → Int32)))) : Nat → Int32 → (Nat → Int32) → Option (Sum (Int32 × (Nat → Int32)) (Nat → Int32))
  | 0, _, _ => none
  | n + 1, v3, f10 =>
    (if z_in v1 6 then
    (if (f2 (Int32.toNatClampNeg v1)) < v3 then
     (some (Sum.inr f10))
    else
     (Option.bind (q_X3_fits N v1 v2 x8 f0 f6 f9 (upd f10 (Int32.toNatClampNeg v1) v3)) (fun o3 =>
     (if o3 = 0 then
      (q_X3_isRollFrom_L40 N v1 v2 x7 x8 f0 f1 f2 f6 f9 rc n (v3 + 1) (upd f10 (Int32.toNatClampNeg v1) v3))
     else
      (Option.bind (rc (v1 + 1) v2 x7 x8 f0 f1 f2 f6 f9 (upd f10 (Int32.toNatClampNeg v1) v3)) (fun o5 =>
      (if o5.1 = 0 then
       (q_X3_isRollFrom_L40 N v1 v2 x7 x8 f0 f1 f2 f6 f9 rc n (v3 + 1) o5.2)
      else
       (some (Sum.inl (1, o5.2))))))))))
    else none)
set_option maxHeartbeats 4000000 in
set_option maxRecDepth 100000 in
theorem b_X3_isRollFrom_L40 {p : Program} {l : Launch} {e : Env} {R : Room} {s : State} {m : MethodId} {args : Array Value} {below : List Frame} {meth : Method} {c : Code} {Q : State → Prop} {A : Nat → Prop} {dC : Nat → ClassId} {dI : Nat → Nat → Nat} {cI cZ cJ cA : ClassId} {h0 : Nat} {a : Nat → Nat} (N : Nat) {rc : (Int32 → Int32 → Int32 → Int32 → (Nat → Int32) → (Nat → Int32) → (Nat → Int32) → (Nat → Int32) → (Nat → Int32) → (Nat → Int32) → Option (Int32 × (Nat → Int32)))} {D E : Nat} (hrc : ∀ (sz : Nat) (v1 : Int32) (v2 : Int32) (x7 : Int32) (x8 : Int32) (x12 : Int32) (x13 : Int32) (f0 : (Nat → Int32)) (f1 : (Nat → Int32)) (f2 : (Nat → Int32)) (f3 : (Nat → Int32)) (f4 : (Nat → Int32)) (f5 : (Nat → Int32)) (f6 : (Nat → Int32)) (f9 : (Nat → Int32)) (f10 : (Nat → Int32)) (f11 : (Nat → Int64)) (o : (Int32 × (Nat → Int32))), rc v1 v2 x7 x8 f0 f1 f2 f6 f9 f10 = some o → Met l yX3_isRollFrom wsX3_isRollFrom ({ frames := D + 10, cells := 0, slots := 0, locals := E + 100 } : Room) (z_Pre dC dI (z_ty cI cZ cJ cA) [.ref h0, .int v1, .int v2] sz (wX3 cI cZ cJ cA h0 a x7 x8 x12 x13 f0 f1 f2 f3 f4 f5 f6 f9 f10 f11)) (z_Pi dC dI o.1 (wX3 cI cZ cJ cA h0 a x7 x8 x12 x13 f0 f1 f2 f3 f4 f5 f6 f9 o.2 f11) sz (wX3 cI cZ cJ cA h0 a x7 x8 x12 x13 f0 f1 f2 f3 f4 f5 f6 f9 f10 f11)) 0 0 (va_A (wX3 cI cZ cJ cA h0 a x7 x8 x12 x13 f0 f1 f2 f3 f4 f5 f6 f9 f10 f11) sz)) (hz : ∀ {v1 : Int32} {v2 : Int32} {x7 : Int32} {x8 : Int32} {f0 : (Nat → Int32)} {f1 : (Nat → Int32)} {f2 : (Nat → Int32)} {f6 : (Nat → Int32)} {f9 : (Nat → Int32)} {f10 : (Nat → Int32)} {o : (Int32 × (Nat → Int32))}, rc v1 v2 x7 x8 f0 f1 f2 f6 f9 f10 = some o → narrow .boolean (.int o.1) = .int o.1) (C0 : z_Cx p s m args c cX3_isRollFrom 4 wsX3_isRollFrom RX3 R (D + 11) (8 + (4 + 11) + (E + 100)) A dC dI (z_ty cI cZ cJ cA)) : ∀ (n : Nat) {v1 : Int32} {v2 : Int32} {v3 : Int32} {x7 : Int32} {x8 : Int32} {x12 : Int32} {x13 : Int32} {f0 : (Nat → Int32)} {f1 : (Nat → Int32)} {f2 : (Nat → Int32)} {f3 : (Nat → Int32)} {f4 : (Nat → Int32)} {f5 : (Nat → Int32)} {f6 : (Nat → Int32)} {f9 : (Nat → Int32)} {f10 : (Nat → Int32)} {f11 : (Nat → Int64)} {o : (Sum (Int32 × (Nat → Int32)) (Nat → Int32))} {H : Heap} {locs : List Loc} {ls : Array Slot}, q_X3_isRollFrom_L40 N v1 v2 x7 x8 f0 f1 f2 f6 f9 rc n v3 f10 = some o → va_P (dC, dI) vwCl (wX3 cI cZ cJ cA h0 a x7 x8 x12 x13 f0 f1 f2 f3 f4 f5 f6 f9 f10 f11) H → va_D A (wX3 cI cZ cJ cA h0 a x7 x8 x12 x13 f0 f1 f2 f3 f4 f5 f6 f9 f10 f11) → va_S A s.heap H locs → lv_has ls 4 [(0, .ref h0), (1, .int v1), (2, .int v2), (3, .int v3)] →
    (∀ (t : (Int32 × (Nat → Int32))), o = Sum.inl t → ∀ (pc : Nat) (H : Heap) (locs : List Loc) (ls : Array Slot) (r : Int32), decode cX3_isRollFrom pc = .ok (.ireturn, 1) → r = t.1 → narrow .boolean (.int r) = .int r → va_P (dC, dI) vwCl (wX3 cI cZ cJ cA h0 a x7 x8 x12 x13 f0 f1 f2 f3 f4 f5 f6 f9 t.2 f11) H → va_D A (wX3 cI cZ cJ cA h0 a x7 x8 x12 x13 f0 f1 f2 f3 f4 f5 f6 f9 t.2 f11) → va_S A s.heap H locs → W p l e R s m args below meth c H locs 0 0 Q (F0 m pc ls [.int r])) →
    (∀ (t : (Nat → Int32)) (H : Heap) (locs : List Loc) (ls : Array Slot), o = Sum.inr t → va_P (dC, dI) vwCl (wX3 cI cZ cJ cA h0 a x7 x8 x12 x13 f0 f1 f2 f3 f4 f5 f6 f9 t f11) H → va_D A (wX3 cI cZ cJ cA h0 a x7 x8 x12 x13 f0 f1 f2 f3 f4 f5 f6 f9 t f11) → va_S A s.heap H locs → lv_has ls 4 [] → W p l e R s m args below meth c H locs 0 0 Q (F0 m 85 ls [])) →
    W p l e R s m args below meth c H locs 0 0 Q (F0 m 40 ls []) := by
  obtain ⟨⟨hx, hb, hml, hown, hts⟩, hRf, hRl, hA, hN, hK⟩ := C0
  intro n
  induction n with
  | zero =>
    intro v1 v2 v3 x7 x8 x12 x13 f0 f1 f2 f3 f4 f5 f6 f9 f10 f11 o H locs ls hf
    cases hf
  | succ n ih =>
    intro v1 v2 v3 x7 x8 x12 x13 f0 f1 f2 f3 f4 f5 f6 f9 f10 f11 o H locs ls hf hP hD hS hl hret hexit
    rw [q_X3_isRollFrom_L40] at hf
    refine lv_iload_n hx hb dX3_isRollFrom_40 rfl (lv_at hl 3 rfl) ?_
    refine lv_aload_n hx hb dX3_isRollFrom_41 rfl (lv_at hl 0 rfl) ?_
    refine va_get (D := (dC, dI)) (ci := 3) (v := .ref (a 2)) (C := RX3) (T := TX3) (N := 14) hx hb hts (fun w hw => List.mem_cons_of_mem _ (List.mem_append_right _ hw)) hown hK hP 0 rfl rfl 2 (by decide) (hts (.fieldLink RX3 18 "OldStadium$Quarry" "to" "[I") (List.mem_of_getElem? (i := 3) rfl)) (fun _ h9 => h9) rfl dX3_isRollFrom_42 ?_
    refine lv_iload_n hx hb dX3_isRollFrom_45 rfl (lv_at hl 1 rfl) ?_
    have b1 := z_c1 hf
    replace hf := z_c2 hf
    refine va_iald hx hb hK hP 3 0 rfl rfl b1 dX3_isRollFrom_46 ?_
    refine lv_icmp_gt (tgt := 85) hx hb dX3_isRollFrom_47 (by decide) (fun c2 => ?_) (fun c2 => ?_)
    · replace hf := z_ip hf c2
      obtain rfl := Option.some.inj hf
      exact hexit _ _ _ _ rfl hP hD hS (lv_sub hl [] rfl)
    · replace hf := z_im hf c2
      refine lv_aload_n hx hb dX3_isRollFrom_50 rfl (lv_at hl 0 rfl) ?_
      refine va_get (D := (dC, dI)) (ci := 3) (v := .ref (a 10)) (C := RX3) (T := TX3) (N := 14) hx hb hts (fun w hw => List.mem_cons_of_mem _ (List.mem_append_right _ hw)) hown hK hP 0 rfl rfl 10 (by decide) (hts (.fieldLink RX3 43 "OldStadium$Quarry" "yea\x72" "[I") (List.mem_of_getElem? (i := 4) rfl)) (fun _ h9 => h9) rfl dX3_isRollFrom_51 ?_
      refine lv_iload_n hx hb dX3_isRollFrom_54 rfl (lv_at hl 1 rfl) ?_
      refine lv_iload_n hx hb dX3_isRollFrom_55 rfl (lv_at hl 3 rfl) ?_
      refine va_iast hx hb hK hP hD hS 9 0 rfl rfl b1 dX3_isRollFrom_56 (fun H locs hP hD hS => ?_)
      replace hP : va_P (dC, dI) vwCl (wX3 cI cZ cJ cA h0 a x7 x8 x12 x13 f0 f1 f2 f3 f4 f5 f6 f9 (upd f10 (Int32.toNatClampNeg v1) v3) f11) H := hP
      replace hD : va_D A (wX3 cI cZ cJ cA h0 a x7 x8 x12 x13 f0 f1 f2 f3 f4 f5 f6 f9 (upd f10 (Int32.toNatClampNeg v1) v3) f11) := hD
      refine lv_aload_n hx hb dX3_isRollFrom_57 rfl (lv_at hl 0 rfl) ?_
      refine lv_iload_n hx hb dX3_isRollFrom_58 rfl (lv_at hl 1 rfl) ?_
      refine lv_iload_n hx hb dX3_isRollFrom_59 rfl (lv_at hl 2 rfl) ?_
      obtain ⟨o3, ho3, hf1⟩ := z_ib hf
      replace hf := hf1
      clear hf1
      refine z_Vi (As := [.int v1, .int v2]) (rest := []) (w := (wX3 cI cZ cJ cA h0 a x7 x8 x12 x13 f0 f1 f2 f3 f4 f5 f6 f9 (upd f10 (Int32.toNatClampNeg v1) v3) f11)) (w1 := (wX3 cI cZ cJ cA h0 a x7 x8 x12 x13 f0 f1 f2 f3 f4 f5 f6 f9 (upd f10 (Int32.toNatClampNeg v1) v3) f11)) ⟨hx, hb, hml, hown, hts⟩ (k_X3_fits l dC dI cI cZ cJ cA h0 a H.size N v1 v2 x7 x8 x12 x13 f0 f1 f2 f3 f4 f5 f6 f9 (upd f10 (Int32.toNatClampNeg v1) v3) f11 o3 ho3) (cwV 2 hts gX3_isRollFrom_X3_fits rfl rfl rfl (by decide +kernel) ⟨Nat.le_trans (Nat.le_trans (Nat.le_of_ble_eq_true rfl) (Nat.le_add_left 11 D)) hRf, Nat.le_trans (Nat.le_trans (Nat.le_of_ble_eq_true rfl) (show 100 ≤ 8 + (4 + 11) + (E + 100) by omega)) hRl⟩) hK hP hD hS hA hN (ci := 3) rfl rfl rfl rfl hl.1 rfl (Nat.le_of_ble_eq_true rfl) dX3_isRollFrom_60 (fun H locs hP hD hS => ?_)
      refine lv_if_eq (tgt := 79) hx hb dX3_isRollFrom_63 (by decide) (fun c4 => ?_) (fun c4 => ?_)
      · replace hf := z_ip hf c4
        refine lv_iinc (v := (v3 + 1)) (lv' := [(3, .int (v3 + 1)), (0, .ref h0), (1, .int v1), (2, .int v2)]) hx hb dX3_isRollFrom_79 hl (k := 3) rfl rfl (by decide) rfl (fun ls hl => ?_)
        refine lv_goto (tgt := 40) hx hb dX3_isRollFrom_82 (by decide) ?_
        exact ih hf hP hD hS (lv_sub hl [1, 2, 3, 0] rfl) hret hexit
      · replace hf := z_im hf c4
        refine lv_aload_n hx hb dX3_isRollFrom_66 rfl (lv_at hl 0 rfl) ?_
        refine lv_iload_n hx hb dX3_isRollFrom_67 rfl (lv_at hl 1 rfl) ?_
        refine lv_iconst (v := 1) hx hb dX3_isRollFrom_68 (by decide) ?_
        refine lv_iadd hx hb dX3_isRollFrom_69 ?_
        refine lv_iload_n hx hb dX3_isRollFrom_70 rfl (lv_at hl 2 rfl) ?_
        obtain ⟨o5, ho5, hf1⟩ := z_ib hf
        replace hf := hf1
        clear hf1
        refine z_Si (As := [.ref h0, .int (v1 + 1), .int v2]) (rest := []) (w := (wX3 cI cZ cJ cA h0 a x7 x8 x12 x13 f0 f1 f2 f3 f4 f5 f6 f9 (upd f10 (Int32.toNatClampNeg v1) v3) f11)) (w1 := (wX3 cI cZ cJ cA h0 a x7 x8 x12 x13 f0 f1 f2 f3 f4 f5 f6 f9 o5.2 f11)) ⟨hx, hb, hml, hown, hts⟩ (hrc H.size (v1 + 1) v2 x7 x8 x12 x13 f0 f1 f2 f3 f4 f5 f6 f9 (upd f10 (Int32.toNatClampNeg v1) v3) f11 o5 ho5) (va_cwS 3 hts gX3_isRollFrom_X3_isRollFrom rfl rfl rfl (by decide +kernel) ⟨hRf, hRl⟩) hK hP hD hS hA hN rfl hl.1 rfl (Nat.le_of_ble_eq_true rfl) dX3_isRollFrom_71 (fun H locs hP hD hS => ?_)
        refine lv_if_eq (tgt := 79) hx hb dX3_isRollFrom_74 (by decide) (fun c6 => ?_) (fun c6 => ?_)
        · replace hf := z_ip hf c6
          refine lv_iinc (v := (v3 + 1)) (lv' := [(3, .int (v3 + 1)), (0, .ref h0), (1, .int v1), (2, .int v2)]) hx hb dX3_isRollFrom_79 hl (k := 3) rfl rfl (by decide) rfl (fun ls hl => ?_)
          refine lv_goto (tgt := 40) hx hb dX3_isRollFrom_82 (by decide) ?_
          exact ih hf hP hD hS (lv_sub hl [1, 2, 3, 0] rfl) hret hexit
        · replace hf := z_im hf c6
          refine lv_iconst (v := 1) hx hb dX3_isRollFrom_77 (by decide) ?_
          obtain rfl := Option.some.inj hf
          exact hret _ rfl _ _ _ _ _ dX3_isRollFrom_78 rfl rfl hP hD hS
def q_X3_isRollFrom_B (N : Nat) (rc : (Int32 → Int32 → Int32 → Int32 → (Nat → Int32) → (Nat → Int32) → (Nat → Int32) → (Nat → Int32) → (Nat → Int32) → (Nat → Int32) → Option (Int32 × (Nat → Int32)))) (v1 : Int32) (v2 : Int32) (x7 : Int32) (x8 : Int32) (f0 : (Nat → Int32)) (f1 : (Nat → Int32)) (f2 : (Nat → Int32)) (f6 : (Nat → Int32)) (f9 : (Nat → Int32)) (f10 : (Nat → Int32)) : Option (Int32 × (Nat → Int32)) :=
  (if x7 ≤ v1 then
   (some (1, f10))
  else
   (if v1 < 6 then
    (Option.bind (q_X4_hasBit N v2 v1) (fun o3 =>
    (if o3 = 0 then
     (Option.bind (rc (v1 + 1) v2 x7 x8 f0 f1 f2 f6 f9 f10) (fun o9 =>
     (some (o9.1, o9.2))))
    else
     (if z_in v1 6 then
     (Option.bind (q_X3_isRollFrom_L40 N v1 v2 x7 x8 f0 f1 f2 f6 f9 rc N (f1 (Int32.toNatClampNeg v1)) f10) (Sum.elim (fun r8 => (some r8)) (fun s7 =>
     (some (0, s7)))))
     else none))))
   else
    (some (1, f10))))
set_option maxHeartbeats 4000000 in
set_option maxRecDepth 100000 in
theorem b_X3_isRollFrom {p : Program} {l : Launch} {e : Env} {R : Room} {s : State} {m : MethodId} {args : Array Value} {below : List Frame} {meth : Method} {c : Code} {Q : State → Prop} {A : Nat → Prop} {dC : Nat → ClassId} {dI : Nat → Nat → Nat} {cI cZ cJ cA : ClassId} {h0 : Nat} {a : Nat → Nat} (N : Nat) {rc : (Int32 → Int32 → Int32 → Int32 → (Nat → Int32) → (Nat → Int32) → (Nat → Int32) → (Nat → Int32) → (Nat → Int32) → (Nat → Int32) → Option (Int32 × (Nat → Int32)))} {D E : Nat} (hrc : ∀ (sz : Nat) (v1 : Int32) (v2 : Int32) (x7 : Int32) (x8 : Int32) (x12 : Int32) (x13 : Int32) (f0 : (Nat → Int32)) (f1 : (Nat → Int32)) (f2 : (Nat → Int32)) (f3 : (Nat → Int32)) (f4 : (Nat → Int32)) (f5 : (Nat → Int32)) (f6 : (Nat → Int32)) (f9 : (Nat → Int32)) (f10 : (Nat → Int32)) (f11 : (Nat → Int64)) (o : (Int32 × (Nat → Int32))), rc v1 v2 x7 x8 f0 f1 f2 f6 f9 f10 = some o → Met l yX3_isRollFrom wsX3_isRollFrom ({ frames := D + 10, cells := 0, slots := 0, locals := E + 100 } : Room) (z_Pre dC dI (z_ty cI cZ cJ cA) [.ref h0, .int v1, .int v2] sz (wX3 cI cZ cJ cA h0 a x7 x8 x12 x13 f0 f1 f2 f3 f4 f5 f6 f9 f10 f11)) (z_Pi dC dI o.1 (wX3 cI cZ cJ cA h0 a x7 x8 x12 x13 f0 f1 f2 f3 f4 f5 f6 f9 o.2 f11) sz (wX3 cI cZ cJ cA h0 a x7 x8 x12 x13 f0 f1 f2 f3 f4 f5 f6 f9 f10 f11)) 0 0 (va_A (wX3 cI cZ cJ cA h0 a x7 x8 x12 x13 f0 f1 f2 f3 f4 f5 f6 f9 f10 f11) sz)) (hz : ∀ {v1 : Int32} {v2 : Int32} {x7 : Int32} {x8 : Int32} {f0 : (Nat → Int32)} {f1 : (Nat → Int32)} {f2 : (Nat → Int32)} {f6 : (Nat → Int32)} {f9 : (Nat → Int32)} {f10 : (Nat → Int32)} {o : (Int32 × (Nat → Int32))}, rc v1 v2 x7 x8 f0 f1 f2 f6 f9 f10 = some o → narrow .boolean (.int o.1) = .int o.1) (C0 : z_Cx p s m args c cX3_isRollFrom 4 wsX3_isRollFrom RX3 R (D + 11) (8 + (4 + 11) + (E + 100)) A dC dI (z_ty cI cZ cJ cA)) {v1 : Int32} {v2 : Int32} {x7 : Int32} {x8 : Int32} {x12 : Int32} {x13 : Int32} {f0 : (Nat → Int32)} {f1 : (Nat → Int32)} {f2 : (Nat → Int32)} {f3 : (Nat → Int32)} {f4 : (Nat → Int32)} {f5 : (Nat → Int32)} {f6 : (Nat → Int32)} {f9 : (Nat → Int32)} {f10 : (Nat → Int32)} {f11 : (Nat → Int64)} {o : (Int32 × (Nat → Int32))} {H : Heap} {locs : List Loc} {ls : Array Slot} (hf : q_X3_isRollFrom_B N rc v1 v2 x7 x8 f0 f1 f2 f6 f9 f10 = some o) (hP : va_P (dC, dI) vwCl (wX3 cI cZ cJ cA h0 a x7 x8 x12 x13 f0 f1 f2 f3 f4 f5 f6 f9 f10 f11) H) (hD : va_D A (wX3 cI cZ cJ cA h0 a x7 x8 x12 x13 f0 f1 f2 f3 f4 f5 f6 f9 f10 f11)) (hS : va_S A s.heap H locs) (hl : lv_has ls 4 [(0, .ref h0), (1, .int v1), (2, .int v2)])
    (hret : ∀ (pc : Nat) (H : Heap) (locs : List Loc) (ls : Array Slot) (r : Int32), decode cX3_isRollFrom pc = .ok (.ireturn, 1) → r = o.1 → narrow .boolean (.int r) = .int r → va_P (dC, dI) vwCl (wX3 cI cZ cJ cA h0 a x7 x8 x12 x13 f0 f1 f2 f3 f4 f5 f6 f9 o.2 f11) H → va_D A (wX3 cI cZ cJ cA h0 a x7 x8 x12 x13 f0 f1 f2 f3 f4 f5 f6 f9 o.2 f11) → va_S A s.heap H locs → W p l e R s m args below meth c H locs 0 0 Q (F0 m pc ls [.int r])) :
    W p l e R s m args below meth c H locs 0 0 Q (F0 m 0 ls []) := by
  obtain ⟨⟨hx, hb, hml, hown, hts⟩, hRf, hRl, hA, hN, hK⟩ := C0
  unfold q_X3_isRollFrom_B at hf
  refine lv_iload_n hx hb dX3_isRollFrom_0 rfl (lv_at hl 1 rfl) ?_
  refine lv_aload_n hx hb dX3_isRollFrom_1 rfl (lv_at hl 0 rfl) ?_
  refine va_get (D := (dC, dI)) (ci := 3) (v := .int x7) (C := RX3) (T := TX3) (N := 14) hx hb hts (fun w hw => List.mem_cons_of_mem _ (List.mem_append_right _ hw)) hown hK hP 0 rfl rfl 7 (by decide) (hts (.fieldLink RX3 33 "OldStadium$Quarry" "stones" "I") (List.mem_of_getElem? (i := 1) rfl)) (fun _ h9 => h9) rfl dX3_isRollFrom_2 ?_
  refine lv_icmp_ge (tgt := 14) hx hb dX3_isRollFrom_5 (by decide) (fun c1 => ?_) (fun c1 => ?_)
  · replace hf := z_ip hf c1
    refine lv_iconst (v := 1) hx hb dX3_isRollFrom_14 (by decide) ?_
    obtain rfl := Option.some.inj hf
    exact hret _ _ _ _ _ dX3_isRollFrom_15 rfl rfl hP hD hS
  · replace hf := z_im hf c1
    refine lv_iload_n hx hb dX3_isRollFrom_8 rfl (lv_at hl 1 rfl) ?_
    refine lv_bipush (v := 6) hx hb dX3_isRollFrom_9 (by decide) ?_
    refine lv_icmp_lt (tgt := 16) hx hb dX3_isRollFrom_11 (by decide) (fun c2 => ?_) (fun c2 => ?_)
    · replace hf := z_ip hf c2
      refine lv_iload_n hx hb dX3_isRollFrom_16 rfl (lv_at hl 2 rfl) ?_
      refine lv_iload_n hx hb dX3_isRollFrom_17 rfl (lv_at hl 1 rfl) ?_
      obtain ⟨o3, ho3, hf1⟩ := z_ib hf
      replace hf := hf1
      clear hf1
      refine z_SN0 (As := [.int v2, .int v1]) (rest := []) ⟨hx, hb, hml, hown, hts⟩ (k_X4_hasBit l dC dI cI cZ cJ cA H.size N v2 v1 o3 ho3) ⟨va_cnB 2 hts gX3_isRollFrom_X4_hasBit_n86 rfl rfl rfl (hN _ (List.mem_of_getElem? (i := 9) rfl)) (hts (.initialized RX4) (List.mem_of_getElem? (i := 6) rfl)) (by decide +kernel) ⟨Nat.le_trans (Nat.le_trans (Nat.le_of_ble_eq_true rfl) (Nat.le_add_left 11 D)) hRf, Nat.le_trans (Nat.le_trans (Nat.le_of_ble_eq_true rfl) (show 100 ≤ 8 + (4 + 11) + (E + 100) by omega)) hRl⟩, (hts (.static yX4_hasBit) (List.mem_of_getElem? (i := 5) rfl)), trivial⟩ hK hP hS hA hN rfl hl.1 rfl (Nat.le_of_ble_eq_true rfl) dX3_isRollFrom_18 (fun H locs hP hS => ?_)
      refine lv_if_ne (tgt := 33) hx hb dX3_isRollFrom_21 (by decide) (fun c4 => ?_) (fun c4 => ?_)
      · replace hf := z_im hf c4
        refine lv_aload_n hx hb dX3_isRollFrom_33 rfl (lv_at hl 0 rfl) ?_
        refine va_get (D := (dC, dI)) (ci := 3) (v := .ref (a 1)) (C := RX3) (T := TX3) (N := 14) hx hb hts (fun w hw => List.mem_cons_of_mem _ (List.mem_append_right _ hw)) hown hK hP 0 rfl rfl 1 (by decide) (hts (.fieldLink RX3 15 "OldStadium$Quarry" "from" "[I") (List.mem_of_getElem? (i := 2) rfl)) (fun _ h9 => h9) rfl dX3_isRollFrom_34 ?_
        refine lv_iload_n hx hb dX3_isRollFrom_37 rfl (lv_at hl 1 rfl) ?_
        have b5 := z_c1 hf
        replace hf := z_c2 hf
        refine va_iald hx hb hK hP 2 0 rfl rfl b5 dX3_isRollFrom_38 ?_
        refine lv_istore_n (lv' := [(3, .int (f1 (Int32.toNatClampNeg v1))), (0, .ref h0), (1, .int v1), (2, .int v2)]) hx hb dX3_isRollFrom_39 rfl hl (by decide) rfl (fun ls hl => ?_)
        obtain ⟨t6, ht6, hf1⟩ := z_ib hf
        replace hf := hf1
        clear hf1
        refine b_X3_isRollFrom_L40 N hrc hz ⟨⟨hx, hb, hml, hown, hts⟩, hRf, hRl, hA, hN, hK⟩ N ht6 hP hD hS (lv_sub hl [1, 2, 3, 0] rfl) (fun r8 e1 pc H locs ls r0 hd hr hn hP hD hS => ?_) (fun s7 H locs ls e1 hP hD hS hl => ?_)
        · subst e1
          have hf := z_sl hf
          obtain rfl := Option.some.inj hf
          exact hret pc H locs ls r0 hd hr hn hP hD hS
        subst e1
        replace hf := z_sr hf
        refine lv_iconst (v := 0) hx hb dX3_isRollFrom_85 (by decide) ?_
        obtain rfl := Option.some.inj hf
        exact hret _ _ _ _ _ dX3_isRollFrom_86 rfl rfl hP hD hS
      · replace hf := z_ip hf c4
        refine lv_aload_n hx hb dX3_isRollFrom_24 rfl (lv_at hl 0 rfl) ?_
        refine lv_iload_n hx hb dX3_isRollFrom_25 rfl (lv_at hl 1 rfl) ?_
        refine lv_iconst (v := 1) hx hb dX3_isRollFrom_26 (by decide) ?_
        refine lv_iadd hx hb dX3_isRollFrom_27 ?_
        refine lv_iload_n hx hb dX3_isRollFrom_28 rfl (lv_at hl 2 rfl) ?_
        obtain ⟨o9, ho9, hf1⟩ := z_ib hf
        replace hf := hf1
        clear hf1
        refine z_Si (As := [.ref h0, .int (v1 + 1), .int v2]) (rest := []) (w := (wX3 cI cZ cJ cA h0 a x7 x8 x12 x13 f0 f1 f2 f3 f4 f5 f6 f9 f10 f11)) (w1 := (wX3 cI cZ cJ cA h0 a x7 x8 x12 x13 f0 f1 f2 f3 f4 f5 f6 f9 o9.2 f11)) ⟨hx, hb, hml, hown, hts⟩ (hrc H.size (v1 + 1) v2 x7 x8 x12 x13 f0 f1 f2 f3 f4 f5 f6 f9 f10 f11 o9 ho9) (va_cwS 3 hts gX3_isRollFrom_X3_isRollFrom rfl rfl rfl (by decide +kernel) ⟨hRf, hRl⟩) hK hP hD hS hA hN rfl hl.1 rfl (Nat.le_of_ble_eq_true rfl) dX3_isRollFrom_29 (fun H locs hP hD hS => ?_)
        obtain rfl := Option.some.inj hf
        exact hret _ _ _ _ _ dX3_isRollFrom_32 rfl (hz ho9) hP hD hS
    · replace hf := z_im hf c2
      refine lv_iconst (v := 1) hx hb dX3_isRollFrom_14 (by decide) ?_
      obtain rfl := Option.some.inj hf
      exact hret _ _ _ _ _ dX3_isRollFrom_15 rfl rfl hP hD hS
set_option maxHeartbeats 4000000 in
set_option maxRecDepth 100000 in
theorem k_X3_isRollFrom_B (l : Launch) (dC : Nat → ClassId) (dI : Nat → Nat → Nat) (cI cZ cJ cA : ClassId) (h0 : Nat) (a : Nat → Nat) (N : Nat) (rc : (Int32 → Int32 → Int32 → Int32 → (Nat → Int32) → (Nat → Int32) → (Nat → Int32) → (Nat → Int32) → (Nat → Int32) → (Nat → Int32) → Option (Int32 × (Nat → Int32)))) (D E : Nat) (hrc : ∀ (sz : Nat) (v1 : Int32) (v2 : Int32) (x7 : Int32) (x8 : Int32) (x12 : Int32) (x13 : Int32) (f0 : (Nat → Int32)) (f1 : (Nat → Int32)) (f2 : (Nat → Int32)) (f3 : (Nat → Int32)) (f4 : (Nat → Int32)) (f5 : (Nat → Int32)) (f6 : (Nat → Int32)) (f9 : (Nat → Int32)) (f10 : (Nat → Int32)) (f11 : (Nat → Int64)) (o : (Int32 × (Nat → Int32))), rc v1 v2 x7 x8 f0 f1 f2 f6 f9 f10 = some o → Met l yX3_isRollFrom wsX3_isRollFrom ({ frames := D + 10, cells := 0, slots := 0, locals := E + 100 } : Room) (z_Pre dC dI (z_ty cI cZ cJ cA) [.ref h0, .int v1, .int v2] sz (wX3 cI cZ cJ cA h0 a x7 x8 x12 x13 f0 f1 f2 f3 f4 f5 f6 f9 f10 f11)) (z_Pi dC dI o.1 (wX3 cI cZ cJ cA h0 a x7 x8 x12 x13 f0 f1 f2 f3 f4 f5 f6 f9 o.2 f11) sz (wX3 cI cZ cJ cA h0 a x7 x8 x12 x13 f0 f1 f2 f3 f4 f5 f6 f9 f10 f11)) 0 0 (va_A (wX3 cI cZ cJ cA h0 a x7 x8 x12 x13 f0 f1 f2 f3 f4 f5 f6 f9 f10 f11) sz)) (hz : ∀ {v1 : Int32} {v2 : Int32} {x7 : Int32} {x8 : Int32} {f0 : (Nat → Int32)} {f1 : (Nat → Int32)} {f2 : (Nat → Int32)} {f6 : (Nat → Int32)} {f9 : (Nat → Int32)} {f10 : (Nat → Int32)} {o : (Int32 × (Nat → Int32))}, rc v1 v2 x7 x8 f0 f1 f2 f6 f9 f10 = some o → narrow .boolean (.int o.1) = .int o.1) : ∀ (sz : Nat) (v1 : Int32) (v2 : Int32) (x7 : Int32) (x8 : Int32) (x12 : Int32) (x13 : Int32) (f0 : (Nat → Int32)) (f1 : (Nat → Int32)) (f2 : (Nat → Int32)) (f3 : (Nat → Int32)) (f4 : (Nat → Int32)) (f5 : (Nat → Int32)) (f6 : (Nat → Int32)) (f9 : (Nat → Int32)) (f10 : (Nat → Int32)) (f11 : (Nat → Int64)) (o : (Int32 × (Nat → Int32))), q_X3_isRollFrom_B N rc v1 v2 x7 x8 f0 f1 f2 f6 f9 f10 = some o → Met l yX3_isRollFrom wsX3_isRollFrom ({ frames := (D + 11), cells := 0, slots := 0, locals := (8 + (4 + 11) + (E + 100)) } : Room) (z_Pre dC dI (z_ty cI cZ cJ cA) [.ref h0, .int v1, .int v2] sz (wX3 cI cZ cJ cA h0 a x7 x8 x12 x13 f0 f1 f2 f3 f4 f5 f6 f9 f10 f11)) (z_Pi dC dI o.1 (wX3 cI cZ cJ cA h0 a x7 x8 x12 x13 f0 f1 f2 f3 f4 f5 f6 f9 o.2 f11) sz (wX3 cI cZ cJ cA h0 a x7 x8 x12 x13 f0 f1 f2 f3 f4 f5 f6 f9 f10 f11)) 0 0 (va_A (wX3 cI cZ cJ cA h0 a x7 x8 x12 x13 f0 f1 f2 f3 f4 f5 f6 f9 f10 f11) sz) := by
  intro sz v1 v2 x7 x8 x12 x13 f0 f1 f2 f3 f4 f5 f6 f9 f10 f11 o hf
  refine Met.ofW (cc := cX3_isRollFrom) (maxL := 4) (ret := (some .boolean)) (by decide) rfl ?_
  intro p e s m args below meth c s₁ B hml hv
  obtain ⟨rfl, hsz, hP, hK, hD0, hN⟩ := hv
  subst hsz
  have hl := lv_entry ([.ref h0, .int v1, .int v2]) (n := 4) (Nat.le_of_ble_eq_true rfl)
  rw [lg_entry_eq]
  refine b_X3_isRollFrom N hrc hz ⟨⟨B.exec, B.bytes, hml, findClass_of_methodNamed B.named, atoms_spec (ws := wsX3_isRollFrom) B.pre⟩, Nat.le_refl _, Nat.le_refl _, fun q h => Or.inr h, hN, hK⟩ hf hP hD0.self va_S.rf hl (fun pc H locs ls r hd hr hn hP hD hS => ?_)
  subst hr
  exact W.zret B.exec B.bytes B.returns hn (fun t ht hW => ⟨⟨_, (), rfl, rfl, by rw [ht]; exact hP, hD⟩, hS.F ht⟩) hS.2.2 hd
def q_X3_isRollFrom_D (N : Nat) : Nat → Int32 → Int32 → Int32 → Int32 → (Nat → Int32) → (Nat → Int32) → (Nat → Int32) → (Nat → Int32) → (Nat → Int32) → (Nat → Int32) → Option (Int32 × (Nat → Int32))
  | 0, _, _, _, _, _, _, _, _, _, _ => none
  | d + 1, v1, v2, x7, x8, f0, f1, f2, f6, f9, f10 => q_X3_isRollFrom_B N (q_X3_isRollFrom_D N d) v1 v2 x7 x8 f0 f1 f2 f6 f9 f10
def q_X3_isRollFrom (N : Nat) (v1 : Int32) (v2 : Int32) (x7 : Int32) (x8 : Int32) (f0 : (Nat → Int32)) (f1 : (Nat → Int32)) (f2 : (Nat → Int32)) (f6 : (Nat → Int32)) (f9 : (Nat → Int32)) (f10 : (Nat → Int32)) : Option (Int32 × (Nat → Int32)) := q_X3_isRollFrom_D N 8 v1 v2 x7 x8 f0 f1 f2 f6 f9 f10
theorem zq_X3_isRollFrom_L40 {N : Nat} {v1 v2 x7 x8 : Int32} {f0 f1 f2 f6 f9 : Nat → Int32} {rc : Int32 → Int32 → Int32 → Int32 → (Nat → Int32) → (Nat → Int32) → (Nat → Int32) → (Nat → Int32) → (Nat → Int32) → (Nat → Int32) → Option (Int32 × (Nat → Int32))} : ∀ (n : Nat) {v3 : Int32} {f10 : Nat → Int32} {r : Int32 × (Nat → Int32)}, q_X3_isRollFrom_L40 N v1 v2 x7 x8 f0 f1 f2 f6 f9 rc n v3 f10 = some (Sum.inl r) → r.1 = 1 := by
  intro n
  induction n with
  | zero => intro v3 f10 r h; cases h
  | succ n ih =>
    intro v3 f10 r h
    rw [q_X3_isRollFrom_L40] at h
    have h := z_c2 h
    by_cases c1 : (f2 (Int32.toNatClampNeg v1)) < v3
    · have h := z_ip h c1
      cases h
    · have h := z_im h c1
      obtain ⟨o3, -, h⟩ := z_ib h
      by_cases c2 : o3 = 0
      · exact ih (z_ip h c2)
      · have h := z_im h c2
        obtain ⟨o5, -, h⟩ := z_ib h
        by_cases c3 : o5.1 = 0
        · exact ih (z_ip h c3)
        · have h := z_im h c3
          have h := Sum.inl.inj (Option.some.inj h)
          rw [← h]
theorem zq_X3_isRollFrom {N : Nat} : ∀ (d : Nat) {v1 v2 x7 x8 : Int32} {f0 f1 f2 f6 f9 f10 : Nat → Int32} {o : Int32 × (Nat → Int32)}, q_X3_isRollFrom_D N d v1 v2 x7 x8 f0 f1 f2 f6 f9 f10 = some o → narrow .boolean (.int o.1) = .int o.1 := by
  intro d
  induction d with
  | zero => intro v1 v2 x7 x8 f0 f1 f2 f6 f9 f10 o h; cases h
  | succ d ih =>
    intro v1 v2 x7 x8 f0 f1 f2 f6 f9 f10 o h
    rw [q_X3_isRollFrom_D] at h
    unfold q_X3_isRollFrom_B at h
    by_cases c1 : x7 ≤ v1
    · have h := z_ip h c1
      cases h
      exact z_nar1
    · have h := z_im h c1
      by_cases c2 : v1 < 6
      · have h := z_ip h c2
        obtain ⟨o3, -, h⟩ := z_ib h
        by_cases c3 : o3 = 0
        · have h := z_ip h c3
          obtain ⟨o9, ho9, h⟩ := z_ib h
          cases h
          exact ih ho9
        · have h := z_im h c3
          have h := z_c2 h
          obtain ⟨t, ht, h⟩ := z_ib h
          cases t with
          | inl r8 =>
            have h2 := z_sl h
            have h := Option.some.inj h2
            rw [← h, zq_X3_isRollFrom_L40 N ht]
            exact z_nar1
          | inr s7 =>
            have h2 := z_sr h
            have h := Option.some.inj h2
            rw [← h]
            exact z_nar0
      · have h := z_im h c2
        cases h
        exact z_nar1
set_option maxHeartbeats 4000000 in
set_option maxRecDepth 100000 in
theorem k_X3_isRollFrom (l : Launch) (dC : Nat → ClassId) (dI : Nat → Nat → Nat) (cI cZ cJ cA : ClassId) (h0 : Nat) (a : Nat → Nat) (sz : Nat) (N : Nat) (v1 : Int32) (v2 : Int32) (x7 : Int32) (x8 : Int32) (x12 : Int32) (x13 : Int32) (f0 : (Nat → Int32)) (f1 : (Nat → Int32)) (f2 : (Nat → Int32)) (f3 : (Nat → Int32)) (f4 : (Nat → Int32)) (f5 : (Nat → Int32)) (f6 : (Nat → Int32)) (f9 : (Nat → Int32)) (f10 : (Nat → Int32)) (f11 : (Nat → Int64)) (o : (Int32 × (Nat → Int32))) (hf : q_X3_isRollFrom N v1 v2 x7 x8 f0 f1 f2 f6 f9 f10 = some o) : Met l yX3_isRollFrom wsX3_isRollFrom ({ frames := 18, cells := 0, slots := 0, locals := 284 } : Room) (z_Pre dC dI (z_ty cI cZ cJ cA) [.ref h0, .int v1, .int v2] sz (wX3 cI cZ cJ cA h0 a x7 x8 x12 x13 f0 f1 f2 f3 f4 f5 f6 f9 f10 f11)) (z_Pi dC dI o.1 (wX3 cI cZ cJ cA h0 a x7 x8 x12 x13 f0 f1 f2 f3 f4 f5 f6 f9 o.2 f11) sz (wX3 cI cZ cJ cA h0 a x7 x8 x12 x13 f0 f1 f2 f3 f4 f5 f6 f9 f10 f11)) 0 0 (va_A (wX3 cI cZ cJ cA h0 a x7 x8 x12 x13 f0 f1 f2 f3 f4 f5 f6 f9 f10 f11) sz) := by
  have k0 : ∀ (sz : Nat) (v1 : Int32) (v2 : Int32) (x7 : Int32) (x8 : Int32) (x12 : Int32) (x13 : Int32) (f0 : (Nat → Int32)) (f1 : (Nat → Int32)) (f2 : (Nat → Int32)) (f3 : (Nat → Int32)) (f4 : (Nat → Int32)) (f5 : (Nat → Int32)) (f6 : (Nat → Int32)) (f9 : (Nat → Int32)) (f10 : (Nat → Int32)) (f11 : (Nat → Int64)) (o : (Int32 × (Nat → Int32))), q_X3_isRollFrom_D N 0 v1 v2 x7 x8 f0 f1 f2 f6 f9 f10 = some o → Met l yX3_isRollFrom wsX3_isRollFrom ({ frames := 10, cells := 0, slots := 0, locals := 100 } : Room) (z_Pre dC dI (z_ty cI cZ cJ cA) [.ref h0, .int v1, .int v2] sz (wX3 cI cZ cJ cA h0 a x7 x8 x12 x13 f0 f1 f2 f3 f4 f5 f6 f9 f10 f11)) (z_Pi dC dI o.1 (wX3 cI cZ cJ cA h0 a x7 x8 x12 x13 f0 f1 f2 f3 f4 f5 f6 f9 o.2 f11) sz (wX3 cI cZ cJ cA h0 a x7 x8 x12 x13 f0 f1 f2 f3 f4 f5 f6 f9 f10 f11)) 0 0 (va_A (wX3 cI cZ cJ cA h0 a x7 x8 x12 x13 f0 f1 f2 f3 f4 f5 f6 f9 f10 f11) sz) := by
    intro sz v1 v2 x7 x8 x12 x13 f0 f1 f2 f3 f4 f5 f6 f9 f10 f11 o hf
    cases hf
  have k1 : ∀ (sz : Nat) (v1 : Int32) (v2 : Int32) (x7 : Int32) (x8 : Int32) (x12 : Int32) (x13 : Int32) (f0 : (Nat → Int32)) (f1 : (Nat → Int32)) (f2 : (Nat → Int32)) (f3 : (Nat → Int32)) (f4 : (Nat → Int32)) (f5 : (Nat → Int32)) (f6 : (Nat → Int32)) (f9 : (Nat → Int32)) (f10 : (Nat → Int32)) (f11 : (Nat → Int64)) (o : (Int32 × (Nat → Int32))), q_X3_isRollFrom_D N 1 v1 v2 x7 x8 f0 f1 f2 f6 f9 f10 = some o → Met l yX3_isRollFrom wsX3_isRollFrom ({ frames := 11, cells := 0, slots := 0, locals := 123 } : Room) (z_Pre dC dI (z_ty cI cZ cJ cA) [.ref h0, .int v1, .int v2] sz (wX3 cI cZ cJ cA h0 a x7 x8 x12 x13 f0 f1 f2 f3 f4 f5 f6 f9 f10 f11)) (z_Pi dC dI o.1 (wX3 cI cZ cJ cA h0 a x7 x8 x12 x13 f0 f1 f2 f3 f4 f5 f6 f9 o.2 f11) sz (wX3 cI cZ cJ cA h0 a x7 x8 x12 x13 f0 f1 f2 f3 f4 f5 f6 f9 f10 f11)) 0 0 (va_A (wX3 cI cZ cJ cA h0 a x7 x8 x12 x13 f0 f1 f2 f3 f4 f5 f6 f9 f10 f11) sz) := k_X3_isRollFrom_B l dC dI cI cZ cJ cA h0 a N (q_X3_isRollFrom_D N 0) 0 0 k0 (zq_X3_isRollFrom 0)
  have k2 : ∀ (sz : Nat) (v1 : Int32) (v2 : Int32) (x7 : Int32) (x8 : Int32) (x12 : Int32) (x13 : Int32) (f0 : (Nat → Int32)) (f1 : (Nat → Int32)) (f2 : (Nat → Int32)) (f3 : (Nat → Int32)) (f4 : (Nat → Int32)) (f5 : (Nat → Int32)) (f6 : (Nat → Int32)) (f9 : (Nat → Int32)) (f10 : (Nat → Int32)) (f11 : (Nat → Int64)) (o : (Int32 × (Nat → Int32))), q_X3_isRollFrom_D N 2 v1 v2 x7 x8 f0 f1 f2 f6 f9 f10 = some o → Met l yX3_isRollFrom wsX3_isRollFrom ({ frames := 12, cells := 0, slots := 0, locals := 146 } : Room) (z_Pre dC dI (z_ty cI cZ cJ cA) [.ref h0, .int v1, .int v2] sz (wX3 cI cZ cJ cA h0 a x7 x8 x12 x13 f0 f1 f2 f3 f4 f5 f6 f9 f10 f11)) (z_Pi dC dI o.1 (wX3 cI cZ cJ cA h0 a x7 x8 x12 x13 f0 f1 f2 f3 f4 f5 f6 f9 o.2 f11) sz (wX3 cI cZ cJ cA h0 a x7 x8 x12 x13 f0 f1 f2 f3 f4 f5 f6 f9 f10 f11)) 0 0 (va_A (wX3 cI cZ cJ cA h0 a x7 x8 x12 x13 f0 f1 f2 f3 f4 f5 f6 f9 f10 f11) sz) := k_X3_isRollFrom_B l dC dI cI cZ cJ cA h0 a N (q_X3_isRollFrom_D N 1) 1 23 k1 (zq_X3_isRollFrom 1)
  have k3 : ∀ (sz : Nat) (v1 : Int32) (v2 : Int32) (x7 : Int32) (x8 : Int32) (x12 : Int32) (x13 : Int32) (f0 : (Nat → Int32)) (f1 : (Nat → Int32)) (f2 : (Nat → Int32)) (f3 : (Nat → Int32)) (f4 : (Nat → Int32)) (f5 : (Nat → Int32)) (f6 : (Nat → Int32)) (f9 : (Nat → Int32)) (f10 : (Nat → Int32)) (f11 : (Nat → Int64)) (o : (Int32 × (Nat → Int32))), q_X3_isRollFrom_D N 3 v1 v2 x7 x8 f0 f1 f2 f6 f9 f10 = some o → Met l yX3_isRollFrom wsX3_isRollFrom ({ frames := 13, cells := 0, slots := 0, locals := 169 } : Room) (z_Pre dC dI (z_ty cI cZ cJ cA) [.ref h0, .int v1, .int v2] sz (wX3 cI cZ cJ cA h0 a x7 x8 x12 x13 f0 f1 f2 f3 f4 f5 f6 f9 f10 f11)) (z_Pi dC dI o.1 (wX3 cI cZ cJ cA h0 a x7 x8 x12 x13 f0 f1 f2 f3 f4 f5 f6 f9 o.2 f11) sz (wX3 cI cZ cJ cA h0 a x7 x8 x12 x13 f0 f1 f2 f3 f4 f5 f6 f9 f10 f11)) 0 0 (va_A (wX3 cI cZ cJ cA h0 a x7 x8 x12 x13 f0 f1 f2 f3 f4 f5 f6 f9 f10 f11) sz) := k_X3_isRollFrom_B l dC dI cI cZ cJ cA h0 a N (q_X3_isRollFrom_D N 2) 2 46 k2 (zq_X3_isRollFrom 2)
  have k4 : ∀ (sz : Nat) (v1 : Int32) (v2 : Int32) (x7 : Int32) (x8 : Int32) (x12 : Int32) (x13 : Int32) (f0 : (Nat → Int32)) (f1 : (Nat → Int32)) (f2 : (Nat → Int32)) (f3 : (Nat → Int32)) (f4 : (Nat → Int32)) (f5 : (Nat → Int32)) (f6 : (Nat → Int32)) (f9 : (Nat → Int32)) (f10 : (Nat → Int32)) (f11 : (Nat → Int64)) (o : (Int32 × (Nat → Int32))), q_X3_isRollFrom_D N 4 v1 v2 x7 x8 f0 f1 f2 f6 f9 f10 = some o → Met l yX3_isRollFrom wsX3_isRollFrom ({ frames := 14, cells := 0, slots := 0, locals := 192 } : Room) (z_Pre dC dI (z_ty cI cZ cJ cA) [.ref h0, .int v1, .int v2] sz (wX3 cI cZ cJ cA h0 a x7 x8 x12 x13 f0 f1 f2 f3 f4 f5 f6 f9 f10 f11)) (z_Pi dC dI o.1 (wX3 cI cZ cJ cA h0 a x7 x8 x12 x13 f0 f1 f2 f3 f4 f5 f6 f9 o.2 f11) sz (wX3 cI cZ cJ cA h0 a x7 x8 x12 x13 f0 f1 f2 f3 f4 f5 f6 f9 f10 f11)) 0 0 (va_A (wX3 cI cZ cJ cA h0 a x7 x8 x12 x13 f0 f1 f2 f3 f4 f5 f6 f9 f10 f11) sz) := k_X3_isRollFrom_B l dC dI cI cZ cJ cA h0 a N (q_X3_isRollFrom_D N 3) 3 69 k3 (zq_X3_isRollFrom 3)
  have k5 : ∀ (sz : Nat) (v1 : Int32) (v2 : Int32) (x7 : Int32) (x8 : Int32) (x12 : Int32) (x13 : Int32) (f0 : (Nat → Int32)) (f1 : (Nat → Int32)) (f2 : (Nat → Int32)) (f3 : (Nat → Int32)) (f4 : (Nat → Int32)) (f5 : (Nat → Int32)) (f6 : (Nat → Int32)) (f9 : (Nat → Int32)) (f10 : (Nat → Int32)) (f11 : (Nat → Int64)) (o : (Int32 × (Nat → Int32))), q_X3_isRollFrom_D N 5 v1 v2 x7 x8 f0 f1 f2 f6 f9 f10 = some o → Met l yX3_isRollFrom wsX3_isRollFrom ({ frames := 15, cells := 0, slots := 0, locals := 215 } : Room) (z_Pre dC dI (z_ty cI cZ cJ cA) [.ref h0, .int v1, .int v2] sz (wX3 cI cZ cJ cA h0 a x7 x8 x12 x13 f0 f1 f2 f3 f4 f5 f6 f9 f10 f11)) (z_Pi dC dI o.1 (wX3 cI cZ cJ cA h0 a x7 x8 x12 x13 f0 f1 f2 f3 f4 f5 f6 f9 o.2 f11) sz (wX3 cI cZ cJ cA h0 a x7 x8 x12 x13 f0 f1 f2 f3 f4 f5 f6 f9 f10 f11)) 0 0 (va_A (wX3 cI cZ cJ cA h0 a x7 x8 x12 x13 f0 f1 f2 f3 f4 f5 f6 f9 f10 f11) sz) := k_X3_isRollFrom_B l dC dI cI cZ cJ cA h0 a N (q_X3_isRollFrom_D N 4) 4 92 k4 (zq_X3_isRollFrom 4)
  have k6 : ∀ (sz : Nat) (v1 : Int32) (v2 : Int32) (x7 : Int32) (x8 : Int32) (x12 : Int32) (x13 : Int32) (f0 : (Nat → Int32)) (f1 : (Nat → Int32)) (f2 : (Nat → Int32)) (f3 : (Nat → Int32)) (f4 : (Nat → Int32)) (f5 : (Nat → Int32)) (f6 : (Nat → Int32)) (f9 : (Nat → Int32)) (f10 : (Nat → Int32)) (f11 : (Nat → Int64)) (o : (Int32 × (Nat → Int32))), q_X3_isRollFrom_D N 6 v1 v2 x7 x8 f0 f1 f2 f6 f9 f10 = some o → Met l yX3_isRollFrom wsX3_isRollFrom ({ frames := 16, cells := 0, slots := 0, locals := 238 } : Room) (z_Pre dC dI (z_ty cI cZ cJ cA) [.ref h0, .int v1, .int v2] sz (wX3 cI cZ cJ cA h0 a x7 x8 x12 x13 f0 f1 f2 f3 f4 f5 f6 f9 f10 f11)) (z_Pi dC dI o.1 (wX3 cI cZ cJ cA h0 a x7 x8 x12 x13 f0 f1 f2 f3 f4 f5 f6 f9 o.2 f11) sz (wX3 cI cZ cJ cA h0 a x7 x8 x12 x13 f0 f1 f2 f3 f4 f5 f6 f9 f10 f11)) 0 0 (va_A (wX3 cI cZ cJ cA h0 a x7 x8 x12 x13 f0 f1 f2 f3 f4 f5 f6 f9 f10 f11) sz) := k_X3_isRollFrom_B l dC dI cI cZ cJ cA h0 a N (q_X3_isRollFrom_D N 5) 5 115 k5 (zq_X3_isRollFrom 5)
  have k7 : ∀ (sz : Nat) (v1 : Int32) (v2 : Int32) (x7 : Int32) (x8 : Int32) (x12 : Int32) (x13 : Int32) (f0 : (Nat → Int32)) (f1 : (Nat → Int32)) (f2 : (Nat → Int32)) (f3 : (Nat → Int32)) (f4 : (Nat → Int32)) (f5 : (Nat → Int32)) (f6 : (Nat → Int32)) (f9 : (Nat → Int32)) (f10 : (Nat → Int32)) (f11 : (Nat → Int64)) (o : (Int32 × (Nat → Int32))), q_X3_isRollFrom_D N 7 v1 v2 x7 x8 f0 f1 f2 f6 f9 f10 = some o → Met l yX3_isRollFrom wsX3_isRollFrom ({ frames := 17, cells := 0, slots := 0, locals := 261 } : Room) (z_Pre dC dI (z_ty cI cZ cJ cA) [.ref h0, .int v1, .int v2] sz (wX3 cI cZ cJ cA h0 a x7 x8 x12 x13 f0 f1 f2 f3 f4 f5 f6 f9 f10 f11)) (z_Pi dC dI o.1 (wX3 cI cZ cJ cA h0 a x7 x8 x12 x13 f0 f1 f2 f3 f4 f5 f6 f9 o.2 f11) sz (wX3 cI cZ cJ cA h0 a x7 x8 x12 x13 f0 f1 f2 f3 f4 f5 f6 f9 f10 f11)) 0 0 (va_A (wX3 cI cZ cJ cA h0 a x7 x8 x12 x13 f0 f1 f2 f3 f4 f5 f6 f9 f10 f11) sz) := k_X3_isRollFrom_B l dC dI cI cZ cJ cA h0 a N (q_X3_isRollFrom_D N 6) 6 138 k6 (zq_X3_isRollFrom 6)
  have k8 : ∀ (sz : Nat) (v1 : Int32) (v2 : Int32) (x7 : Int32) (x8 : Int32) (x12 : Int32) (x13 : Int32) (f0 : (Nat → Int32)) (f1 : (Nat → Int32)) (f2 : (Nat → Int32)) (f3 : (Nat → Int32)) (f4 : (Nat → Int32)) (f5 : (Nat → Int32)) (f6 : (Nat → Int32)) (f9 : (Nat → Int32)) (f10 : (Nat → Int32)) (f11 : (Nat → Int64)) (o : (Int32 × (Nat → Int32))), q_X3_isRollFrom_D N 8 v1 v2 x7 x8 f0 f1 f2 f6 f9 f10 = some o → Met l yX3_isRollFrom wsX3_isRollFrom ({ frames := 18, cells := 0, slots := 0, locals := 284 } : Room) (z_Pre dC dI (z_ty cI cZ cJ cA) [.ref h0, .int v1, .int v2] sz (wX3 cI cZ cJ cA h0 a x7 x8 x12 x13 f0 f1 f2 f3 f4 f5 f6 f9 f10 f11)) (z_Pi dC dI o.1 (wX3 cI cZ cJ cA h0 a x7 x8 x12 x13 f0 f1 f2 f3 f4 f5 f6 f9 o.2 f11) sz (wX3 cI cZ cJ cA h0 a x7 x8 x12 x13 f0 f1 f2 f3 f4 f5 f6 f9 f10 f11)) 0 0 (va_A (wX3 cI cZ cJ cA h0 a x7 x8 x12 x13 f0 f1 f2 f3 f4 f5 f6 f9 f10 f11) sz) := k_X3_isRollFrom_B l dC dI cI cZ cJ cA h0 a N (q_X3_isRollFrom_D N 7) 7 161 k7 (zq_X3_isRollFrom 7)
  exact k8 sz v1 v2 x7 x8 x12 x13 f0 f1 f2 f3 f4 f5 f6 f9 f10 f11 o hf
def q_X3_countRolls (N : Nat) (x7 : Int32) (x8 : Int32) (x12 : Int32) (f0 : (Nat → Int32)) (f1 : (Nat → Int32)) (f2 : (Nat → Int32)) (f3 : (Nat → Int32)) (f4 : (Nat → Int32)) (f5 : (Nat → Int32)) (f6 : (Nat → Int32)) (f9 : (Nat → Int32)) (f10 : (Nat → Int32)) (f11 : (Nat → Int64)) : Option (Int32 × Int32 × (Nat → Int32) × (Nat → Int32) × (Nat → Int64)) :=
  (if x12 = (-1) then
   (Option.bind (q_X3_findUnlike N x7 f3 f4 f5 f9) (fun o2 =>
   (Option.bind (q_J7_fill_d0a16 N 6 0 f11) (fun o3 =>
   (Option.bind (q_X3_countFrom N 0 x7 x8 f0 f1 f2 f6 o2 f10 o3) (fun o4 =>
   (some (o4.1, o4.1, o2, o4.2.1, o4.2.2))))))))
  else
   (some (x12, x12, f9, f10, f11)))
set_option maxHeartbeats 4000000 in
set_option maxRecDepth 100000 in
theorem b_X3_countRolls {p : Program} {l : Launch} {e : Env} {R : Room} {s : State} {m : MethodId} {args : Array Value} {below : List Frame} {meth : Method} {c : Code} {Q : State → Prop} {A : Nat → Prop} {dC : Nat → ClassId} {dI : Nat → Nat → Nat} {cI cZ cJ cA : ClassId} {h0 : Nat} {a : Nat → Nat} (N : Nat) (C0 : z_Cx p s m args c cX3_countRolls 1 wsX3_countRolls RX3 R 19 316 A dC dI (z_ty cI cZ cJ cA)) {x7 : Int32} {x8 : Int32} {x12 : Int32} {x13 : Int32} {f0 : (Nat → Int32)} {f1 : (Nat → Int32)} {f2 : (Nat → Int32)} {f3 : (Nat → Int32)} {f4 : (Nat → Int32)} {f5 : (Nat → Int32)} {f6 : (Nat → Int32)} {f9 : (Nat → Int32)} {f10 : (Nat → Int32)} {f11 : (Nat → Int64)} {o : (Int32 × Int32 × (Nat → Int32) × (Nat → Int32) × (Nat → Int64))} {H : Heap} {locs : List Loc} {ls : Array Slot} (hf : q_X3_countRolls N x7 x8 x12 f0 f1 f2 f3 f4 f5 f6 f9 f10 f11 = some o) (hP : va_P (dC, dI) vwCl (wX3 cI cZ cJ cA h0 a x7 x8 x12 x13 f0 f1 f2 f3 f4 f5 f6 f9 f10 f11) H) (hD : va_D A (wX3 cI cZ cJ cA h0 a x7 x8 x12 x13 f0 f1 f2 f3 f4 f5 f6 f9 f10 f11)) (hS : va_S A s.heap H locs) (hl : lv_has ls 1 [(0, .ref h0)])
    (hret : ∀ (pc : Nat) (H : Heap) (locs : List Loc) (ls : Array Slot) (r : Int32), decode cX3_countRolls pc = .ok (.ireturn, 1) → r = o.1 → va_P (dC, dI) vwCl (wX3 cI cZ cJ cA h0 a x7 x8 o.2.1 x13 f0 f1 f2 f3 f4 f5 f6 o.2.2.1 o.2.2.2.1 o.2.2.2.2) H → va_D A (wX3 cI cZ cJ cA h0 a x7 x8 o.2.1 x13 f0 f1 f2 f3 f4 f5 f6 o.2.2.1 o.2.2.2.1 o.2.2.2.2) → va_S A s.heap H locs → W p l e R s m args below meth c H locs 0 0 Q (F0 m pc ls [.int r])) :
    W p l e R s m args below meth c H locs 0 0 Q (F0 m 0 ls []) := by
  obtain ⟨⟨hx, hb, hml, hown, hts⟩, hRf, hRl, hA, hN, hK⟩ := C0
  unfold q_X3_countRolls at hf
  refine lv_aload_n hx hb dX3_countRolls_0 rfl (lv_at hl 0 rfl) ?_
  refine va_get (D := (dC, dI)) (ci := 3) (v := .int x12) (C := RX3) (T := TX3) (N := 14) hx hb hts (fun w hw => List.mem_cons_of_mem _ (List.mem_append_right _ hw)) hown hK hP 0 rfl rfl 12 (by decide) (hts (.fieldLink RX3 50 "OldStadium$Quarry" "rolls" "I") (List.mem_of_getElem? (i := 1) rfl)) (fun _ h9 => h9) rfl dX3_countRolls_1 ?_
  refine lv_iconst (v := (-1)) hx hb dX3_countRolls_4 (by decide) ?_
  refine lv_icmp_ne (tgt := 29) hx hb dX3_countRolls_5 (by decide) (fun c1 => ?_) (fun c1 => ?_)
  · replace hf := z_im hf c1
    refine lv_aload_n hx hb dX3_countRolls_29 rfl (lv_at hl 0 rfl) ?_
    refine va_get (D := (dC, dI)) (ci := 3) (v := .int x12) (C := RX3) (T := TX3) (N := 14) hx hb hts (fun w hw => List.mem_cons_of_mem _ (List.mem_append_right _ hw)) hown hK hP 0 rfl rfl 12 (by decide) (hts (.fieldLink RX3 50 "OldStadium$Quarry" "rolls" "I") (List.mem_of_getElem? (i := 1) rfl)) (fun _ h9 => h9) rfl dX3_countRolls_30 ?_
    obtain rfl := Option.some.inj hf
    exact hret _ _ _ _ _ dX3_countRolls_33 rfl hP hD hS
  · replace hf := z_ip hf c1
    refine lv_aload_n hx hb dX3_countRolls_8 rfl (lv_at hl 0 rfl) ?_
    obtain ⟨o2, ho2, hf1⟩ := z_ib hf
    replace hf := hf1
    clear hf1
    refine z_Vv (As := []) (rest := []) (w := (wX3 cI cZ cJ cA h0 a x7 x8 x12 x13 f0 f1 f2 f3 f4 f5 f6 f9 f10 f11)) (w1 := (wX3 cI cZ cJ cA h0 a x7 x8 x12 x13 f0 f1 f2 f3 f4 f5 f6 o2 f10 f11)) ⟨hx, hb, hml, hown, hts⟩ (k_X3_findUnlike l dC dI cI cZ cJ cA h0 a H.size N x7 x8 x12 x13 f0 f1 f2 f3 f4 f5 f6 f9 f10 f11 o2 ho2) (cwV 0 hts gX3_countRolls_X3_findUnlike rfl rfl rfl (by decide +kernel) ⟨Nat.le_trans (Nat.le_of_ble_eq_true rfl) hRf, Nat.le_trans (Nat.le_of_ble_eq_true rfl) hRl⟩) hK hP hD hS hA hN (ci := 3) rfl rfl rfl rfl hl.1 rfl (Nat.le_of_ble_eq_true rfl) dX3_countRolls_9 (fun H locs hP hD hS => ?_)
    refine lv_aload_n hx hb dX3_countRolls_12 rfl (lv_at hl 0 rfl) ?_
    refine va_get (D := (dC, dI)) (ci := 3) (v := .ref (a 11)) (C := RX3) (T := TX3) (N := 14) hx hb hts (fun w hw => List.mem_cons_of_mem _ (List.mem_append_right _ hw)) hown hK hP 0 rfl rfl 11 (by decide) (hts (.fieldLink RX3 46 "OldStadium$Quarry" "seen" "[J") (List.mem_of_getElem? (i := 2) rfl)) (fun _ h9 => h9) rfl dX3_countRolls_13 ?_
    refine lv_lconst (v := 0) hx hb dX3_countRolls_16 (by decide) ?_
    obtain ⟨o3, ho3, hf1⟩ := z_ib hf
    replace hf := hf1
    clear hf1
    refine z_Sv3 (As := [.ref (a 11), .long 0]) (rest := []) (pre := ((wX3 cI cZ cJ cA h0 a x7 x8 x12 x13 f0 f1 f2 f3 f4 f5 f6 o2 f10 f11)).take 10) (wc := wJFJ cI cZ cJ cA (a 11) 6 f11) (post := ((wX3 cI cZ cJ cA h0 a x7 x8 x12 x13 f0 f1 f2 f3 f4 f5 f6 o2 f10 f11)).drop 11) ⟨hx, hb, hml, hown, hts⟩ (k_J7_fill_d0a16 l dC dI cI cZ cJ cA (a 11) 6 H.size N 0 f11 o3 ho3) (va_cwS 2 hts gX3_countRolls_J7_fill_d0a16 rfl rfl rfl (by decide +kernel) ⟨Nat.le_trans (Nat.le_of_ble_eq_true rfl) hRf, Nat.le_trans (Nat.le_of_ble_eq_true rfl) hRl⟩) hK hP hD hS hA hN rfl hl.1 rfl (Nat.le_of_ble_eq_true rfl) dX3_countRolls_17 (fun H locs hP hD hS => ?_)
    replace hP : va_P (dC, dI) vwCl (wX3 cI cZ cJ cA h0 a x7 x8 x12 x13 f0 f1 f2 f3 f4 f5 f6 o2 f10 o3) H := hP
    replace hD : va_D A (wX3 cI cZ cJ cA h0 a x7 x8 x12 x13 f0 f1 f2 f3 f4 f5 f6 o2 f10 o3) := hD
    refine lv_aload_n hx hb dX3_countRolls_20 rfl (lv_at hl 0 rfl) ?_
    refine lv_aload_n hx hb dX3_countRolls_21 rfl (lv_at hl 0 rfl) ?_
    refine lv_iconst (v := 0) hx hb dX3_countRolls_22 (by decide) ?_
    obtain ⟨o4, ho4, hf1⟩ := z_ib hf
    replace hf := hf1
    clear hf1
    refine z_Si (As := [.ref h0, .int 0]) (rest := [.ref h0]) (w := (wX3 cI cZ cJ cA h0 a x7 x8 x12 x13 f0 f1 f2 f3 f4 f5 f6 o2 f10 o3)) (w1 := (wX3 cI cZ cJ cA h0 a x7 x8 x12 x13 f0 f1 f2 f3 f4 f5 f6 o2 o4.2.1 o4.2.2)) ⟨hx, hb, hml, hown, hts⟩ (k_X3_countFrom l dC dI cI cZ cJ cA h0 a H.size N 0 x7 x8 x12 x13 f0 f1 f2 f3 f4 f5 f6 o2 f10 o3 o4 ho4) (va_cwS 2 hts gX3_countRolls_X3_countFrom rfl rfl rfl (by decide +kernel) ⟨Nat.le_trans (Nat.le_of_ble_eq_true rfl) hRf, Nat.le_trans (Nat.le_of_ble_eq_true rfl) hRl⟩) hK hP hD hS hA hN rfl hl.1 rfl (Nat.le_of_ble_eq_true rfl) dX3_countRolls_23 (fun H locs hP hD hS => ?_)
    refine va_put (D := (dC, dI)) (ci := 3) (v := .int o4.1) (ty := .int) (C := RX3) (T := TX3) (N := 14) hx hb hts (fun w hw => List.mem_cons_of_mem _ (List.mem_append_right _ hw)) tyX3 tyX3_ok nmX3 hown hK hP hD hS 0 rfl rfl 12 (by decide) (hts (.fieldLink RX3 50 "OldStadium$Quarry" "rolls" "I") (List.mem_of_getElem? (i := 1) rfl)) (fun _ h9 => h9) rfl (by decide +kernel) rfl rfl (Nat.le_of_ble_eq_true rfl) dX3_countRolls_26 (fun H locs hP hD hS => ?_)
    replace hP : va_P (dC, dI) vwCl (wX3 cI cZ cJ cA h0 a x7 x8 o4.1 x13 f0 f1 f2 f3 f4 f5 f6 o2 o4.2.1 o4.2.2) H := hP
    replace hD : va_D A (wX3 cI cZ cJ cA h0 a x7 x8 o4.1 x13 f0 f1 f2 f3 f4 f5 f6 o2 o4.2.1 o4.2.2) := hD
    refine lv_aload_n hx hb dX3_countRolls_29 rfl (lv_at hl 0 rfl) ?_
    refine va_get (D := (dC, dI)) (ci := 3) (v := .int o4.1) (C := RX3) (T := TX3) (N := 14) hx hb hts (fun w hw => List.mem_cons_of_mem _ (List.mem_append_right _ hw)) hown hK hP 0 rfl rfl 12 (by decide) (hts (.fieldLink RX3 50 "OldStadium$Quarry" "rolls" "I") (List.mem_of_getElem? (i := 1) rfl)) (fun _ h9 => h9) rfl dX3_countRolls_30 ?_
    obtain rfl := Option.some.inj hf
    exact hret _ _ _ _ _ dX3_countRolls_33 rfl hP hD hS
set_option maxHeartbeats 4000000 in
set_option maxRecDepth 100000 in
theorem k_X3_countRolls (l : Launch) (dC : Nat → ClassId) (dI : Nat → Nat → Nat) (cI cZ cJ cA : ClassId) (h0 : Nat) (a : Nat → Nat) (sz : Nat) (N : Nat) (x7 : Int32) (x8 : Int32) (x12 : Int32) (x13 : Int32) (f0 : (Nat → Int32)) (f1 : (Nat → Int32)) (f2 : (Nat → Int32)) (f3 : (Nat → Int32)) (f4 : (Nat → Int32)) (f5 : (Nat → Int32)) (f6 : (Nat → Int32)) (f9 : (Nat → Int32)) (f10 : (Nat → Int32)) (f11 : (Nat → Int64)) (o : (Int32 × Int32 × (Nat → Int32) × (Nat → Int32) × (Nat → Int64))) (hf : q_X3_countRolls N x7 x8 x12 f0 f1 f2 f3 f4 f5 f6 f9 f10 f11 = some o) : Met l yX3_countRolls wsX3_countRolls ({ frames := 19, cells := 0, slots := 0, locals := 316 } : Room) (z_Pre dC dI (z_ty cI cZ cJ cA) [.ref h0] sz (wX3 cI cZ cJ cA h0 a x7 x8 x12 x13 f0 f1 f2 f3 f4 f5 f6 f9 f10 f11)) (z_Pi dC dI o.1 (wX3 cI cZ cJ cA h0 a x7 x8 o.2.1 x13 f0 f1 f2 f3 f4 f5 f6 o.2.2.1 o.2.2.2.1 o.2.2.2.2) sz (wX3 cI cZ cJ cA h0 a x7 x8 x12 x13 f0 f1 f2 f3 f4 f5 f6 f9 f10 f11)) 0 0 (va_A (wX3 cI cZ cJ cA h0 a x7 x8 x12 x13 f0 f1 f2 f3 f4 f5 f6 f9 f10 f11) sz) := by
  refine Met.ofW (cc := cX3_countRolls) (maxL := 1) (ret := (some .int)) (by decide) rfl ?_
  intro p e s m args below meth c s₁ B hml hv
  obtain ⟨rfl, hsz, hP, hK, hD0, hN⟩ := hv
  subst hsz
  have hl := lv_entry ([.ref h0]) (n := 1) (Nat.le_of_ble_eq_true rfl)
  rw [lg_entry_eq]
  refine b_X3_countRolls N ⟨⟨B.exec, B.bytes, hml, findClass_of_methodNamed B.named, atoms_spec (ws := wsX3_countRolls) B.pre⟩, Nat.le_refl _, Nat.le_refl _, fun q h => Or.inr h, hN, hK⟩ hf hP hD0.self va_S.rf hl (fun pc H locs ls r hd hr hP hD hS => ?_)
  subst hr
  exact W.iret B.exec B.bytes B.returns (fun t ht hW => ⟨⟨_, (), rfl, rfl, by rw [ht]; exact hP, hD⟩, hS.F ht⟩) hS.2.2 hd
def q_X3_tellYear_L42 (N : Nat) (v1 : Int32) (f2 : (Nat → Int32)) (f11 : (Nat → Int64)) : Nat → Int32 → Int32 → Int32 → Int32 → Option (Int32 × Int32 × Int32)
  | 0, _, _, _, _ => none
  | n + 1, v3, v4, v5, v6 =>
    (if z_in v1 6 then
    (if (f2 (Int32.toNatClampNeg v1)) < v6 then
     (some (v3, v4, v5))
    else
     (if (lg_cmp ((z_lushr (f11 (Int32.toNatClampNeg v1)) v6) &&& 1) 0) = 0 then
      (q_X3_tellYear_L42 N v1 f2 f11 n v3 v4 v5 (v6 + 1))
     else
      (if v5 = 0 then
       (q_X3_tellYear_L42 N v1 f2 f11 n v6 v6 (v5 + 1) (v6 + 1))
      else
       (q_X3_tellYear_L42 N v1 f2 f11 n v3 v6 (v5 + 1) (v6 + 1)))))
    else none)
set_option maxHeartbeats 4000000 in
set_option maxRecDepth 100000 in
theorem b_X3_tellYear_L42 {p : Program} {l : Launch} {e : Env} {R : Room} {s : State} {m : MethodId} {args : Array Value} {below : List Frame} {meth : Method} {c : Code} {Q : State → Prop} {A : Nat → Prop} {dC : Nat → ClassId} {dI : Nat → Nat → Nat} {cI cZ cJ cA : ClassId} {h0 : Nat} {a : Nat → Nat} (N : Nat) (C0 : z_Cx p s m args c cX3_tellYear 7 wsX3_tellYear RX3 R 20 336 A dC dI (z_ty cI cZ cJ cA)) : ∀ (n : Nat) {v1 : Int32} {v2 : Int32} {v3 : Int32} {v4 : Int32} {v5 : Int32} {v6 : Int32} {x7 : Int32} {x8 : Int32} {x12 : Int32} {x13 : Int32} {f0 : (Nat → Int32)} {f1 : (Nat → Int32)} {f2 : (Nat → Int32)} {f3 : (Nat → Int32)} {f4 : (Nat → Int32)} {f5 : (Nat → Int32)} {f6 : (Nat → Int32)} {f9 : (Nat → Int32)} {f10 : (Nat → Int32)} {f11 : (Nat → Int64)} {o : (Int32 × Int32 × Int32)} {H : Heap} {locs : List Loc} {ls : Array Slot}, q_X3_tellYear_L42 N v1 f2 f11 n v3 v4 v5 v6 = some o → va_P (dC, dI) vwCl (wX3 cI cZ cJ cA h0 a x7 x8 x12 x13 f0 f1 f2 f3 f4 f5 f6 f9 f10 f11) H → va_D A (wX3 cI cZ cJ cA h0 a x7 x8 x12 x13 f0 f1 f2 f3 f4 f5 f6 f9 f10 f11) → va_S A s.heap H locs → lv_has ls 7 [(0, .ref h0), (1, .int v1), (2, .int v2), (3, .int v3), (4, .int v4), (5, .int v5), (6, .int v6)] →
    (∀ (H : Heap) (locs : List Loc) (ls : Array Slot), va_P (dC, dI) vwCl (wX3 cI cZ cJ cA h0 a x7 x8 x12 x13 f0 f1 f2 f3 f4 f5 f6 f9 f10 f11) H → va_D A (wX3 cI cZ cJ cA h0 a x7 x8 x12 x13 f0 f1 f2 f3 f4 f5 f6 f9 f10 f11) → va_S A s.heap H locs → lv_has ls 7 [(2, .int v2), (3, .int o.1), (4, .int o.2.1), (5, .int o.2.2)] → W p l e R s m args below meth c H locs 0 0 Q (F0 m 94 ls [])) →
    W p l e R s m args below meth c H locs 0 0 Q (F0 m 42 ls []) := by
  obtain ⟨⟨hx, hb, hml, hown, hts⟩, hRf, hRl, hA, hN, hK⟩ := C0
  intro n
  induction n with
  | zero =>
    intro v1 v2 v3 v4 v5 v6 x7 x8 x12 x13 f0 f1 f2 f3 f4 f5 f6 f9 f10 f11 o H locs ls hf
    cases hf
  | succ n ih =>
    intro v1 v2 v3 v4 v5 v6 x7 x8 x12 x13 f0 f1 f2 f3 f4 f5 f6 f9 f10 f11 o H locs ls hf hP hD hS hl hexit
    rw [q_X3_tellYear_L42] at hf
    refine lv_iload hx hb dX3_tellYear_42 (lv_at hl 6 rfl) ?_
    refine lv_aload_n hx hb dX3_tellYear_44 rfl (lv_at hl 0 rfl) ?_
    refine va_get (D := (dC, dI)) (ci := 3) (v := .ref (a 2)) (C := RX3) (T := TX3) (N := 14) hx hb hts (fun w hw => List.mem_cons_of_mem _ (List.mem_append_right _ hw)) hown hK hP 0 rfl rfl 2 (by decide) (hts (.fieldLink RX3 18 "OldStadium$Quarry" "to" "[I") (List.mem_of_getElem? (i := 2) rfl)) (fun _ h9 => h9) rfl dX3_tellYear_45 ?_
    refine lv_iload_n hx hb dX3_tellYear_48 rfl (lv_at hl 1 rfl) ?_
    have b1 := z_c1 hf
    replace hf := z_c2 hf
    refine va_iald hx hb hK hP 3 0 rfl rfl b1 dX3_tellYear_49 ?_
    refine lv_icmp_gt (tgt := 94) hx hb dX3_tellYear_50 (by decide) (fun c2 => ?_) (fun c2 => ?_)
    · replace hf := z_ip hf c2
      obtain rfl := Option.some.inj hf
      exact hexit _ _ _ hP hD hS (lv_sub hl [2, 3, 4, 5] rfl)
    · replace hf := z_im hf c2
      refine lv_aload_n hx hb dX3_tellYear_53 rfl (lv_at hl 0 rfl) ?_
      refine va_get (D := (dC, dI)) (ci := 3) (v := .ref (a 11)) (C := RX3) (T := TX3) (N := 14) hx hb hts (fun w hw => List.mem_cons_of_mem _ (List.mem_append_right _ hw)) hown hK hP 0 rfl rfl 11 (by decide) (hts (.fieldLink RX3 46 "OldStadium$Quarry" "seen" "[J") (List.mem_of_getElem? (i := 3) rfl)) (fun _ h9 => h9) rfl dX3_tellYear_54 ?_
      refine lv_iload_n hx hb dX3_tellYear_57 rfl (lv_at hl 1 rfl) ?_
      refine va_lald hx hb hK hP 10 2 rfl rfl b1 dX3_tellYear_58 ?_
      refine lv_iload hx hb dX3_tellYear_59 (lv_at hl 6 rfl) ?_
      refine z_lus hx hb dX3_tellYear_61 ?_
      refine lv_lconst (v := 1) hx hb dX3_tellYear_62 (by decide) ?_
      refine lv_land hx hb dX3_tellYear_63 ?_
      refine lv_lconst (v := 0) hx hb dX3_tellYear_64 (by decide) ?_
      refine W.lcmp hx hb dX3_tellYear_65 ?_
      refine lv_if_eq (tgt := 88) hx hb dX3_tellYear_66 (by decide) (fun c3 => ?_) (fun c3 => ?_)
      · replace hf := z_ip hf c3
        refine lv_iinc (v := (v6 + 1)) (lv' := [(6, .int (v6 + 1)), (0, .ref h0), (1, .int v1), (2, .int v2), (3, .int v3), (4, .int v4), (5, .int v5)]) hx hb dX3_tellYear_88 hl (k := 6) rfl rfl (by decide) rfl (fun ls hl => ?_)
        refine lv_goto (tgt := 42) hx hb dX3_tellYear_91 (by decide) ?_
        exact ih hf hP hD hS (lv_sub hl [1, 2, 3, 4, 5, 6, 0] rfl) hexit
      · replace hf := z_im hf c3
        refine lv_iload hx hb dX3_tellYear_69 (lv_at hl 5 rfl) ?_
        refine lv_if_ne (tgt := 79) hx hb dX3_tellYear_71 (by decide) (fun c4 => ?_) (fun c4 => ?_)
        · replace hf := z_im hf c4
          refine lv_iload_n hx hb dX3_tellYear_79 rfl (lv_at hl 3 rfl) ?_
          refine lv_istore_n (lv' := [(3, .int v3), (0, .ref h0), (1, .int v1), (2, .int v2), (4, .int v4), (5, .int v5), (6, .int v6)]) hx hb dX3_tellYear_80 rfl hl (by decide) rfl (fun ls hl => ?_)
          refine lv_iload hx hb dX3_tellYear_81 (lv_at hl 6 rfl) ?_
          refine lv_istore (lv' := [(4, .int v6), (3, .int v3), (0, .ref h0), (1, .int v1), (2, .int v2), (5, .int v5), (6, .int v6)]) hx hb dX3_tellYear_83 hl (by decide) rfl (fun ls hl => ?_)
          refine lv_iinc (v := (v5 + 1)) (lv' := [(5, .int (v5 + 1)), (4, .int v6), (3, .int v3), (0, .ref h0), (1, .int v1), (2, .int v2), (6, .int v6)]) hx hb dX3_tellYear_85 hl (k := 5) rfl rfl (by decide) rfl (fun ls hl => ?_)
          refine lv_iinc (v := (v6 + 1)) (lv' := [(6, .int (v6 + 1)), (5, .int (v5 + 1)), (4, .int v6), (3, .int v3), (0, .ref h0), (1, .int v1), (2, .int v2)]) hx hb dX3_tellYear_88 hl (k := 6) rfl rfl (by decide) rfl (fun ls hl => ?_)
          refine lv_goto (tgt := 42) hx hb dX3_tellYear_91 (by decide) ?_
          exact ih hf hP hD hS (lv_sub hl [4, 5, 6, 3, 2, 1, 0] rfl) hexit
        · replace hf := z_ip hf c4
          refine lv_iload hx hb dX3_tellYear_74 (lv_at hl 6 rfl) ?_
          refine lv_goto (tgt := 80) hx hb dX3_tellYear_76 (by decide) ?_
          refine lv_istore_n (lv' := [(3, .int v6), (0, .ref h0), (1, .int v1), (2, .int v2), (4, .int v4), (5, .int v5), (6, .int v6)]) hx hb dX3_tellYear_80 rfl hl (by decide) rfl (fun ls hl => ?_)
          refine lv_iload hx hb dX3_tellYear_81 (lv_at hl 6 rfl) ?_
          refine lv_istore (lv' := [(4, .int v6), (3, .int v6), (0, .ref h0), (1, .int v1), (2, .int v2), (5, .int v5), (6, .int v6)]) hx hb dX3_tellYear_83 hl (by decide) rfl (fun ls hl => ?_)
          refine lv_iinc (v := (v5 + 1)) (lv' := [(5, .int (v5 + 1)), (4, .int v6), (3, .int v6), (0, .ref h0), (1, .int v1), (2, .int v2), (6, .int v6)]) hx hb dX3_tellYear_85 hl (k := 5) rfl rfl (by decide) rfl (fun ls hl => ?_)
          refine lv_iinc (v := (v6 + 1)) (lv' := [(6, .int (v6 + 1)), (5, .int (v5 + 1)), (4, .int v6), (3, .int v6), (0, .ref h0), (1, .int v1), (2, .int v2)]) hx hb dX3_tellYear_88 hl (k := 6) rfl rfl (by decide) rfl (fun ls hl => ?_)
          refine lv_goto (tgt := 42) hx hb dX3_tellYear_91 (by decide) ?_
          exact ih hf hP hD hS (lv_sub hl [4, 5, 6, 3, 2, 1, 0] rfl) hexit
def q_X3_tellYear (N : Nat) (v1 : Int32) (v2 : Int32) (x7 : Int32) (x8 : Int32) (x12 : Int32) (f0 : (Nat → Int32)) (f1 : (Nat → Int32)) (f2 : (Nat → Int32)) (f3 : (Nat → Int32)) (f4 : (Nat → Int32)) (f5 : (Nat → Int32)) (f6 : (Nat → Int32)) (f9 : (Nat → Int32)) (f10 : (Nat → Int32)) (f11 : (Nat → Int64)) : Option (Int32 × Int32 × (Nat → Int32) × (Nat → Int32) × (Nat → Int64)) :=
  (Option.bind (q_X3_isStone N v1 x7) (fun o1 =>
  (if o1 = 0 then
   (some ((-1), x12, f9, f10, f11))
  else
   (if v2 < 0 then
    (some ((-1), x12, f9, f10, f11))
   else
    (if 2 < v2 then
     (some ((-1), x12, f9, f10, f11))
    else
     (Option.bind (q_X3_countRolls N x7 x8 x12 f0 f1 f2 f3 f4 f5 f6 f9 f10 f11) (fun o5 =>
     (if o5.1 = 0 then
      (some ((-1), o5.2.1, o5.2.2.1, o5.2.2.2.1, o5.2.2.2.2))
     else
      (if z_in v1 6 then
      (Option.bind (q_X3_tellYear_L42 N v1 f2 o5.2.2.2.2 N (-1) (-1) 0 (f1 (Int32.toNatClampNeg v1))) (fun t8 =>
      (if v2 = 2 then
       (some (t8.2.2, o5.2.1, o5.2.2.1, o5.2.2.2.1, o5.2.2.2.2))
      else
       (if v2 = 0 then
        (some (t8.1, o5.2.1, o5.2.2.1, o5.2.2.2.1, o5.2.2.2.2))
       else
        (some (t8.2.1, o5.2.1, o5.2.2.1, o5.2.2.2.1, o5.2.2.2.2))))))
      else none)))))))))
set_option maxHeartbeats 4000000 in
set_option maxRecDepth 100000 in
theorem b_X3_tellYear {p : Program} {l : Launch} {e : Env} {R : Room} {s : State} {m : MethodId} {args : Array Value} {below : List Frame} {meth : Method} {c : Code} {Q : State → Prop} {A : Nat → Prop} {dC : Nat → ClassId} {dI : Nat → Nat → Nat} {cI cZ cJ cA : ClassId} {h0 : Nat} {a : Nat → Nat} (N : Nat) (C0 : z_Cx p s m args c cX3_tellYear 7 wsX3_tellYear RX3 R 20 336 A dC dI (z_ty cI cZ cJ cA)) {v1 : Int32} {v2 : Int32} {x7 : Int32} {x8 : Int32} {x12 : Int32} {x13 : Int32} {f0 : (Nat → Int32)} {f1 : (Nat → Int32)} {f2 : (Nat → Int32)} {f3 : (Nat → Int32)} {f4 : (Nat → Int32)} {f5 : (Nat → Int32)} {f6 : (Nat → Int32)} {f9 : (Nat → Int32)} {f10 : (Nat → Int32)} {f11 : (Nat → Int64)} {o : (Int32 × Int32 × (Nat → Int32) × (Nat → Int32) × (Nat → Int64))} {H : Heap} {locs : List Loc} {ls : Array Slot} (hf : q_X3_tellYear N v1 v2 x7 x8 x12 f0 f1 f2 f3 f4 f5 f6 f9 f10 f11 = some o) (hP : va_P (dC, dI) vwCl (wX3 cI cZ cJ cA h0 a x7 x8 x12 x13 f0 f1 f2 f3 f4 f5 f6 f9 f10 f11) H) (hD : va_D A (wX3 cI cZ cJ cA h0 a x7 x8 x12 x13 f0 f1 f2 f3 f4 f5 f6 f9 f10 f11)) (hS : va_S A s.heap H locs) (hl : lv_has ls 7 [(0, .ref h0), (1, .int v1), (2, .int v2)])
    (hret : ∀ (pc : Nat) (H : Heap) (locs : List Loc) (ls : Array Slot) (r : Int32), decode cX3_tellYear pc = .ok (.ireturn, 1) → r = o.1 → va_P (dC, dI) vwCl (wX3 cI cZ cJ cA h0 a x7 x8 o.2.1 x13 f0 f1 f2 f3 f4 f5 f6 o.2.2.1 o.2.2.2.1 o.2.2.2.2) H → va_D A (wX3 cI cZ cJ cA h0 a x7 x8 o.2.1 x13 f0 f1 f2 f3 f4 f5 f6 o.2.2.1 o.2.2.2.1 o.2.2.2.2) → va_S A s.heap H locs → W p l e R s m args below meth c H locs 0 0 Q (F0 m pc ls [.int r])) :
    W p l e R s m args below meth c H locs 0 0 Q (F0 m 0 ls []) := by
  obtain ⟨⟨hx, hb, hml, hown, hts⟩, hRf, hRl, hA, hN, hK⟩ := C0
  unfold q_X3_tellYear at hf
  refine lv_aload_n hx hb dX3_tellYear_0 rfl (lv_at hl 0 rfl) ?_
  refine lv_iload_n hx hb dX3_tellYear_1 rfl (lv_at hl 1 rfl) ?_
  obtain ⟨o1, ho1, hf1⟩ := z_ib hf
  replace hf := hf1
  clear hf1
  refine z_Vi (As := [.int v1]) (rest := []) (w := (wX3 cI cZ cJ cA h0 a x7 x8 x12 x13 f0 f1 f2 f3 f4 f5 f6 f9 f10 f11)) (w1 := (wX3 cI cZ cJ cA h0 a x7 x8 x12 x13 f0 f1 f2 f3 f4 f5 f6 f9 f10 f11)) ⟨hx, hb, hml, hown, hts⟩ (k_X3_isStone l dC dI cI cZ cJ cA h0 a H.size N v1 x7 x8 x12 x13 f0 f1 f2 f3 f4 f5 f6 f9 f10 f11 o1 ho1) (cwV 1 hts gX3_tellYear_X3_isStone rfl rfl rfl (by decide +kernel) ⟨Nat.le_trans (Nat.le_of_ble_eq_true rfl) hRf, Nat.le_trans (Nat.le_of_ble_eq_true rfl) hRl⟩) hK hP hD hS hA hN (ci := 3) rfl rfl rfl rfl hl.1 rfl (Nat.le_of_ble_eq_true rfl) dX3_tellYear_2 (fun H locs hP hD hS => ?_)
  refine lv_if_eq (tgt := 24) hx hb dX3_tellYear_5 (by decide) (fun c2 => ?_) (fun c2 => ?_)
  · replace hf := z_ip hf c2
    refine lv_iconst (v := (-1)) hx hb dX3_tellYear_24 (by decide) ?_
    obtain rfl := Option.some.inj hf
    exact hret _ _ _ _ _ dX3_tellYear_25 rfl hP hD hS
  · replace hf := z_im hf c2
    refine lv_iload_n hx hb dX3_tellYear_8 rfl (lv_at hl 2 rfl) ?_
    refine lv_if_lt (tgt := 24) hx hb dX3_tellYear_9 (by decide) (fun c3 => ?_) (fun c3 => ?_)
    · replace hf := z_ip hf c3
      refine lv_iconst (v := (-1)) hx hb dX3_tellYear_24 (by decide) ?_
      obtain rfl := Option.some.inj hf
      exact hret _ _ _ _ _ dX3_tellYear_25 rfl hP hD hS
    · replace hf := z_im hf c3
      refine lv_iload_n hx hb dX3_tellYear_12 rfl (lv_at hl 2 rfl) ?_
      refine lv_iconst (v := 2) hx hb dX3_tellYear_13 (by decide) ?_
      refine lv_icmp_gt (tgt := 24) hx hb dX3_tellYear_14 (by decide) (fun c4 => ?_) (fun c4 => ?_)
      · replace hf := z_ip hf c4
        refine lv_iconst (v := (-1)) hx hb dX3_tellYear_24 (by decide) ?_
        obtain rfl := Option.some.inj hf
        exact hret _ _ _ _ _ dX3_tellYear_25 rfl hP hD hS
      · replace hf := z_im hf c4
        refine lv_aload_n hx hb dX3_tellYear_17 rfl (lv_at hl 0 rfl) ?_
        obtain ⟨o5, ho5, hf1⟩ := z_ib hf
        replace hf := hf1
        clear hf1
        refine z_Vi (As := []) (rest := []) (w := (wX3 cI cZ cJ cA h0 a x7 x8 x12 x13 f0 f1 f2 f3 f4 f5 f6 f9 f10 f11)) (w1 := (wX3 cI cZ cJ cA h0 a x7 x8 o5.2.1 x13 f0 f1 f2 f3 f4 f5 f6 o5.2.2.1 o5.2.2.2.1 o5.2.2.2.2)) ⟨hx, hb, hml, hown, hts⟩ (k_X3_countRolls l dC dI cI cZ cJ cA h0 a H.size N x7 x8 x12 x13 f0 f1 f2 f3 f4 f5 f6 f9 f10 f11 o5 ho5) (cwV 0 hts gX3_tellYear_X3_countRolls rfl rfl rfl (by decide +kernel) ⟨Nat.le_trans (Nat.le_of_ble_eq_true rfl) hRf, Nat.le_trans (Nat.le_of_ble_eq_true rfl) hRl⟩) hK hP hD hS hA hN (ci := 3) rfl rfl rfl rfl hl.1 rfl (Nat.le_of_ble_eq_true rfl) dX3_tellYear_18 (fun H locs hP hD hS => ?_)
        refine lv_if_ne (tgt := 26) hx hb dX3_tellYear_21 (by decide) (fun c6 => ?_) (fun c6 => ?_)
        · replace hf := z_im hf c6
          refine lv_iconst (v := (-1)) hx hb dX3_tellYear_26 (by decide) ?_
          refine lv_istore_n (lv' := [(3, .int (-1)), (0, .ref h0), (1, .int v1), (2, .int v2)]) hx hb dX3_tellYear_27 rfl hl (by decide) rfl (fun ls hl => ?_)
          refine lv_iconst (v := (-1)) hx hb dX3_tellYear_28 (by decide) ?_
          refine lv_istore (lv' := [(4, .int (-1)), (3, .int (-1)), (0, .ref h0), (1, .int v1), (2, .int v2)]) hx hb dX3_tellYear_29 hl (by decide) rfl (fun ls hl => ?_)
          refine lv_iconst (v := 0) hx hb dX3_tellYear_31 (by decide) ?_
          refine lv_istore (lv' := [(5, .int 0), (4, .int (-1)), (3, .int (-1)), (0, .ref h0), (1, .int v1), (2, .int v2)]) hx hb dX3_tellYear_32 hl (by decide) rfl (fun ls hl => ?_)
          refine lv_aload_n hx hb dX3_tellYear_34 rfl (lv_at hl 3 rfl) ?_
          refine va_get (D := (dC, dI)) (ci := 3) (v := .ref (a 1)) (C := RX3) (T := TX3) (N := 14) hx hb hts (fun w hw => List.mem_cons_of_mem _ (List.mem_append_right _ hw)) hown hK hP 0 rfl rfl 1 (by decide) (hts (.fieldLink RX3 15 "OldStadium$Quarry" "from" "[I") (List.mem_of_getElem? (i := 1) rfl)) (fun _ h9 => h9) rfl dX3_tellYear_35 ?_
          refine lv_iload_n hx hb dX3_tellYear_38 rfl (lv_at hl 4 rfl) ?_
          have b7 := z_c1 hf
          replace hf := z_c2 hf
          refine va_iald hx hb hK hP 2 0 rfl rfl b7 dX3_tellYear_39 ?_
          refine lv_istore (lv' := [(6, .int (f1 (Int32.toNatClampNeg v1))), (5, .int 0), (4, .int (-1)), (3, .int (-1)), (0, .ref h0), (1, .int v1), (2, .int v2)]) hx hb dX3_tellYear_40 hl (by decide) rfl (fun ls hl => ?_)
          obtain ⟨t8, ht8, hf1⟩ := z_ib hf
          replace hf := hf1
          clear hf1
          refine b_X3_tellYear_L42 N ⟨⟨hx, hb, hml, hown, hts⟩, hRf, hRl, hA, hN, hK⟩ N ht8 hP hD hS (lv_sub hl [4, 5, 6, 3, 2, 1, 0] rfl) (fun H locs ls hP hD hS hl => ?_)
          refine lv_iload_n hx hb dX3_tellYear_94 rfl (lv_at hl 0 rfl) ?_
          refine lv_iconst (v := 2) hx hb dX3_tellYear_95 (by decide) ?_
          refine lv_icmp_ne (tgt := 102) hx hb dX3_tellYear_96 (by decide) (fun c9 => ?_) (fun c9 => ?_)
          · replace hf := z_im hf c9
            refine lv_iload_n hx hb dX3_tellYear_102 rfl (lv_at hl 0 rfl) ?_
            refine lv_if_ne (tgt := 110) hx hb dX3_tellYear_103 (by decide) (fun c10 => ?_) (fun c10 => ?_)
            · replace hf := z_im hf c10
              refine lv_iload hx hb dX3_tellYear_110 (lv_at hl 2 rfl) ?_
              obtain rfl := Option.some.inj hf
              exact hret _ _ _ _ _ dX3_tellYear_112 rfl hP hD hS
            · replace hf := z_ip hf c10
              refine lv_iload_n hx hb dX3_tellYear_106 rfl (lv_at hl 1 rfl) ?_
              refine lv_goto (tgt := 112) hx hb dX3_tellYear_107 (by decide) ?_
              obtain rfl := Option.some.inj hf
              exact hret _ _ _ _ _ dX3_tellYear_112 rfl hP hD hS
          · replace hf := z_ip hf c9
            refine lv_iload hx hb dX3_tellYear_99 (lv_at hl 3 rfl) ?_
            obtain rfl := Option.some.inj hf
            exact hret _ _ _ _ _ dX3_tellYear_101 rfl hP hD hS
        · replace hf := z_ip hf c6
          refine lv_iconst (v := (-1)) hx hb dX3_tellYear_24 (by decide) ?_
          obtain rfl := Option.some.inj hf
          exact hret _ _ _ _ _ dX3_tellYear_25 rfl hP hD hS
set_option maxHeartbeats 4000000 in
set_option maxRecDepth 100000 in
theorem k_X3_tellYear (l : Launch) (dC : Nat → ClassId) (dI : Nat → Nat → Nat) (cI cZ cJ cA : ClassId) (h0 : Nat) (a : Nat → Nat) (sz : Nat) (N : Nat) (v1 : Int32) (v2 : Int32) (x7 : Int32) (x8 : Int32) (x12 : Int32) (x13 : Int32) (f0 : (Nat → Int32)) (f1 : (Nat → Int32)) (f2 : (Nat → Int32)) (f3 : (Nat → Int32)) (f4 : (Nat → Int32)) (f5 : (Nat → Int32)) (f6 : (Nat → Int32)) (f9 : (Nat → Int32)) (f10 : (Nat → Int32)) (f11 : (Nat → Int64)) (o : (Int32 × Int32 × (Nat → Int32) × (Nat → Int32) × (Nat → Int64))) (hf : q_X3_tellYear N v1 v2 x7 x8 x12 f0 f1 f2 f3 f4 f5 f6 f9 f10 f11 = some o) : Met l yX3_tellYear wsX3_tellYear ({ frames := 20, cells := 0, slots := 0, locals := 336 } : Room) (z_Pre dC dI (z_ty cI cZ cJ cA) [.ref h0, .int v1, .int v2] sz (wX3 cI cZ cJ cA h0 a x7 x8 x12 x13 f0 f1 f2 f3 f4 f5 f6 f9 f10 f11)) (z_Pi dC dI o.1 (wX3 cI cZ cJ cA h0 a x7 x8 o.2.1 x13 f0 f1 f2 f3 f4 f5 f6 o.2.2.1 o.2.2.2.1 o.2.2.2.2) sz (wX3 cI cZ cJ cA h0 a x7 x8 x12 x13 f0 f1 f2 f3 f4 f5 f6 f9 f10 f11)) 0 0 (va_A (wX3 cI cZ cJ cA h0 a x7 x8 x12 x13 f0 f1 f2 f3 f4 f5 f6 f9 f10 f11) sz) := by
  refine Met.ofW (cc := cX3_tellYear) (maxL := 7) (ret := (some .int)) (by decide) rfl ?_
  intro p e s m args below meth c s₁ B hml hv
  obtain ⟨rfl, hsz, hP, hK, hD0, hN⟩ := hv
  subst hsz
  have hl := lv_entry ([.ref h0, .int v1, .int v2]) (n := 7) (Nat.le_of_ble_eq_true rfl)
  rw [lg_entry_eq]
  refine b_X3_tellYear N ⟨⟨B.exec, B.bytes, hml, findClass_of_methodNamed B.named, atoms_spec (ws := wsX3_tellYear) B.pre⟩, Nat.le_refl _, Nat.le_refl _, fun q h => Or.inr h, hN, hK⟩ hf hP hD0.self va_S.rf hl (fun pc H locs ls r hd hr hP hD hS => ?_)
  subst hr
  exact W.iret B.exec B.bytes B.returns (fun t ht hW => ⟨⟨_, (), rfl, rfl, by rw [ht]; exact hP, hD⟩, hS.F ht⟩) hS.2.2 hd
def q_X3_findFewest_L21 (N : Nat) (v1 : Int32) (v2 : Int32) (x7 : Int32) (x8 : Int32) (f0 : (Nat → Int32)) (f1 : (Nat → Int32)) (f2 : (Nat → Int32)) (f6 : (Nat → Int32)) (f9 : (Nat → Int32)) : Nat → Int32 → (Nat → Int32) → Option (Sum (Int32 × (Nat → Int32)) (Nat → Int32))
  | 0, _, _ => none
  | n + 1, v3, f10 =>
    (if v1 ≤ v3 then
     (some (Sum.inr f10))
    else
     (Option.bind (q_J6_bitCount_0f7a4 N v3) (fun o2 =>
     (if o2 = v2 then
      (Option.bind (q_X3_isRollFrom N 0 (v1 &&& (v3 ^^^ (-1))) x7 x8 f0 f1 f2 f6 f9 f10) (fun o4 =>
      (if o4.1 = 0 then
       (q_X3_findFewest_L21 N v1 v2 x7 x8 f0 f1 f2 f6 f9 n (v3 + 1) o4.2)
      else
       (some (Sum.inl (v3, o4.2))))))
     else
      (q_X3_findFewest_L21 N v1 v2 x7 x8 f0 f1 f2 f6 f9 n (v3 + 1) f10)))))
set_option maxHeartbeats 4000000 in
set_option maxRecDepth 100000 in
theorem b_X3_findFewest_L21 {p : Program} {l : Launch} {e : Env} {R : Room} {s : State} {m : MethodId} {args : Array Value} {below : List Frame} {meth : Method} {c : Code} {Q : State → Prop} {A : Nat → Prop} {dC : Nat → ClassId} {dI : Nat → Nat → Nat} {cI cZ cJ cA : ClassId} {h0 : Nat} {a : Nat → Nat} (N : Nat) (C0 : z_Cx p s m args c cX3_findFewest 4 wsX3_findFewest RX3 R 19 307 A dC dI (z_ty cI cZ cJ cA)) : ∀ (n : Nat) {v1 : Int32} {v2 : Int32} {v3 : Int32} {x7 : Int32} {x8 : Int32} {x12 : Int32} {x13 : Int32} {f0 : (Nat → Int32)} {f1 : (Nat → Int32)} {f2 : (Nat → Int32)} {f3 : (Nat → Int32)} {f4 : (Nat → Int32)} {f5 : (Nat → Int32)} {f6 : (Nat → Int32)} {f9 : (Nat → Int32)} {f10 : (Nat → Int32)} {f11 : (Nat → Int64)} {o : (Sum (Int32 × (Nat → Int32)) (Nat → Int32))} {H : Heap} {locs : List Loc} {ls : Array Slot}, q_X3_findFewest_L21 N v1 v2 x7 x8 f0 f1 f2 f6 f9 n v3 f10 = some o → va_P (dC, dI) vwCl (wX3 cI cZ cJ cA h0 a x7 x8 x12 x13 f0 f1 f2 f3 f4 f5 f6 f9 f10 f11) H → va_D A (wX3 cI cZ cJ cA h0 a x7 x8 x12 x13 f0 f1 f2 f3 f4 f5 f6 f9 f10 f11) → va_S A s.heap H locs → lv_has ls 4 [(0, .ref h0), (1, .int v1), (2, .int v2), (3, .int v3)] →
    (∀ (t : (Int32 × (Nat → Int32))), o = Sum.inl t → ∀ (pc : Nat) (H : Heap) (locs : List Loc) (ls : Array Slot) (r : Int32), decode cX3_findFewest pc = .ok (.ireturn, 1) → r = t.1 → va_P (dC, dI) vwCl (wX3 cI cZ cJ cA h0 a x7 x8 x12 x13 f0 f1 f2 f3 f4 f5 f6 f9 t.2 f11) H → va_D A (wX3 cI cZ cJ cA h0 a x7 x8 x12 x13 f0 f1 f2 f3 f4 f5 f6 f9 t.2 f11) → va_S A s.heap H locs → W p l e R s m args below meth c H locs 0 0 Q (F0 m pc ls [.int r])) →
    (∀ (t : (Nat → Int32)) (H : Heap) (locs : List Loc) (ls : Array Slot), o = Sum.inr t → va_P (dC, dI) vwCl (wX3 cI cZ cJ cA h0 a x7 x8 x12 x13 f0 f1 f2 f3 f4 f5 f6 f9 t f11) H → va_D A (wX3 cI cZ cJ cA h0 a x7 x8 x12 x13 f0 f1 f2 f3 f4 f5 f6 f9 t f11) → va_S A s.heap H locs → lv_has ls 4 [(0, .ref h0), (1, .int v1), (2, .int v2)] → W p l e R s m args below meth c H locs 0 0 Q (F0 m 55 ls [])) →
    W p l e R s m args below meth c H locs 0 0 Q (F0 m 21 ls []) := by
  obtain ⟨⟨hx, hb, hml, hown, hts⟩, hRf, hRl, hA, hN, hK⟩ := C0
  intro n
  induction n with
  | zero =>
    intro v1 v2 v3 x7 x8 x12 x13 f0 f1 f2 f3 f4 f5 f6 f9 f10 f11 o H locs ls hf
    cases hf
  | succ n ih =>
    intro v1 v2 v3 x7 x8 x12 x13 f0 f1 f2 f3 f4 f5 f6 f9 f10 f11 o H locs ls hf hP hD hS hl hret hexit
    rw [q_X3_findFewest_L21] at hf
    refine lv_iload_n hx hb dX3_findFewest_21 rfl (lv_at hl 3 rfl) ?_
    refine lv_iload_n hx hb dX3_findFewest_22 rfl (lv_at hl 1 rfl) ?_
    refine lv_icmp_ge (tgt := 55) hx hb dX3_findFewest_23 (by decide) (fun c1 => ?_) (fun c1 => ?_)
    · replace hf := z_ip hf c1
      obtain rfl := Option.some.inj hf
      exact hexit _ _ _ _ rfl hP hD hS (lv_sub hl [0, 1, 2] rfl)
    · replace hf := z_im hf c1
      refine lv_iload_n hx hb dX3_findFewest_26 rfl (lv_at hl 3 rfl) ?_
      obtain ⟨o2, ho2, hf1⟩ := z_ib hf
      replace hf := hf1
      clear hf1
      refine z_S0 (As := [.int v3]) (rest := []) ⟨hx, hb, hml, hown, hts⟩ (k_J6_bitCount_0f7a4 l dC dI cI cZ cJ cA H.size N v3 o2 ho2) (va_cwS 1 hts gX3_findFewest_J6_bitCount_0f7a4 rfl rfl rfl (by decide +kernel) ⟨Nat.le_trans (Nat.le_of_ble_eq_true rfl) hRf, Nat.le_trans (Nat.le_of_ble_eq_true rfl) hRl⟩) hK hP hS hA hN rfl hl.1 rfl (Nat.le_of_ble_eq_true rfl) dX3_findFewest_27 (fun H locs hP hS => ?_)
      refine lv_iload_n hx hb dX3_findFewest_30 rfl (lv_at hl 2 rfl) ?_
      refine lv_icmp_ne (tgt := 49) hx hb dX3_findFewest_31 (by decide) (fun c3 => ?_) (fun c3 => ?_)
      · replace hf := z_im hf c3
        refine lv_iinc (v := (v3 + 1)) (lv' := [(3, .int (v3 + 1)), (0, .ref h0), (1, .int v1), (2, .int v2)]) hx hb dX3_findFewest_49 hl (k := 3) rfl rfl (by decide) rfl (fun ls hl => ?_)
        refine lv_goto (tgt := 21) hx hb dX3_findFewest_52 (by decide) ?_
        exact ih hf hP hD hS (lv_sub hl [1, 2, 3, 0] rfl) hret hexit
      · replace hf := z_ip hf c3
        refine lv_aload_n hx hb dX3_findFewest_34 rfl (lv_at hl 0 rfl) ?_
        refine lv_iconst (v := 0) hx hb dX3_findFewest_35 (by decide) ?_
        refine lv_iload_n hx hb dX3_findFewest_36 rfl (lv_at hl 1 rfl) ?_
        refine lv_iload_n hx hb dX3_findFewest_37 rfl (lv_at hl 3 rfl) ?_
        refine lv_iconst (v := (-1)) hx hb dX3_findFewest_38 (by decide) ?_
        refine lv_ixor hx hb dX3_findFewest_39 ?_
        refine lv_iand hx hb dX3_findFewest_40 ?_
        obtain ⟨o4, ho4, hf1⟩ := z_ib hf
        replace hf := hf1
        clear hf1
        refine z_Si (As := [.ref h0, .int 0, .int (v1 &&& (v3 ^^^ (-1)))]) (rest := []) (w := (wX3 cI cZ cJ cA h0 a x7 x8 x12 x13 f0 f1 f2 f3 f4 f5 f6 f9 f10 f11)) (w1 := (wX3 cI cZ cJ cA h0 a x7 x8 x12 x13 f0 f1 f2 f3 f4 f5 f6 f9 o4.2 f11)) ⟨hx, hb, hml, hown, hts⟩ (k_X3_isRollFrom l dC dI cI cZ cJ cA h0 a H.size N 0 (v1 &&& (v3 ^^^ (-1))) x7 x8 x12 x13 f0 f1 f2 f3 f4 f5 f6 f9 f10 f11 o4 ho4) (va_cwS 3 hts gX3_findFewest_X3_isRollFrom rfl rfl rfl (by decide +kernel) ⟨Nat.le_trans (Nat.le_of_ble_eq_true rfl) hRf, Nat.le_trans (Nat.le_of_ble_eq_true rfl) hRl⟩) hK hP hD hS hA hN rfl hl.1 rfl (Nat.le_of_ble_eq_true rfl) dX3_findFewest_41 (fun H locs hP hD hS => ?_)
        refine lv_if_eq (tgt := 49) hx hb dX3_findFewest_44 (by decide) (fun c5 => ?_) (fun c5 => ?_)
        · replace hf := z_ip hf c5
          refine lv_iinc (v := (v3 + 1)) (lv' := [(3, .int (v3 + 1)), (0, .ref h0), (1, .int v1), (2, .int v2)]) hx hb dX3_findFewest_49 hl (k := 3) rfl rfl (by decide) rfl (fun ls hl => ?_)
          refine lv_goto (tgt := 21) hx hb dX3_findFewest_52 (by decide) ?_
          exact ih hf hP hD hS (lv_sub hl [1, 2, 3, 0] rfl) hret hexit
        · replace hf := z_im hf c5
          refine lv_iload_n hx hb dX3_findFewest_47 rfl (lv_at hl 3 rfl) ?_
          obtain rfl := Option.some.inj hf
          exact hret _ rfl _ _ _ _ _ dX3_findFewest_48 rfl hP hD hS
def q_X3_findFewest_L11 (N : Nat) (v1 : Int32) (x7 : Int32) (x8 : Int32) (f0 : (Nat → Int32)) (f1 : (Nat → Int32)) (f2 : (Nat → Int32)) (f6 : (Nat → Int32)) (f9 : (Nat → Int32)) : Nat → Int32 → (Nat → Int32) → Option (Sum (Int32 × (Nat → Int32)) (Nat → Int32))
  | 0, _, _ => none
  | n + 1, v2, f10 =>
    (if x7 ≤ v2 then
     (some (Sum.inr f10))
    else
     (Option.bind (q_X3_findFewest_L21 N v1 v2 x7 x8 f0 f1 f2 f6 f9 N 0 f10) (Sum.elim (fun r4 => (some (Sum.inl r4))) (fun s3 =>
     (q_X3_findFewest_L11 N v1 x7 x8 f0 f1 f2 f6 f9 n (v2 + 1) s3)))))
set_option maxHeartbeats 4000000 in
set_option maxRecDepth 100000 in
theorem b_X3_findFewest_L11 {p : Program} {l : Launch} {e : Env} {R : Room} {s : State} {m : MethodId} {args : Array Value} {below : List Frame} {meth : Method} {c : Code} {Q : State → Prop} {A : Nat → Prop} {dC : Nat → ClassId} {dI : Nat → Nat → Nat} {cI cZ cJ cA : ClassId} {h0 : Nat} {a : Nat → Nat} (N : Nat) (C0 : z_Cx p s m args c cX3_findFewest 4 wsX3_findFewest RX3 R 19 307 A dC dI (z_ty cI cZ cJ cA)) : ∀ (n : Nat) {v1 : Int32} {v2 : Int32} {x7 : Int32} {x8 : Int32} {x12 : Int32} {x13 : Int32} {f0 : (Nat → Int32)} {f1 : (Nat → Int32)} {f2 : (Nat → Int32)} {f3 : (Nat → Int32)} {f4 : (Nat → Int32)} {f5 : (Nat → Int32)} {f6 : (Nat → Int32)} {f9 : (Nat → Int32)} {f10 : (Nat → Int32)} {f11 : (Nat → Int64)} {o : (Sum (Int32 × (Nat → Int32)) (Nat → Int32))} {H : Heap} {locs : List Loc} {ls : Array Slot}, q_X3_findFewest_L11 N v1 x7 x8 f0 f1 f2 f6 f9 n v2 f10 = some o → va_P (dC, dI) vwCl (wX3 cI cZ cJ cA h0 a x7 x8 x12 x13 f0 f1 f2 f3 f4 f5 f6 f9 f10 f11) H → va_D A (wX3 cI cZ cJ cA h0 a x7 x8 x12 x13 f0 f1 f2 f3 f4 f5 f6 f9 f10 f11) → va_S A s.heap H locs → lv_has ls 4 [(0, .ref h0), (1, .int v1), (2, .int v2)] →
    (∀ (t : (Int32 × (Nat → Int32))), o = Sum.inl t → ∀ (pc : Nat) (H : Heap) (locs : List Loc) (ls : Array Slot) (r : Int32), decode cX3_findFewest pc = .ok (.ireturn, 1) → r = t.1 → va_P (dC, dI) vwCl (wX3 cI cZ cJ cA h0 a x7 x8 x12 x13 f0 f1 f2 f3 f4 f5 f6 f9 t.2 f11) H → va_D A (wX3 cI cZ cJ cA h0 a x7 x8 x12 x13 f0 f1 f2 f3 f4 f5 f6 f9 t.2 f11) → va_S A s.heap H locs → W p l e R s m args below meth c H locs 0 0 Q (F0 m pc ls [.int r])) →
    (∀ (t : (Nat → Int32)) (H : Heap) (locs : List Loc) (ls : Array Slot), o = Sum.inr t → va_P (dC, dI) vwCl (wX3 cI cZ cJ cA h0 a x7 x8 x12 x13 f0 f1 f2 f3 f4 f5 f6 f9 t f11) H → va_D A (wX3 cI cZ cJ cA h0 a x7 x8 x12 x13 f0 f1 f2 f3 f4 f5 f6 f9 t f11) → va_S A s.heap H locs → lv_has ls 4 [(1, .int v1)] → W p l e R s m args below meth c H locs 0 0 Q (F0 m 61 ls [])) →
    W p l e R s m args below meth c H locs 0 0 Q (F0 m 11 ls []) := by
  obtain ⟨⟨hx, hb, hml, hown, hts⟩, hRf, hRl, hA, hN, hK⟩ := C0
  intro n
  induction n with
  | zero =>
    intro v1 v2 x7 x8 x12 x13 f0 f1 f2 f3 f4 f5 f6 f9 f10 f11 o H locs ls hf
    cases hf
  | succ n ih =>
    intro v1 v2 x7 x8 x12 x13 f0 f1 f2 f3 f4 f5 f6 f9 f10 f11 o H locs ls hf hP hD hS hl hret hexit
    rw [q_X3_findFewest_L11] at hf
    refine lv_iload_n hx hb dX3_findFewest_11 rfl (lv_at hl 2 rfl) ?_
    refine lv_aload_n hx hb dX3_findFewest_12 rfl (lv_at hl 0 rfl) ?_
    refine va_get (D := (dC, dI)) (ci := 3) (v := .int x7) (C := RX3) (T := TX3) (N := 14) hx hb hts (fun w hw => List.mem_cons_of_mem _ (List.mem_append_right _ hw)) hown hK hP 0 rfl rfl 7 (by decide) (hts (.fieldLink RX3 33 "OldStadium$Quarry" "stones" "I") (List.mem_of_getElem? (i := 1) rfl)) (fun _ h9 => h9) rfl dX3_findFewest_13 ?_
    refine lv_icmp_ge (tgt := 61) hx hb dX3_findFewest_16 (by decide) (fun c1 => ?_) (fun c1 => ?_)
    · replace hf := z_ip hf c1
      obtain rfl := Option.some.inj hf
      exact hexit _ _ _ _ rfl hP hD hS (lv_sub hl [1] rfl)
    · replace hf := z_im hf c1
      refine lv_iconst (v := 0) hx hb dX3_findFewest_19 (by decide) ?_
      refine lv_istore_n (lv' := [(3, .int 0), (0, .ref h0), (1, .int v1), (2, .int v2)]) hx hb dX3_findFewest_20 rfl hl (by decide) rfl (fun ls hl => ?_)
      obtain ⟨t2, ht2, hf1⟩ := z_ib hf
      replace hf := hf1
      clear hf1
      refine b_X3_findFewest_L21 N ⟨⟨hx, hb, hml, hown, hts⟩, hRf, hRl, hA, hN, hK⟩ N ht2 hP hD hS (lv_sub hl [1, 2, 3, 0] rfl) (fun r4 e1 pc H locs ls r0 hd hr hP hD hS => ?_) (fun s3 H locs ls e1 hP hD hS hl => ?_)
      · subst e1
        have hf := z_sl hf
        obtain rfl := Option.some.inj hf
        exact hret _ rfl pc H locs ls r0 hd hr hP hD hS
      subst e1
      replace hf := z_sr hf
      refine lv_iinc (v := (v2 + 1)) (lv' := [(2, .int (v2 + 1)), (0, .ref h0), (1, .int v1)]) hx hb dX3_findFewest_55 hl (k := 2) rfl rfl (by decide) rfl (fun ls hl => ?_)
      refine lv_goto (tgt := 11) hx hb dX3_findFewest_58 (by decide) ?_
      exact ih hf hP hD hS (lv_sub hl [1, 2, 0] rfl) hret hexit
def q_X3_findFewest (N : Nat) (x7 : Int32) (x8 : Int32) (f0 : (Nat → Int32)) (f1 : (Nat → Int32)) (f2 : (Nat → Int32)) (f6 : (Nat → Int32)) (f9 : (Nat → Int32)) (f10 : (Nat → Int32)) : Option (Int32 × (Nat → Int32)) :=
  (Option.bind (q_X3_findFewest_L11 N (((1 : Int32) <<< (x7 &&& 31)) - 1) x7 x8 f0 f1 f2 f6 f9 N 0 f10) (Sum.elim (fun r3 => (some r3)) (fun s2 =>
  (some ((((1 : Int32) <<< (x7 &&& 31)) - 1), s2)))))
set_option maxHeartbeats 4000000 in
set_option maxRecDepth 100000 in
theorem b_X3_findFewest {p : Program} {l : Launch} {e : Env} {R : Room} {s : State} {m : MethodId} {args : Array Value} {below : List Frame} {meth : Method} {c : Code} {Q : State → Prop} {A : Nat → Prop} {dC : Nat → ClassId} {dI : Nat → Nat → Nat} {cI cZ cJ cA : ClassId} {h0 : Nat} {a : Nat → Nat} (N : Nat) (C0 : z_Cx p s m args c cX3_findFewest 4 wsX3_findFewest RX3 R 19 307 A dC dI (z_ty cI cZ cJ cA)) {x7 : Int32} {x8 : Int32} {x12 : Int32} {x13 : Int32} {f0 : (Nat → Int32)} {f1 : (Nat → Int32)} {f2 : (Nat → Int32)} {f3 : (Nat → Int32)} {f4 : (Nat → Int32)} {f5 : (Nat → Int32)} {f6 : (Nat → Int32)} {f9 : (Nat → Int32)} {f10 : (Nat → Int32)} {f11 : (Nat → Int64)} {o : (Int32 × (Nat → Int32))} {H : Heap} {locs : List Loc} {ls : Array Slot} (hf : q_X3_findFewest N x7 x8 f0 f1 f2 f6 f9 f10 = some o) (hP : va_P (dC, dI) vwCl (wX3 cI cZ cJ cA h0 a x7 x8 x12 x13 f0 f1 f2 f3 f4 f5 f6 f9 f10 f11) H) (hD : va_D A (wX3 cI cZ cJ cA h0 a x7 x8 x12 x13 f0 f1 f2 f3 f4 f5 f6 f9 f10 f11)) (hS : va_S A s.heap H locs) (hl : lv_has ls 4 [(0, .ref h0)])
    (hret : ∀ (pc : Nat) (H : Heap) (locs : List Loc) (ls : Array Slot) (r : Int32), decode cX3_findFewest pc = .ok (.ireturn, 1) → r = o.1 → va_P (dC, dI) vwCl (wX3 cI cZ cJ cA h0 a x7 x8 x12 x13 f0 f1 f2 f3 f4 f5 f6 f9 o.2 f11) H → va_D A (wX3 cI cZ cJ cA h0 a x7 x8 x12 x13 f0 f1 f2 f3 f4 f5 f6 f9 o.2 f11) → va_S A s.heap H locs → W p l e R s m args below meth c H locs 0 0 Q (F0 m pc ls [.int r])) :
    W p l e R s m args below meth c H locs 0 0 Q (F0 m 0 ls []) := by
  obtain ⟨⟨hx, hb, hml, hown, hts⟩, hRf, hRl, hA, hN, hK⟩ := C0
  unfold q_X3_findFewest at hf
  refine lv_iconst (v := 1) hx hb dX3_findFewest_0 (by decide) ?_
  refine lv_aload_n hx hb dX3_findFewest_1 rfl (lv_at hl 0 rfl) ?_
  refine va_get (D := (dC, dI)) (ci := 3) (v := .int x7) (C := RX3) (T := TX3) (N := 14) hx hb hts (fun w hw => List.mem_cons_of_mem _ (List.mem_append_right _ hw)) hown hK hP 0 rfl rfl 7 (by decide) (hts (.fieldLink RX3 33 "OldStadium$Quarry" "stones" "I") (List.mem_of_getElem? (i := 1) rfl)) (fun _ h9 => h9) rfl dX3_findFewest_2 ?_
  refine lv_ishl hx hb dX3_findFewest_5 ?_
  refine lv_iconst (v := 1) hx hb dX3_findFewest_6 (by decide) ?_
  refine lv_isub hx hb dX3_findFewest_7 ?_
  refine lv_istore_n (lv' := [(1, .int (((1 : Int32) <<< (x7 &&& 31)) - 1)), (0, .ref h0)]) hx hb dX3_findFewest_8 rfl hl (by decide) rfl (fun ls hl => ?_)
  refine lv_iconst (v := 0) hx hb dX3_findFewest_9 (by decide) ?_
  refine lv_istore_n (lv' := [(2, .int 0), (1, .int (((1 : Int32) <<< (x7 &&& 31)) - 1)), (0, .ref h0)]) hx hb dX3_findFewest_10 rfl hl (by decide) rfl (fun ls hl => ?_)
  obtain ⟨t1, ht1, hf1⟩ := z_ib hf
  replace hf := hf1
  clear hf1
  refine b_X3_findFewest_L11 N ⟨⟨hx, hb, hml, hown, hts⟩, hRf, hRl, hA, hN, hK⟩ N ht1 hP hD hS (lv_sub hl [2, 1, 0] rfl) (fun r3 e1 pc H locs ls r0 hd hr hP hD hS => ?_) (fun s2 H locs ls e1 hP hD hS hl => ?_)
  · subst e1
    have hf := z_sl hf
    obtain rfl := Option.some.inj hf
    exact hret pc H locs ls r0 hd hr hP hD hS
  subst e1
  replace hf := z_sr hf
  refine lv_iload_n hx hb dX3_findFewest_61 rfl (lv_at hl 0 rfl) ?_
  obtain rfl := Option.some.inj hf
  exact hret _ _ _ _ _ dX3_findFewest_62 rfl hP hD hS
set_option maxHeartbeats 4000000 in
set_option maxRecDepth 100000 in
theorem k_X3_findFewest (l : Launch) (dC : Nat → ClassId) (dI : Nat → Nat → Nat) (cI cZ cJ cA : ClassId) (h0 : Nat) (a : Nat → Nat) (sz : Nat) (N : Nat) (x7 : Int32) (x8 : Int32) (x12 : Int32) (x13 : Int32) (f0 : (Nat → Int32)) (f1 : (Nat → Int32)) (f2 : (Nat → Int32)) (f3 : (Nat → Int32)) (f4 : (Nat → Int32)) (f5 : (Nat → Int32)) (f6 : (Nat → Int32)) (f9 : (Nat → Int32)) (f10 : (Nat → Int32)) (f11 : (Nat → Int64)) (o : (Int32 × (Nat → Int32))) (hf : q_X3_findFewest N x7 x8 f0 f1 f2 f6 f9 f10 = some o) : Met l yX3_findFewest wsX3_findFewest ({ frames := 19, cells := 0, slots := 0, locals := 307 } : Room) (z_Pre dC dI (z_ty cI cZ cJ cA) [.ref h0] sz (wX3 cI cZ cJ cA h0 a x7 x8 x12 x13 f0 f1 f2 f3 f4 f5 f6 f9 f10 f11)) (z_Pi dC dI o.1 (wX3 cI cZ cJ cA h0 a x7 x8 x12 x13 f0 f1 f2 f3 f4 f5 f6 f9 o.2 f11) sz (wX3 cI cZ cJ cA h0 a x7 x8 x12 x13 f0 f1 f2 f3 f4 f5 f6 f9 f10 f11)) 0 0 (va_A (wX3 cI cZ cJ cA h0 a x7 x8 x12 x13 f0 f1 f2 f3 f4 f5 f6 f9 f10 f11) sz) := by
  refine Met.ofW (cc := cX3_findFewest) (maxL := 4) (ret := (some .int)) (by decide) rfl ?_
  intro p e s m args below meth c s₁ B hml hv
  obtain ⟨rfl, hsz, hP, hK, hD0, hN⟩ := hv
  subst hsz
  have hl := lv_entry ([.ref h0]) (n := 4) (Nat.le_of_ble_eq_true rfl)
  rw [lg_entry_eq]
  refine b_X3_findFewest N ⟨⟨B.exec, B.bytes, hml, findClass_of_methodNamed B.named, atoms_spec (ws := wsX3_findFewest) B.pre⟩, Nat.le_refl _, Nat.le_refl _, fun q h => Or.inr h, hN, hK⟩ hf hP hD0.self va_S.rf hl (fun pc H locs ls r hd hr hP hD hS => ?_)
  subst hr
  exact W.iret B.exec B.bytes B.returns (fun t ht hW => ⟨⟨_, (), rfl, rfl, by rw [ht]; exact hP, hD⟩, hS.F ht⟩) hS.2.2 hd
def q_X3_fewestWrong (N : Nat) (x7 : Int32) (x8 : Int32) (x13 : Int32) (f0 : (Nat → Int32)) (f1 : (Nat → Int32)) (f2 : (Nat → Int32)) (f3 : (Nat → Int32)) (f4 : (Nat → Int32)) (f5 : (Nat → Int32)) (f6 : (Nat → Int32)) (f9 : (Nat → Int32)) (f10 : (Nat → Int32)) : Option (Int32 × Int32 × (Nat → Int32) × (Nat → Int32)) :=
  (if x13 = (-1) then
   (Option.bind (q_X3_findUnlike N x7 f3 f4 f5 f9) (fun o2 =>
   (Option.bind (q_X3_findFewest N x7 x8 f0 f1 f2 f6 o2 f10) (fun o3 =>
   (some (o3.1, o3.1, o2, o3.2))))))
  else
   (some (x13, x13, f9, f10)))
set_option maxHeartbeats 4000000 in
set_option maxRecDepth 100000 in
theorem b_X3_fewestWrong {p : Program} {l : Launch} {e : Env} {R : Room} {s : State} {m : MethodId} {args : Array Value} {below : List Frame} {meth : Method} {c : Code} {Q : State → Prop} {A : Nat → Prop} {dC : Nat → ClassId} {dI : Nat → Nat → Nat} {cI cZ cJ cA : ClassId} {h0 : Nat} {a : Nat → Nat} (N : Nat) (C0 : z_Cx p s m args c cX3_fewestWrong 1 wsX3_fewestWrong RX3 R 20 330 A dC dI (z_ty cI cZ cJ cA)) {x7 : Int32} {x8 : Int32} {x12 : Int32} {x13 : Int32} {f0 : (Nat → Int32)} {f1 : (Nat → Int32)} {f2 : (Nat → Int32)} {f3 : (Nat → Int32)} {f4 : (Nat → Int32)} {f5 : (Nat → Int32)} {f6 : (Nat → Int32)} {f9 : (Nat → Int32)} {f10 : (Nat → Int32)} {f11 : (Nat → Int64)} {o : (Int32 × Int32 × (Nat → Int32) × (Nat → Int32))} {H : Heap} {locs : List Loc} {ls : Array Slot} (hf : q_X3_fewestWrong N x7 x8 x13 f0 f1 f2 f3 f4 f5 f6 f9 f10 = some o) (hP : va_P (dC, dI) vwCl (wX3 cI cZ cJ cA h0 a x7 x8 x12 x13 f0 f1 f2 f3 f4 f5 f6 f9 f10 f11) H) (hD : va_D A (wX3 cI cZ cJ cA h0 a x7 x8 x12 x13 f0 f1 f2 f3 f4 f5 f6 f9 f10 f11)) (hS : va_S A s.heap H locs) (hl : lv_has ls 1 [(0, .ref h0)])
    (hret : ∀ (pc : Nat) (H : Heap) (locs : List Loc) (ls : Array Slot) (r : Int32), decode cX3_fewestWrong pc = .ok (.ireturn, 1) → r = o.1 → va_P (dC, dI) vwCl (wX3 cI cZ cJ cA h0 a x7 x8 x12 o.2.1 f0 f1 f2 f3 f4 f5 f6 o.2.2.1 o.2.2.2 f11) H → va_D A (wX3 cI cZ cJ cA h0 a x7 x8 x12 o.2.1 f0 f1 f2 f3 f4 f5 f6 o.2.2.1 o.2.2.2 f11) → va_S A s.heap H locs → W p l e R s m args below meth c H locs 0 0 Q (F0 m pc ls [.int r])) :
    W p l e R s m args below meth c H locs 0 0 Q (F0 m 0 ls []) := by
  obtain ⟨⟨hx, hb, hml, hown, hts⟩, hRf, hRl, hA, hN, hK⟩ := C0
  unfold q_X3_fewestWrong at hf
  refine lv_aload_n hx hb dX3_fewestWrong_0 rfl (lv_at hl 0 rfl) ?_
  refine va_get (D := (dC, dI)) (ci := 3) (v := .int x13) (C := RX3) (T := TX3) (N := 14) hx hb hts (fun w hw => List.mem_cons_of_mem _ (List.mem_append_right _ hw)) hown hK hP 0 rfl rfl 13 (by decide) (hts (.fieldLink RX3 53 "OldStadium$Quarry" "fewest" "I") (List.mem_of_getElem? (i := 1) rfl)) (fun _ h9 => h9) rfl dX3_fewestWrong_1 ?_
  refine lv_iconst (v := (-1)) hx hb dX3_fewestWrong_4 (by decide) ?_
  refine lv_icmp_ne (tgt := 20) hx hb dX3_fewestWrong_5 (by decide) (fun c1 => ?_) (fun c1 => ?_)
  · replace hf := z_im hf c1
    refine lv_aload_n hx hb dX3_fewestWrong_20 rfl (lv_at hl 0 rfl) ?_
    refine va_get (D := (dC, dI)) (ci := 3) (v := .int x13) (C := RX3) (T := TX3) (N := 14) hx hb hts (fun w hw => List.mem_cons_of_mem _ (List.mem_append_right _ hw)) hown hK hP 0 rfl rfl 13 (by decide) (hts (.fieldLink RX3 53 "OldStadium$Quarry" "fewest" "I") (List.mem_of_getElem? (i := 1) rfl)) (fun _ h9 => h9) rfl dX3_fewestWrong_21 ?_
    obtain rfl := Option.some.inj hf
    exact hret _ _ _ _ _ dX3_fewestWrong_24 rfl hP hD hS
  · replace hf := z_ip hf c1
    refine lv_aload_n hx hb dX3_fewestWrong_8 rfl (lv_at hl 0 rfl) ?_
    obtain ⟨o2, ho2, hf1⟩ := z_ib hf
    replace hf := hf1
    clear hf1
    refine z_Vv (As := []) (rest := []) (w := (wX3 cI cZ cJ cA h0 a x7 x8 x12 x13 f0 f1 f2 f3 f4 f5 f6 f9 f10 f11)) (w1 := (wX3 cI cZ cJ cA h0 a x7 x8 x12 x13 f0 f1 f2 f3 f4 f5 f6 o2 f10 f11)) ⟨hx, hb, hml, hown, hts⟩ (k_X3_findUnlike l dC dI cI cZ cJ cA h0 a H.size N x7 x8 x12 x13 f0 f1 f2 f3 f4 f5 f6 f9 f10 f11 o2 ho2) (cwV 0 hts gX3_fewestWrong_X3_findUnlike rfl rfl rfl (by decide +kernel) ⟨Nat.le_trans (Nat.le_of_ble_eq_true rfl) hRf, Nat.le_trans (Nat.le_of_ble_eq_true rfl) hRl⟩) hK hP hD hS hA hN (ci := 3) rfl rfl rfl rfl hl.1 rfl (Nat.le_of_ble_eq_true rfl) dX3_fewestWrong_9 (fun H locs hP hD hS => ?_)
    refine lv_aload_n hx hb dX3_fewestWrong_12 rfl (lv_at hl 0 rfl) ?_
    refine lv_aload_n hx hb dX3_fewestWrong_13 rfl (lv_at hl 0 rfl) ?_
    obtain ⟨o3, ho3, hf1⟩ := z_ib hf
    replace hf := hf1
    clear hf1
    refine z_Vi (As := []) (rest := [.ref h0]) (w := (wX3 cI cZ cJ cA h0 a x7 x8 x12 x13 f0 f1 f2 f3 f4 f5 f6 o2 f10 f11)) (w1 := (wX3 cI cZ cJ cA h0 a x7 x8 x12 x13 f0 f1 f2 f3 f4 f5 f6 o2 o3.2 f11)) ⟨hx, hb, hml, hown, hts⟩ (k_X3_findFewest l dC dI cI cZ cJ cA h0 a H.size N x7 x8 x12 x13 f0 f1 f2 f3 f4 f5 f6 o2 f10 f11 o3 ho3) (cwV 0 hts gX3_fewestWrong_X3_findFewest rfl rfl rfl (by decide +kernel) ⟨Nat.le_trans (Nat.le_of_ble_eq_true rfl) hRf, Nat.le_trans (Nat.le_of_ble_eq_true rfl) hRl⟩) hK hP hD hS hA hN (ci := 3) rfl rfl rfl rfl hl.1 rfl (Nat.le_of_ble_eq_true rfl) dX3_fewestWrong_14 (fun H locs hP hD hS => ?_)
    refine va_put (D := (dC, dI)) (ci := 3) (v := .int o3.1) (ty := .int) (C := RX3) (T := TX3) (N := 14) hx hb hts (fun w hw => List.mem_cons_of_mem _ (List.mem_append_right _ hw)) tyX3 tyX3_ok nmX3 hown hK hP hD hS 0 rfl rfl 13 (by decide) (hts (.fieldLink RX3 53 "OldStadium$Quarry" "fewest" "I") (List.mem_of_getElem? (i := 1) rfl)) (fun _ h9 => h9) rfl (by decide +kernel) rfl rfl (Nat.le_of_ble_eq_true rfl) dX3_fewestWrong_17 (fun H locs hP hD hS => ?_)
    replace hP : va_P (dC, dI) vwCl (wX3 cI cZ cJ cA h0 a x7 x8 x12 o3.1 f0 f1 f2 f3 f4 f5 f6 o2 o3.2 f11) H := hP
    replace hD : va_D A (wX3 cI cZ cJ cA h0 a x7 x8 x12 o3.1 f0 f1 f2 f3 f4 f5 f6 o2 o3.2 f11) := hD
    refine lv_aload_n hx hb dX3_fewestWrong_20 rfl (lv_at hl 0 rfl) ?_
    refine va_get (D := (dC, dI)) (ci := 3) (v := .int o3.1) (C := RX3) (T := TX3) (N := 14) hx hb hts (fun w hw => List.mem_cons_of_mem _ (List.mem_append_right _ hw)) hown hK hP 0 rfl rfl 13 (by decide) (hts (.fieldLink RX3 53 "OldStadium$Quarry" "fewest" "I") (List.mem_of_getElem? (i := 1) rfl)) (fun _ h9 => h9) rfl dX3_fewestWrong_21 ?_
    obtain rfl := Option.some.inj hf
    exact hret _ _ _ _ _ dX3_fewestWrong_24 rfl hP hD hS
set_option maxHeartbeats 4000000 in
set_option maxRecDepth 100000 in
theorem k_X3_fewestWrong (l : Launch) (dC : Nat → ClassId) (dI : Nat → Nat → Nat) (cI cZ cJ cA : ClassId) (h0 : Nat) (a : Nat → Nat) (sz : Nat) (N : Nat) (x7 : Int32) (x8 : Int32) (x12 : Int32) (x13 : Int32) (f0 : (Nat → Int32)) (f1 : (Nat → Int32)) (f2 : (Nat → Int32)) (f3 : (Nat → Int32)) (f4 : (Nat → Int32)) (f5 : (Nat → Int32)) (f6 : (Nat → Int32)) (f9 : (Nat → Int32)) (f10 : (Nat → Int32)) (f11 : (Nat → Int64)) (o : (Int32 × Int32 × (Nat → Int32) × (Nat → Int32))) (hf : q_X3_fewestWrong N x7 x8 x13 f0 f1 f2 f3 f4 f5 f6 f9 f10 = some o) : Met l yX3_fewestWrong wsX3_fewestWrong ({ frames := 20, cells := 0, slots := 0, locals := 330 } : Room) (z_Pre dC dI (z_ty cI cZ cJ cA) [.ref h0] sz (wX3 cI cZ cJ cA h0 a x7 x8 x12 x13 f0 f1 f2 f3 f4 f5 f6 f9 f10 f11)) (z_Pi dC dI o.1 (wX3 cI cZ cJ cA h0 a x7 x8 x12 o.2.1 f0 f1 f2 f3 f4 f5 f6 o.2.2.1 o.2.2.2 f11) sz (wX3 cI cZ cJ cA h0 a x7 x8 x12 x13 f0 f1 f2 f3 f4 f5 f6 f9 f10 f11)) 0 0 (va_A (wX3 cI cZ cJ cA h0 a x7 x8 x12 x13 f0 f1 f2 f3 f4 f5 f6 f9 f10 f11) sz) := by
  refine Met.ofW (cc := cX3_fewestWrong) (maxL := 1) (ret := (some .int)) (by decide) rfl ?_
  intro p e s m args below meth c s₁ B hml hv
  obtain ⟨rfl, hsz, hP, hK, hD0, hN⟩ := hv
  subst hsz
  have hl := lv_entry ([.ref h0]) (n := 1) (Nat.le_of_ble_eq_true rfl)
  rw [lg_entry_eq]
  refine b_X3_fewestWrong N ⟨⟨B.exec, B.bytes, hml, findClass_of_methodNamed B.named, atoms_spec (ws := wsX3_fewestWrong) B.pre⟩, Nat.le_refl _, Nat.le_refl _, fun q h => Or.inr h, hN, hK⟩ hf hP hD0.self va_S.rf hl (fun pc H locs ls r hd hr hP hD hS => ?_)
  subst hr
  exact W.iret B.exec B.bytes B.returns (fun t ht hW => ⟨⟨_, (), rfl, rfl, by rw [ht]; exact hP, hD⟩, hS.F ht⟩) hS.2.2 hd

def q_X0_begin (N : Nat) (v1 : Int32) (x2 : Int32) (x3 : Int32) (x4 : Int32) (f0 : (Nat → Int32)) (f1 : (Nat → Int32)) : Option (Int32 × Int32 × Int32 × Int32 × (Nat → Int32) × (Nat → Int32)) :=
  (if v1 < 1 then
   (some (0, x2, x3, x4, f0, f1))
  else
   (if v1 ≤ 4 then
    (Option.bind (q_J7_fill_53178 N 4 0 f0) (fun o3 =>
    (Option.bind (q_J7_fill_53178 N 4 0 f1) (fun o4 =>
    (some (1, v1, 0, (-1), o3, o4))))))
   else
    (some (0, x2, x3, x4, f0, f1))))
set_option maxHeartbeats 4000000 in
set_option maxRecDepth 100000 in
theorem b_X0_begin {p : Program} {l : Launch} {e : Env} {R : Room} {s : State} {m : MethodId} {args : Array Value} {below : List Frame} {meth : Method} {c : Code} {Q : State → Prop} {A : Nat → Prop} {dC : Nat → ClassId} {dI : Nat → Nat → Nat} {cI cZ cJ cA : ClassId} {h0 : Nat} {a : Nat → Nat} (N : Nat) (C0 : z_Cx p s m args c cX0_begin 2 wsX0_begin RX0 R 1 23 A dC dI (z_ty cI cZ cJ cA)) {v1 : Int32} {x2 : Int32} {x3 : Int32} {x4 : Int32} {f0 : (Nat → Int32)} {f1 : (Nat → Int32)} {o : (Int32 × Int32 × Int32 × Int32 × (Nat → Int32) × (Nat → Int32))} {H : Heap} {locs : List Loc} {ls : Array Slot} (hf : q_X0_begin N v1 x2 x3 x4 f0 f1 = some o) (hP : va_P (dC, dI) vwCl (wX0 cI cZ cJ cA h0 a x2 x3 x4 f0 f1) H) (hD : va_D A (wX0 cI cZ cJ cA h0 a x2 x3 x4 f0 f1)) (hS : va_S A s.heap H locs) (hl : lv_has ls 2 [(0, .ref h0), (1, .int v1)])
    (hret : ∀ (pc : Nat) (H : Heap) (locs : List Loc) (ls : Array Slot) (r : Int32), decode cX0_begin pc = .ok (.ireturn, 1) → r = o.1 → narrow .boolean (.int r) = .int r → va_P (dC, dI) vwCl (wX0 cI cZ cJ cA h0 a o.2.1 o.2.2.1 o.2.2.2.1 o.2.2.2.2.1 o.2.2.2.2.2) H → va_D A (wX0 cI cZ cJ cA h0 a o.2.1 o.2.2.1 o.2.2.2.1 o.2.2.2.2.1 o.2.2.2.2.2) → va_S A s.heap H locs → W p l e R s m args below meth c H locs 0 0 Q (F0 m pc ls [.int r])) :
    W p l e R s m args below meth c H locs 0 0 Q (F0 m 0 ls []) := by
  obtain ⟨⟨hx, hb, hml, hown, hts⟩, hRf, hRl, hA, hN, hK⟩ := C0
  unfold q_X0_begin at hf
  refine lv_iload_n hx hb dX0_begin_0 rfl (lv_at hl 1 rfl) ?_
  refine lv_iconst (v := 1) hx hb dX0_begin_1 (by decide) ?_
  refine lv_icmp_lt (tgt := 10) hx hb dX0_begin_2 (by decide) (fun c1 => ?_) (fun c1 => ?_)
  · replace hf := z_ip hf c1
    refine lv_iconst (v := 0) hx hb dX0_begin_10 (by decide) ?_
    obtain rfl := Option.some.inj hf
    exact hret _ _ _ _ _ dX0_begin_11 rfl rfl hP hD hS
  · replace hf := z_im hf c1
    refine lv_iload_n hx hb dX0_begin_5 rfl (lv_at hl 1 rfl) ?_
    refine lv_iconst (v := 4) hx hb dX0_begin_6 (by decide) ?_
    refine lv_icmp_le (tgt := 12) hx hb dX0_begin_7 (by decide) (fun c2 => ?_) (fun c2 => ?_)
    · replace hf := z_ip hf c2
      refine lv_aload_n hx hb dX0_begin_12 rfl (lv_at hl 0 rfl) ?_
      refine lv_iload_n hx hb dX0_begin_13 rfl (lv_at hl 1 rfl) ?_
      refine va_put (D := (dC, dI)) (ci := 0) (v := .int v1) (ty := .int) (C := RX0) (T := TX0) (N := 5) hx hb hts (fun w hw => List.mem_cons_of_mem _ (List.mem_append_right _ hw)) tyX0 tyX0_ok nmX0 hown hK hP hD hS 0 rfl rfl 2 (by decide) (hts (.fieldLink RX0 18 "OldStadium$FiveInOne" "athletes" "I") (List.mem_of_getElem? (i := 1) rfl)) (fun _ h9 => h9) rfl (by decide +kernel) rfl rfl (Nat.le_of_ble_eq_true rfl) dX0_begin_14 (fun H locs hP hD hS => ?_)
      replace hP : va_P (dC, dI) vwCl (wX0 cI cZ cJ cA h0 a v1 x3 x4 f0 f1) H := hP
      replace hD : va_D A (wX0 cI cZ cJ cA h0 a v1 x3 x4 f0 f1) := hD
      refine lv_aload_n hx hb dX0_begin_17 rfl (lv_at hl 0 rfl) ?_
      refine lv_iconst (v := 0) hx hb dX0_begin_18 (by decide) ?_
      refine va_put (D := (dC, dI)) (ci := 0) (v := .int 0) (ty := .int) (C := RX0) (T := TX0) (N := 5) hx hb hts (fun w hw => List.mem_cons_of_mem _ (List.mem_append_right _ hw)) tyX0 tyX0_ok nmX0 hown hK hP hD hS 0 rfl rfl 3 (by decide) (hts (.fieldLink RX0 22 "OldStadium$FiveInOne" "told" "I") (List.mem_of_getElem? (i := 2) rfl)) (fun _ h9 => h9) rfl (by decide +kernel) rfl rfl (Nat.le_of_ble_eq_true rfl) dX0_begin_19 (fun H locs hP hD hS => ?_)
      replace hP : va_P (dC, dI) vwCl (wX0 cI cZ cJ cA h0 a v1 0 x4 f0 f1) H := hP
      replace hD : va_D A (wX0 cI cZ cJ cA h0 a v1 0 x4 f0 f1) := hD
      refine lv_aload_n hx hb dX0_begin_22 rfl (lv_at hl 0 rfl) ?_
      refine lv_iconst (v := (-1)) hx hb dX0_begin_23 (by decide) ?_
      refine va_put (D := (dC, dI)) (ci := 0) (v := .int (-1)) (ty := .int) (C := RX0) (T := TX0) (N := 5) hx hb hts (fun w hw => List.mem_cons_of_mem _ (List.mem_append_right _ hw)) tyX0 tyX0_ok nmX0 hown hK hP hD hS 0 rfl rfl 4 (by decide) (hts (.fieldLink RX0 25 "OldStadium$FiveInOne" "champion" "I") (List.mem_of_getElem? (i := 3) rfl)) (fun _ h9 => h9) rfl (by decide +kernel) rfl rfl (Nat.le_of_ble_eq_true rfl) dX0_begin_24 (fun H locs hP hD hS => ?_)
      replace hP : va_P (dC, dI) vwCl (wX0 cI cZ cJ cA h0 a v1 0 (-1) f0 f1) H := hP
      replace hD : va_D A (wX0 cI cZ cJ cA h0 a v1 0 (-1) f0 f1) := hD
      refine lv_aload_n hx hb dX0_begin_27 rfl (lv_at hl 0 rfl) ?_
      refine va_get (D := (dC, dI)) (ci := 0) (v := .ref (a 0)) (C := RX0) (T := TX0) (N := 5) hx hb hts (fun w hw => List.mem_cons_of_mem _ (List.mem_append_right _ hw)) hown hK hP 0 rfl rfl 0 (by decide) (hts (.fieldLink RX0 11 "OldStadium$FiveInOne" "wins" "[I") (List.mem_of_getElem? (i := 4) rfl)) (fun _ h9 => h9) rfl dX0_begin_28 ?_
      refine lv_iconst (v := 0) hx hb dX0_begin_31 (by decide) ?_
      obtain ⟨o3, ho3, hf1⟩ := z_ib hf
      replace hf := hf1
      clear hf1
      refine z_Sv3 (As := [.ref (a 0), .int 0]) (rest := []) (pre := ((wX0 cI cZ cJ cA h0 a v1 0 (-1) f0 f1)).take 1) (wc := wJFI cI cZ cJ cA (a 0) 4 f0) (post := ((wX0 cI cZ cJ cA h0 a v1 0 (-1) f0 f1)).drop 2) ⟨hx, hb, hml, hown, hts⟩ (k_J7_fill_53178 l dC dI cI cZ cJ cA (a 0) 4 H.size N 0 f0 o3 ho3) (va_cwS 2 hts gX0_begin_J7_fill_53178 rfl rfl rfl (by decide +kernel) ⟨Nat.le_trans (Nat.le_of_ble_eq_true rfl) hRf, Nat.le_trans (Nat.le_of_ble_eq_true rfl) hRl⟩) hK hP hD hS hA hN rfl hl.1 rfl (Nat.le_of_ble_eq_true rfl) dX0_begin_32 (fun H locs hP hD hS => ?_)
      replace hP : va_P (dC, dI) vwCl (wX0 cI cZ cJ cA h0 a v1 0 (-1) o3 f1) H := hP
      replace hD : va_D A (wX0 cI cZ cJ cA h0 a v1 0 (-1) o3 f1) := hD
      refine lv_aload_n hx hb dX0_begin_35 rfl (lv_at hl 0 rfl) ?_
      refine va_get (D := (dC, dI)) (ci := 0) (v := .ref (a 1)) (C := RX0) (T := TX0) (N := 5) hx hb hts (fun w hw => List.mem_cons_of_mem _ (List.mem_append_right _ hw)) hown hK hP 0 rfl rfl 1 (by decide) (hts (.fieldLink RX0 15 "OldStadium$FiveInOne" "sums" "[I") (List.mem_of_getElem? (i := 5) rfl)) (fun _ h9 => h9) rfl dX0_begin_36 ?_
      refine lv_iconst (v := 0) hx hb dX0_begin_39 (by decide) ?_
      obtain ⟨o4, ho4, hf1⟩ := z_ib hf
      replace hf := hf1
      clear hf1
      refine z_Sv3 (As := [.ref (a 1), .int 0]) (rest := []) (pre := ((wX0 cI cZ cJ cA h0 a v1 0 (-1) o3 f1)).take 2) (wc := wJFI cI cZ cJ cA (a 1) 4 f1) (post := ((wX0 cI cZ cJ cA h0 a v1 0 (-1) o3 f1)).drop 3) ⟨hx, hb, hml, hown, hts⟩ (k_J7_fill_53178 l dC dI cI cZ cJ cA (a 1) 4 H.size N 0 f1 o4 ho4) (va_cwS 2 hts gX0_begin_J7_fill_53178 rfl rfl rfl (by decide +kernel) ⟨Nat.le_trans (Nat.le_of_ble_eq_true rfl) hRf, Nat.le_trans (Nat.le_of_ble_eq_true rfl) hRl⟩) hK hP hD hS hA hN rfl hl.1 rfl (Nat.le_of_ble_eq_true rfl) dX0_begin_40 (fun H locs hP hD hS => ?_)
      replace hP : va_P (dC, dI) vwCl (wX0 cI cZ cJ cA h0 a v1 0 (-1) o3 o4) H := hP
      replace hD : va_D A (wX0 cI cZ cJ cA h0 a v1 0 (-1) o3 o4) := hD
      refine lv_iconst (v := 1) hx hb dX0_begin_43 (by decide) ?_
      obtain rfl := Option.some.inj hf
      exact hret _ _ _ _ _ dX0_begin_44 rfl rfl hP hD hS
    · replace hf := z_im hf c2
      refine lv_iconst (v := 0) hx hb dX0_begin_10 (by decide) ?_
      obtain rfl := Option.some.inj hf
      exact hret _ _ _ _ _ dX0_begin_11 rfl rfl hP hD hS
set_option maxHeartbeats 4000000 in
set_option maxRecDepth 100000 in
theorem k_X0_begin (l : Launch) (dC : Nat → ClassId) (dI : Nat → Nat → Nat) (cI cZ cJ cA : ClassId) (h0 : Nat) (a : Nat → Nat) (sz : Nat) (N : Nat) (v1 : Int32) (x2 : Int32) (x3 : Int32) (x4 : Int32) (f0 : (Nat → Int32)) (f1 : (Nat → Int32)) (o : (Int32 × Int32 × Int32 × Int32 × (Nat → Int32) × (Nat → Int32))) (hf : q_X0_begin N v1 x2 x3 x4 f0 f1 = some o) : Met l yX0_begin wsX0_begin ({ frames := 1, cells := 0, slots := 0, locals := 23 } : Room) (z_Pre dC dI (z_ty cI cZ cJ cA) [.ref h0, .int v1] sz (wX0 cI cZ cJ cA h0 a x2 x3 x4 f0 f1)) (z_Pi dC dI o.1 (wX0 cI cZ cJ cA h0 a o.2.1 o.2.2.1 o.2.2.2.1 o.2.2.2.2.1 o.2.2.2.2.2) sz (wX0 cI cZ cJ cA h0 a x2 x3 x4 f0 f1)) 0 0 (va_A (wX0 cI cZ cJ cA h0 a x2 x3 x4 f0 f1) sz) := by
  refine Met.ofW (cc := cX0_begin) (maxL := 2) (ret := (some .boolean)) (by decide) rfl ?_
  intro p e s m args below meth c s₁ B hml hv
  obtain ⟨rfl, hsz, hP, hK, hD0, hN⟩ := hv
  subst hsz
  have hl := lv_entry ([.ref h0, .int v1]) (n := 2) (Nat.le_of_ble_eq_true rfl)
  rw [lg_entry_eq]
  refine b_X0_begin N ⟨⟨B.exec, B.bytes, hml, findClass_of_methodNamed B.named, atoms_spec (ws := wsX0_begin) B.pre⟩, Nat.le_refl _, Nat.le_refl _, fun q h => Or.inr h, hN, hK⟩ hf hP hD0.self va_S.rf hl (fun pc H locs ls r hd hr hn hP hD hS => ?_)
  subst hr
  exact W.zret B.exec B.bytes B.returns hn (fun t ht hW => ⟨⟨_, (), rfl, rfl, by rw [ht]; exact hP, hD⟩, hS.F ht⟩) hS.2.2 hd
def q_X0_isOrder_L7 (N : Nat) (x2 : Int32) : Nat → Int32 → Int32 → Int32 → Option (Sum Int32 Int32)
  | 0, _, _, _ => none
  | n + 1, v2, v3, v4 =>
    (if x2 ≤ v4 then
     (some (Sum.inr v2))
    else
     (if (z_rem v2 10) < 0 then
      (some (Sum.inl 0))
     else
      (if x2 ≤ (z_rem v2 10) then
       (some (Sum.inl 0))
      else
       (Option.bind (q_X4_hasBit N v3 (z_rem v2 10)) (fun o4 =>
       (if o4 = 0 then
        (Option.bind (some ((v3 ||| ((1 : Int32) <<< ((z_rem v2 10) &&& 31))) : Int32)) (fun n6 =>
        (q_X0_isOrder_L7 N x2 n (v2 / 10) n6 (v4 + 1))))
       else
        (some (Sum.inl 0))))))))
set_option maxHeartbeats 4000000 in
set_option maxRecDepth 100000 in
theorem b_X0_isOrder_L7 {p : Program} {l : Launch} {e : Env} {R : Room} {s : State} {m : MethodId} {args : Array Value} {below : List Frame} {meth : Method} {c : Code} {Q : State → Prop} {A : Nat → Prop} {dC : Nat → ClassId} {dI : Nat → Nat → Nat} {cI cZ cJ cA : ClassId} {h0 : Nat} {a : Nat → Nat} (N : Nat) (C0 : z_Cx p s m args c cX0_isOrder 6 wsX0_isOrder RX0 R 1 21 A dC dI (z_ty cI cZ cJ cA)) : ∀ (n : Nat) {v1 : Int32} {v2 : Int32} {v3 : Int32} {v4 : Int32} {x2 : Int32} {x3 : Int32} {x4 : Int32} {f0 : (Nat → Int32)} {f1 : (Nat → Int32)} {o : (Sum Int32 Int32)} {H : Heap} {locs : List Loc} {ls : Array Slot}, q_X0_isOrder_L7 N x2 n v2 v3 v4 = some o → va_P (dC, dI) vwCl (wX0 cI cZ cJ cA h0 a x2 x3 x4 f0 f1) H → va_D A (wX0 cI cZ cJ cA h0 a x2 x3 x4 f0 f1) → va_S A s.heap H locs → lv_has ls 6 [(0, .ref h0), (1, .int v1), (2, .int v2), (3, .int v3), (4, .int v4)] →
    (∀ (t : Int32), o = Sum.inl t → ∀ (pc : Nat) (H : Heap) (locs : List Loc) (ls : Array Slot) (r : Int32), decode cX0_isOrder pc = .ok (.ireturn, 1) → r = t → narrow .boolean (.int r) = .int r → va_P (dC, dI) vwCl (wX0 cI cZ cJ cA h0 a x2 x3 x4 f0 f1) H → va_D A (wX0 cI cZ cJ cA h0 a x2 x3 x4 f0 f1) → va_S A s.heap H locs → W p l e R s m args below meth c H locs 0 0 Q (F0 m pc ls [.int r])) →
    (∀ (t : Int32) (H : Heap) (locs : List Loc) (ls : Array Slot), o = Sum.inr t → va_P (dC, dI) vwCl (wX0 cI cZ cJ cA h0 a x2 x3 x4 f0 f1) H → va_D A (wX0 cI cZ cJ cA h0 a x2 x3 x4 f0 f1) → va_S A s.heap H locs → lv_has ls 6 [(1, .int v1), (2, .int t)] → W p l e R s m args below meth c H locs 0 0 Q (F0 m 65 ls [])) →
    W p l e R s m args below meth c H locs 0 0 Q (F0 m 7 ls []) := by
  obtain ⟨⟨hx, hb, hml, hown, hts⟩, hRf, hRl, hA, hN, hK⟩ := C0
  intro n
  induction n with
  | zero =>
    intro v1 v2 v3 v4 x2 x3 x4 f0 f1 o H locs ls hf
    cases hf
  | succ n ih =>
    intro v1 v2 v3 v4 x2 x3 x4 f0 f1 o H locs ls hf hP hD hS hl hret hexit
    rw [q_X0_isOrder_L7] at hf
    refine lv_iload hx hb dX0_isOrder_7 (lv_at hl 4 rfl) ?_
    refine lv_aload_n hx hb dX0_isOrder_9 rfl (lv_at hl 0 rfl) ?_
    refine va_get (D := (dC, dI)) (ci := 0) (v := .int x2) (C := RX0) (T := TX0) (N := 5) hx hb hts (fun w hw => List.mem_cons_of_mem _ (List.mem_append_right _ hw)) hown hK hP 0 rfl rfl 2 (by decide) (hts (.fieldLink RX0 18 "OldStadium$FiveInOne" "athletes" "I") (List.mem_of_getElem? (i := 1) rfl)) (fun _ h9 => h9) rfl dX0_isOrder_10 ?_
    refine lv_icmp_ge (tgt := 65) hx hb dX0_isOrder_13 (by decide) (fun c1 => ?_) (fun c1 => ?_)
    · replace hf := z_ip hf c1
      obtain rfl := Option.some.inj hf
      exact hexit _ _ _ _ rfl hP hD hS (lv_sub hl [1, 2] rfl)
    · replace hf := z_im hf c1
      refine lv_iload_n hx hb dX0_isOrder_16 rfl (lv_at hl 2 rfl) ?_
      refine lv_bipush (v := 10) hx hb dX0_isOrder_17 (by decide) ?_
      refine z_irem hx hb dX0_isOrder_19 (by decide) ?_
      refine lv_istore (lv' := [(5, .int (z_rem v2 10)), (0, .ref h0), (1, .int v1), (2, .int v2), (3, .int v3), (4, .int v4)]) hx hb dX0_isOrder_20 hl (by decide) rfl (fun ls hl => ?_)
      refine lv_iload hx hb dX0_isOrder_22 (lv_at hl 0 rfl) ?_
      refine lv_if_lt (tgt := 45) hx hb dX0_isOrder_24 (by decide) (fun c2 => ?_) (fun c2 => ?_)
      · replace hf := z_ip hf c2
        refine lv_iconst (v := 0) hx hb dX0_isOrder_45 (by decide) ?_
        obtain rfl := Option.some.inj hf
        exact hret _ rfl _ _ _ _ _ dX0_isOrder_46 rfl rfl hP hD hS
      · replace hf := z_im hf c2
        refine lv_iload hx hb dX0_isOrder_27 (lv_at hl 0 rfl) ?_
        refine lv_aload_n hx hb dX0_isOrder_29 rfl (lv_at hl 1 rfl) ?_
        refine va_get (D := (dC, dI)) (ci := 0) (v := .int x2) (C := RX0) (T := TX0) (N := 5) hx hb hts (fun w hw => List.mem_cons_of_mem _ (List.mem_append_right _ hw)) hown hK hP 0 rfl rfl 2 (by decide) (hts (.fieldLink RX0 18 "OldStadium$FiveInOne" "athletes" "I") (List.mem_of_getElem? (i := 1) rfl)) (fun _ h9 => h9) rfl dX0_isOrder_30 ?_
        refine lv_icmp_ge (tgt := 45) hx hb dX0_isOrder_33 (by decide) (fun c3 => ?_) (fun c3 => ?_)
        · replace hf := z_ip hf c3
          refine lv_iconst (v := 0) hx hb dX0_isOrder_45 (by decide) ?_
          obtain rfl := Option.some.inj hf
          exact hret _ rfl _ _ _ _ _ dX0_isOrder_46 rfl rfl hP hD hS
        · replace hf := z_im hf c3
          refine lv_iload_n hx hb dX0_isOrder_36 rfl (lv_at hl 4 rfl) ?_
          refine lv_iload hx hb dX0_isOrder_37 (lv_at hl 0 rfl) ?_
          obtain ⟨o4, ho4, hf1⟩ := z_ib hf
          replace hf := hf1
          clear hf1
          refine z_SN0 (As := [.int v3, .int (z_rem v2 10)]) (rest := []) ⟨hx, hb, hml, hown, hts⟩ (k_X4_hasBit l dC dI cI cZ cJ cA H.size N v3 (z_rem v2 10) o4 ho4) ⟨va_cnB 2 hts gX0_isOrder_X4_hasBit_n42 rfl rfl rfl (hN _ (List.mem_of_getElem? (i := 6) rfl)) (hts (.initialized RX4) (List.mem_of_getElem? (i := 3) rfl)) (by decide +kernel) ⟨Nat.le_trans (Nat.le_of_ble_eq_true rfl) hRf, Nat.le_trans (Nat.le_of_ble_eq_true rfl) hRl⟩, (hts (.static yX4_hasBit) (List.mem_of_getElem? (i := 2) rfl)), trivial⟩ hK hP hS hA hN rfl hl.1 rfl (Nat.le_of_ble_eq_true rfl) dX0_isOrder_39 (fun H locs hP hS => ?_)
          refine lv_if_eq (tgt := 47) hx hb dX0_isOrder_42 (by decide) (fun c5 => ?_) (fun c5 => ?_)
          · replace hf := z_ip hf c5
            refine lv_iload_n hx hb dX0_isOrder_47 rfl (lv_at hl 4 rfl) ?_
            refine lv_iconst (v := 1) hx hb dX0_isOrder_48 (by decide) ?_
            refine lv_iload hx hb dX0_isOrder_49 (lv_at hl 0 rfl) ?_
            refine lv_ishl hx hb dX0_isOrder_51 ?_
            refine lv_ior hx hb dX0_isOrder_52 ?_
            obtain ⟨n6, hn6, hf1⟩ := z_ib hf
            replace hf := hf1
            clear hf1
            refine lv_topi (fun y9 ey9 => ?_)
            obtain rfl : n6 = y9 := (Option.some.inj hn6).symm.trans ey9.symm
            refine lv_istore_n (lv' := [(3, .int n6), (5, .int (z_rem v2 10)), (0, .ref h0), (1, .int v1), (2, .int v2), (4, .int v4)]) hx hb dX0_isOrder_53 rfl hl (by decide) rfl (fun ls hl => ?_)
            refine lv_iload_n hx hb dX0_isOrder_54 rfl (lv_at hl 4 rfl) ?_
            refine lv_bipush (v := 10) hx hb dX0_isOrder_55 (by decide) ?_
            refine lv_idiv hx hb dX0_isOrder_57 (by decide) ?_
            refine lv_istore_n (lv' := [(2, .int (v2 / 10)), (3, .int n6), (5, .int (z_rem v2 10)), (0, .ref h0), (1, .int v1), (4, .int v4)]) hx hb dX0_isOrder_58 rfl hl (by decide) rfl (fun ls hl => ?_)
            refine lv_iinc (v := (v4 + 1)) (lv' := [(4, .int (v4 + 1)), (2, .int (v2 / 10)), (3, .int n6), (5, .int (z_rem v2 10)), (0, .ref h0), (1, .int v1)]) hx hb dX0_isOrder_59 hl (k := 5) rfl rfl (by decide) rfl (fun ls hl => ?_)
            refine lv_goto (tgt := 7) hx hb dX0_isOrder_62 (by decide) ?_
            exact ih hf hP hD hS (lv_sub hl [4, 5, 1, 2, 0] rfl) hret hexit
          · replace hf := z_im hf c5
            refine lv_iconst (v := 0) hx hb dX0_isOrder_45 (by decide) ?_
            obtain rfl := Option.some.inj hf
            exact hret _ rfl _ _ _ _ _ dX0_isOrder_46 rfl rfl hP hD hS
def q_X0_isOrder (N : Nat) (v1 : Int32) (x2 : Int32) : Option Int32 :=
  (Option.bind (q_X0_isOrder_L7 N x2 N v1 0 0) (Sum.elim (fun r3 => (some r3)) (fun s2 =>
  (if v1 < 0 then
   (some 0)
  else
   (if s2 = 0 then
    (some 1)
   else
    (some 0))))))
set_option maxHeartbeats 4000000 in
set_option maxRecDepth 100000 in
theorem b_X0_isOrder {p : Program} {l : Launch} {e : Env} {R : Room} {s : State} {m : MethodId} {args : Array Value} {below : List Frame} {meth : Method} {c : Code} {Q : State → Prop} {A : Nat → Prop} {dC : Nat → ClassId} {dI : Nat → Nat → Nat} {cI cZ cJ cA : ClassId} {h0 : Nat} {a : Nat → Nat} (N : Nat) (C0 : z_Cx p s m args c cX0_isOrder 6 wsX0_isOrder RX0 R 1 21 A dC dI (z_ty cI cZ cJ cA)) {v1 : Int32} {x2 : Int32} {x3 : Int32} {x4 : Int32} {f0 : (Nat → Int32)} {f1 : (Nat → Int32)} {o : Int32} {H : Heap} {locs : List Loc} {ls : Array Slot} (hf : q_X0_isOrder N v1 x2 = some o) (hP : va_P (dC, dI) vwCl (wX0 cI cZ cJ cA h0 a x2 x3 x4 f0 f1) H) (hD : va_D A (wX0 cI cZ cJ cA h0 a x2 x3 x4 f0 f1)) (hS : va_S A s.heap H locs) (hl : lv_has ls 6 [(0, .ref h0), (1, .int v1)])
    (hret : ∀ (pc : Nat) (H : Heap) (locs : List Loc) (ls : Array Slot) (r : Int32), decode cX0_isOrder pc = .ok (.ireturn, 1) → r = o → narrow .boolean (.int r) = .int r → va_P (dC, dI) vwCl (wX0 cI cZ cJ cA h0 a x2 x3 x4 f0 f1) H → va_D A (wX0 cI cZ cJ cA h0 a x2 x3 x4 f0 f1) → va_S A s.heap H locs → W p l e R s m args below meth c H locs 0 0 Q (F0 m pc ls [.int r])) :
    W p l e R s m args below meth c H locs 0 0 Q (F0 m 0 ls []) := by
  obtain ⟨⟨hx, hb, hml, hown, hts⟩, hRf, hRl, hA, hN, hK⟩ := C0
  unfold q_X0_isOrder at hf
  refine lv_iload_n hx hb dX0_isOrder_0 rfl (lv_at hl 1 rfl) ?_
  refine lv_istore_n (lv' := [(2, .int v1), (0, .ref h0), (1, .int v1)]) hx hb dX0_isOrder_1 rfl hl (by decide) rfl (fun ls hl => ?_)
  refine lv_iconst (v := 0) hx hb dX0_isOrder_2 (by decide) ?_
  refine lv_istore_n (lv' := [(3, .int 0), (2, .int v1), (0, .ref h0), (1, .int v1)]) hx hb dX0_isOrder_3 rfl hl (by decide) rfl (fun ls hl => ?_)
  refine lv_iconst (v := 0) hx hb dX0_isOrder_4 (by decide) ?_
  refine lv_istore (lv' := [(4, .int 0), (3, .int 0), (2, .int v1), (0, .ref h0), (1, .int v1)]) hx hb dX0_isOrder_5 hl (by decide) rfl (fun ls hl => ?_)
  obtain ⟨t1, ht1, hf1⟩ := z_ib hf
  replace hf := hf1
  clear hf1
  refine b_X0_isOrder_L7 N ⟨⟨hx, hb, hml, hown, hts⟩, hRf, hRl, hA, hN, hK⟩ N ht1 hP hD hS (lv_sub hl [3, 4, 2, 1, 0] rfl) (fun r3 e1 pc H locs ls r0 hd hr hn hP hD hS => ?_) (fun s2 H locs ls e1 hP hD hS hl => ?_)
  · subst e1
    have hf := z_sl hf
    obtain rfl := Option.some.inj hf
    exact hret pc H locs ls r0 hd hr hn hP hD hS
  subst e1
  replace hf := z_sr hf
  refine lv_iload_n hx hb dX0_isOrder_65 rfl (lv_at hl 0 rfl) ?_
  refine lv_if_lt (tgt := 77) hx hb dX0_isOrder_66 (by decide) (fun c4 => ?_) (fun c4 => ?_)
  · replace hf := z_ip hf c4
    refine lv_iconst (v := 0) hx hb dX0_isOrder_77 (by decide) ?_
    obtain rfl := Option.some.inj hf
    exact hret _ _ _ _ _ dX0_isOrder_78 rfl rfl hP hD hS
  · replace hf := z_im hf c4
    refine lv_iload_n hx hb dX0_isOrder_69 rfl (lv_at hl 1 rfl) ?_
    refine lv_if_ne (tgt := 77) hx hb dX0_isOrder_70 (by decide) (fun c5 => ?_) (fun c5 => ?_)
    · replace hf := z_im hf c5
      refine lv_iconst (v := 0) hx hb dX0_isOrder_77 (by decide) ?_
      obtain rfl := Option.some.inj hf
      exact hret _ _ _ _ _ dX0_isOrder_78 rfl rfl hP hD hS
    · replace hf := z_ip hf c5
      refine lv_iconst (v := 1) hx hb dX0_isOrder_73 (by decide) ?_
      refine lv_goto (tgt := 78) hx hb dX0_isOrder_74 (by decide) ?_
      obtain rfl := Option.some.inj hf
      exact hret _ _ _ _ _ dX0_isOrder_78 rfl rfl hP hD hS
set_option maxHeartbeats 4000000 in
set_option maxRecDepth 100000 in
theorem k_X0_isOrder (l : Launch) (dC : Nat → ClassId) (dI : Nat → Nat → Nat) (cI cZ cJ cA : ClassId) (h0 : Nat) (a : Nat → Nat) (sz : Nat) (N : Nat) (v1 : Int32) (x2 : Int32) (x3 : Int32) (x4 : Int32) (f0 : (Nat → Int32)) (f1 : (Nat → Int32)) (o : Int32) (hf : q_X0_isOrder N v1 x2 = some o) : Met l yX0_isOrder wsX0_isOrder ({ frames := 1, cells := 0, slots := 0, locals := 21 } : Room) (z_Pre dC dI (z_ty cI cZ cJ cA) [.ref h0, .int v1] sz (wX0 cI cZ cJ cA h0 a x2 x3 x4 f0 f1)) (z_Pi dC dI o (wX0 cI cZ cJ cA h0 a x2 x3 x4 f0 f1) sz (wX0 cI cZ cJ cA h0 a x2 x3 x4 f0 f1)) 0 0 (va_A (wX0 cI cZ cJ cA h0 a x2 x3 x4 f0 f1) sz) := by
  refine Met.ofW (cc := cX0_isOrder) (maxL := 6) (ret := (some .boolean)) (by decide) rfl ?_
  intro p e s m args below meth c s₁ B hml hv
  obtain ⟨rfl, hsz, hP, hK, hD0, hN⟩ := hv
  subst hsz
  have hl := lv_entry ([.ref h0, .int v1]) (n := 6) (Nat.le_of_ble_eq_true rfl)
  rw [lg_entry_eq]
  refine b_X0_isOrder N ⟨⟨B.exec, B.bytes, hml, findClass_of_methodNamed B.named, atoms_spec (ws := wsX0_isOrder) B.pre⟩, Nat.le_refl _, Nat.le_refl _, fun q h => Or.inr h, hN, hK⟩ hf hP hD0.self va_S.rf hl (fun pc H locs ls r hd hr hn hP hD hS => ?_)
  subst hr
  exact W.zret B.exec B.bytes B.returns hn (fun t ht hW => ⟨⟨_, (), rfl, rfl, by rw [ht]; exact hP, hD⟩, hS.F ht⟩) hS.2.2 hd
def q_X0_isAhead (N : Nat) (v0 : Int32) (v1 : Int32) (v2 : Int32) (v3 : Int32) (v4 : Int32) (v5 : Int32) : Option Int32 :=
  (if v1 = v4 then
   (if v2 = v5 then
    (if v3 ≤ v0 then
     (some 0)
    else
     (some 1))
   else
    (if v5 ≤ v2 then
     (some 0)
    else
     (some 1)))
  else
   (if v1 ≤ v4 then
    (some 0)
   else
    (some 1)))
set_option maxHeartbeats 4000000 in
set_option maxRecDepth 100000 in
theorem b_X0_isAhead {p : Program} {l : Launch} {e : Env} {R : Room} {s : State} {m : MethodId} {args : Array Value} {below : List Frame} {meth : Method} {c : Code} {Q : State → Prop} {A : Nat → Prop} {dC : Nat → ClassId} {dI : Nat → Nat → Nat} {cI cZ cJ cA : ClassId} (N : Nat) (C0 : z_Cx p s m args c cX0_isAhead 6 wsX0_isAhead RX0 R 0 0 A dC dI (z_ty cI cZ cJ cA)) {v0 : Int32} {v1 : Int32} {v2 : Int32} {v3 : Int32} {v4 : Int32} {v5 : Int32} {o : Int32} {H : Heap} {locs : List Loc} {ls : Array Slot} (hf : q_X0_isAhead N v0 v1 v2 v3 v4 v5 = some o) (hP : va_P (dC, dI) vwCl ([] : va_W) H) (hD : va_D A ([] : va_W)) (hS : va_S A s.heap H locs) (hl : lv_has ls 6 [(0, .int v0), (1, .int v1), (2, .int v2), (3, .int v3), (4, .int v4), (5, .int v5)])
    (hret : ∀ (pc : Nat) (H : Heap) (locs : List Loc) (ls : Array Slot) (r : Int32), decode cX0_isAhead pc = .ok (.ireturn, 1) → r = o → narrow .boolean (.int r) = .int r → va_P (dC, dI) vwCl ([] : va_W) H → va_D A ([] : va_W) → va_S A s.heap H locs → W p l e R s m args below meth c H locs 0 0 Q (F0 m pc ls [.int r])) :
    W p l e R s m args below meth c H locs 0 0 Q (F0 m 0 ls []) := by
  obtain ⟨⟨hx, hb, hml, hown, hts⟩, hRf, hRl, hA, hN, hK⟩ := C0
  unfold q_X0_isAhead at hf
  refine lv_iload_n hx hb dX0_isAhead_0 rfl (lv_at hl 1 rfl) ?_
  refine lv_iload hx hb dX0_isAhead_1 (lv_at hl 4 rfl) ?_
  refine lv_icmp_eq (tgt := 18) hx hb dX0_isAhead_3 (by decide) (fun c1 => ?_) (fun c1 => ?_)
  · replace hf := z_ip hf c1
    refine lv_iload_n hx hb dX0_isAhead_18 rfl (lv_at hl 2 rfl) ?_
    refine lv_iload hx hb dX0_isAhead_19 (lv_at hl 5 rfl) ?_
    refine lv_icmp_eq (tgt := 38) hx hb dX0_isAhead_21 (by decide) (fun c2 => ?_) (fun c2 => ?_)
    · replace hf := z_ip hf c2
      refine lv_iload_n hx hb dX0_isAhead_38 rfl (lv_at hl 0 rfl) ?_
      refine lv_iload_n hx hb dX0_isAhead_39 rfl (lv_at hl 3 rfl) ?_
      refine lv_icmp_ge (tgt := 47) hx hb dX0_isAhead_40 (by decide) (fun c3 => ?_) (fun c3 => ?_)
      · replace hf := z_ip hf c3
        refine lv_iconst (v := 0) hx hb dX0_isAhead_47 (by decide) ?_
        obtain rfl := Option.some.inj hf
        exact hret _ _ _ _ _ dX0_isAhead_48 rfl rfl hP hD hS
      · replace hf := z_im hf c3
        refine lv_iconst (v := 1) hx hb dX0_isAhead_43 (by decide) ?_
        refine lv_goto (tgt := 48) hx hb dX0_isAhead_44 (by decide) ?_
        obtain rfl := Option.some.inj hf
        exact hret _ _ _ _ _ dX0_isAhead_48 rfl rfl hP hD hS
    · replace hf := z_im hf c2
      refine lv_iload_n hx hb dX0_isAhead_24 rfl (lv_at hl 2 rfl) ?_
      refine lv_iload hx hb dX0_isAhead_25 (lv_at hl 5 rfl) ?_
      refine lv_icmp_ge (tgt := 34) hx hb dX0_isAhead_27 (by decide) (fun c4 => ?_) (fun c4 => ?_)
      · replace hf := z_ip hf c4
        refine lv_iconst (v := 0) hx hb dX0_isAhead_34 (by decide) ?_
        refine lv_goto (tgt := 48) hx hb dX0_isAhead_35 (by decide) ?_
        obtain rfl := Option.some.inj hf
        exact hret _ _ _ _ _ dX0_isAhead_48 rfl rfl hP hD hS
      · replace hf := z_im hf c4
        refine lv_iconst (v := 1) hx hb dX0_isAhead_30 (by decide) ?_
        refine lv_goto (tgt := 48) hx hb dX0_isAhead_31 (by decide) ?_
        obtain rfl := Option.some.inj hf
        exact hret _ _ _ _ _ dX0_isAhead_48 rfl rfl hP hD hS
  · replace hf := z_im hf c1
    refine lv_iload_n hx hb dX0_isAhead_6 rfl (lv_at hl 1 rfl) ?_
    refine lv_iload hx hb dX0_isAhead_7 (lv_at hl 4 rfl) ?_
    refine lv_icmp_le (tgt := 16) hx hb dX0_isAhead_9 (by decide) (fun c5 => ?_) (fun c5 => ?_)
    · replace hf := z_ip hf c5
      refine lv_iconst (v := 0) hx hb dX0_isAhead_16 (by decide) ?_
      obtain rfl := Option.some.inj hf
      exact hret _ _ _ _ _ dX0_isAhead_17 rfl rfl hP hD hS
    · replace hf := z_im hf c5
      refine lv_iconst (v := 1) hx hb dX0_isAhead_12 (by decide) ?_
      refine lv_goto (tgt := 17) hx hb dX0_isAhead_13 (by decide) ?_
      obtain rfl := Option.some.inj hf
      exact hret _ _ _ _ _ dX0_isAhead_17 rfl rfl hP hD hS
set_option maxHeartbeats 4000000 in
set_option maxRecDepth 100000 in
theorem k_X0_isAhead (l : Launch) (dC : Nat → ClassId) (dI : Nat → Nat → Nat) (cI cZ cJ cA : ClassId) (sz : Nat) (N : Nat) (v0 : Int32) (v1 : Int32) (v2 : Int32) (v3 : Int32) (v4 : Int32) (v5 : Int32) (o : Int32) (hf : q_X0_isAhead N v0 v1 v2 v3 v4 v5 = some o) : Met l yX0_isAhead wsX0_isAhead ({ frames := 0, cells := 0, slots := 0, locals := 0 } : Room) (z_Pre dC dI (z_ty cI cZ cJ cA) [.int v0, .int v1, .int v2, .int v3, .int v4, .int v5] sz ([] : va_W)) (z_Pi dC dI o ([] : va_W) sz ([] : va_W)) 0 0 (va_A ([] : va_W) sz) := by
  refine Met.ofW (cc := cX0_isAhead) (maxL := 6) (ret := (some .boolean)) (by decide) rfl ?_
  intro p e s m args below meth c s₁ B hml hv
  obtain ⟨rfl, hsz, hP, hK, hD0, hN⟩ := hv
  subst hsz
  have hl := lv_entry ([.int v0, .int v1, .int v2, .int v3, .int v4, .int v5]) (n := 6) (Nat.le_of_ble_eq_true rfl)
  rw [lg_entry_eq]
  refine b_X0_isAhead N ⟨⟨B.exec, B.bytes, hml, findClass_of_methodNamed B.named, atoms_spec (ws := wsX0_isAhead) B.pre⟩, Nat.le_refl _, Nat.le_refl _, fun q h => Or.inr h, hN, hK⟩ hf hP hD0.self va_S.rf hl (fun pc H locs ls r hd hr hn hP hD hS => ?_)
  subst hr
  exact W.zret B.exec B.bytes B.returns hn (fun t ht hW => ⟨⟨_, (), rfl, rfl, by rw [ht]; exact hP, hD⟩, hS.F ht⟩) hS.2.2 hd
def q_X0_findChampion_L4 (N : Nat) (x2 : Int32) (f0 : (Nat → Int32)) (f1 : (Nat → Int32)) : Nat → Int32 → Int32 → Option Int32
  | 0, _, _ => none
  | n + 1, v1, v2 =>
    (if x2 ≤ v2 then
     (some v1)
    else
     (if z_in v2 4 then
     (if z_in v1 4 then
     (Option.bind (q_X0_isAhead N v2 (f0 (Int32.toNatClampNeg v2)) (f1 (Int32.toNatClampNeg v2)) v1 (f0 (Int32.toNatClampNeg v1)) (f1 (Int32.toNatClampNeg v1))) (fun o4 =>
     (if o4 = 0 then
      (q_X0_findChampion_L4 N x2 f0 f1 n v1 (v2 + 1))
     else
      (q_X0_findChampion_L4 N x2 f0 f1 n v2 (v2 + 1)))))
     else none)
     else none))
set_option maxHeartbeats 4000000 in
set_option maxRecDepth 100000 in
theorem b_X0_findChampion_L4 {p : Program} {l : Launch} {e : Env} {R : Room} {s : State} {m : MethodId} {args : Array Value} {below : List Frame} {meth : Method} {c : Code} {Q : State → Prop} {A : Nat → Prop} {dC : Nat → ClassId} {dI : Nat → Nat → Nat} {cI cZ cJ cA : ClassId} {h0 : Nat} {a : Nat → Nat} (N : Nat) (C0 : z_Cx p s m args c cX0_findChampion 3 wsX0_findChampion RX0 R 1 25 A dC dI (z_ty cI cZ cJ cA)) : ∀ (n : Nat) {v1 : Int32} {v2 : Int32} {x2 : Int32} {x3 : Int32} {x4 : Int32} {f0 : (Nat → Int32)} {f1 : (Nat → Int32)} {o : Int32} {H : Heap} {locs : List Loc} {ls : Array Slot}, q_X0_findChampion_L4 N x2 f0 f1 n v1 v2 = some o → va_P (dC, dI) vwCl (wX0 cI cZ cJ cA h0 a x2 x3 x4 f0 f1) H → va_D A (wX0 cI cZ cJ cA h0 a x2 x3 x4 f0 f1) → va_S A s.heap H locs → lv_has ls 3 [(0, .ref h0), (1, .int v1), (2, .int v2)] →
    (∀ (H : Heap) (locs : List Loc) (ls : Array Slot), va_P (dC, dI) vwCl (wX0 cI cZ cJ cA h0 a x2 x3 x4 f0 f1) H → va_D A (wX0 cI cZ cJ cA h0 a x2 x3 x4 f0 f1) → va_S A s.heap H locs → lv_has ls 3 [(0, .ref h0), (1, .int o)] → W p l e R s m args below meth c H locs 0 0 Q (F0 m 52 ls [])) →
    W p l e R s m args below meth c H locs 0 0 Q (F0 m 4 ls []) := by
  obtain ⟨⟨hx, hb, hml, hown, hts⟩, hRf, hRl, hA, hN, hK⟩ := C0
  intro n
  induction n with
  | zero =>
    intro v1 v2 x2 x3 x4 f0 f1 o H locs ls hf
    cases hf
  | succ n ih =>
    intro v1 v2 x2 x3 x4 f0 f1 o H locs ls hf hP hD hS hl hexit
    rw [q_X0_findChampion_L4] at hf
    refine lv_iload_n hx hb dX0_findChampion_4 rfl (lv_at hl 2 rfl) ?_
    refine lv_aload_n hx hb dX0_findChampion_5 rfl (lv_at hl 0 rfl) ?_
    refine va_get (D := (dC, dI)) (ci := 0) (v := .int x2) (C := RX0) (T := TX0) (N := 5) hx hb hts (fun w hw => List.mem_cons_of_mem _ (List.mem_append_right _ hw)) hown hK hP 0 rfl rfl 2 (by decide) (hts (.fieldLink RX0 18 "OldStadium$FiveInOne" "athletes" "I") (List.mem_of_getElem? (i := 1) rfl)) (fun _ h9 => h9) rfl dX0_findChampion_6 ?_
    refine lv_icmp_ge (tgt := 52) hx hb dX0_findChampion_9 (by decide) (fun c1 => ?_) (fun c1 => ?_)
    · replace hf := z_ip hf c1
      obtain rfl := Option.some.inj hf
      exact hexit _ _ _ hP hD hS (lv_sub hl [0, 1] rfl)
    · replace hf := z_im hf c1
      refine lv_iload_n hx hb dX0_findChampion_12 rfl (lv_at hl 2 rfl) ?_
      refine lv_aload_n hx hb dX0_findChampion_13 rfl (lv_at hl 0 rfl) ?_
      refine va_get (D := (dC, dI)) (ci := 0) (v := .ref (a 0)) (C := RX0) (T := TX0) (N := 5) hx hb hts (fun w hw => List.mem_cons_of_mem _ (List.mem_append_right _ hw)) hown hK hP 0 rfl rfl 0 (by decide) (hts (.fieldLink RX0 11 "OldStadium$FiveInOne" "wins" "[I") (List.mem_of_getElem? (i := 2) rfl)) (fun _ h9 => h9) rfl dX0_findChampion_14 ?_
      refine lv_iload_n hx hb dX0_findChampion_17 rfl (lv_at hl 2 rfl) ?_
      have b2 := z_c1 hf
      replace hf := z_c2 hf
      refine va_iald hx hb hK hP 1 0 rfl rfl b2 dX0_findChampion_18 ?_
      refine lv_aload_n hx hb dX0_findChampion_19 rfl (lv_at hl 0 rfl) ?_
      refine va_get (D := (dC, dI)) (ci := 0) (v := .ref (a 1)) (C := RX0) (T := TX0) (N := 5) hx hb hts (fun w hw => List.mem_cons_of_mem _ (List.mem_append_right _ hw)) hown hK hP 0 rfl rfl 1 (by decide) (hts (.fieldLink RX0 15 "OldStadium$FiveInOne" "sums" "[I") (List.mem_of_getElem? (i := 3) rfl)) (fun _ h9 => h9) rfl dX0_findChampion_20 ?_
      refine lv_iload_n hx hb dX0_findChampion_23 rfl (lv_at hl 2 rfl) ?_
      refine va_iald hx hb hK hP 2 0 rfl rfl b2 dX0_findChampion_24 ?_
      refine lv_iload_n hx hb dX0_findChampion_25 rfl (lv_at hl 1 rfl) ?_
      refine lv_aload_n hx hb dX0_findChampion_26 rfl (lv_at hl 0 rfl) ?_
      refine va_get (D := (dC, dI)) (ci := 0) (v := .ref (a 0)) (C := RX0) (T := TX0) (N := 5) hx hb hts (fun w hw => List.mem_cons_of_mem _ (List.mem_append_right _ hw)) hown hK hP 0 rfl rfl 0 (by decide) (hts (.fieldLink RX0 11 "OldStadium$FiveInOne" "wins" "[I") (List.mem_of_getElem? (i := 2) rfl)) (fun _ h9 => h9) rfl dX0_findChampion_27 ?_
      refine lv_iload_n hx hb dX0_findChampion_30 rfl (lv_at hl 1 rfl) ?_
      have b3 := z_c1 hf
      replace hf := z_c2 hf
      refine va_iald hx hb hK hP 1 0 rfl rfl b3 dX0_findChampion_31 ?_
      refine lv_aload_n hx hb dX0_findChampion_32 rfl (lv_at hl 0 rfl) ?_
      refine va_get (D := (dC, dI)) (ci := 0) (v := .ref (a 1)) (C := RX0) (T := TX0) (N := 5) hx hb hts (fun w hw => List.mem_cons_of_mem _ (List.mem_append_right _ hw)) hown hK hP 0 rfl rfl 1 (by decide) (hts (.fieldLink RX0 15 "OldStadium$FiveInOne" "sums" "[I") (List.mem_of_getElem? (i := 3) rfl)) (fun _ h9 => h9) rfl dX0_findChampion_33 ?_
      refine lv_iload_n hx hb dX0_findChampion_36 rfl (lv_at hl 1 rfl) ?_
      refine va_iald hx hb hK hP 2 0 rfl rfl b3 dX0_findChampion_37 ?_
      obtain ⟨o4, ho4, hf1⟩ := z_ib hf
      replace hf := hf1
      clear hf1
      refine z_S0 (As := [.int v2, .int (f0 (Int32.toNatClampNeg v2)), .int (f1 (Int32.toNatClampNeg v2)), .int v1, .int (f0 (Int32.toNatClampNeg v1)), .int (f1 (Int32.toNatClampNeg v1))]) (rest := []) ⟨hx, hb, hml, hown, hts⟩ (k_X0_isAhead l dC dI cI cZ cJ cA H.size N v2 (f0 (Int32.toNatClampNeg v2)) (f1 (Int32.toNatClampNeg v2)) v1 (f0 (Int32.toNatClampNeg v1)) (f1 (Int32.toNatClampNeg v1)) o4 ho4) (va_cwS 6 hts gX0_findChampion_X0_isAhead rfl rfl rfl (by decide +kernel) ⟨Nat.le_trans (Nat.le_of_ble_eq_true rfl) hRf, Nat.le_trans (Nat.le_of_ble_eq_true rfl) hRl⟩) hK hP hS hA hN rfl hl.1 rfl (Nat.le_of_ble_eq_true rfl) dX0_findChampion_38 (fun H locs hP hS => ?_)
      refine lv_if_eq (tgt := 46) hx hb dX0_findChampion_41 (by decide) (fun c5 => ?_) (fun c5 => ?_)
      · replace hf := z_ip hf c5
        refine lv_iinc (v := (v2 + 1)) (lv' := [(2, .int (v2 + 1)), (0, .ref h0), (1, .int v1)]) hx hb dX0_findChampion_46 hl (k := 2) rfl rfl (by decide) rfl (fun ls hl => ?_)
        refine lv_goto (tgt := 4) hx hb dX0_findChampion_49 (by decide) ?_
        exact ih hf hP hD hS (lv_sub hl [1, 2, 0] rfl) hexit
      · replace hf := z_im hf c5
        refine lv_iload_n hx hb dX0_findChampion_44 rfl (lv_at hl 2 rfl) ?_
        refine lv_istore_n (lv' := [(1, .int v2), (0, .ref h0), (2, .int v2)]) hx hb dX0_findChampion_45 rfl hl (by decide) rfl (fun ls hl => ?_)
        refine lv_iinc (v := (v2 + 1)) (lv' := [(2, .int (v2 + 1)), (1, .int v2), (0, .ref h0)]) hx hb dX0_findChampion_46 hl (k := 2) rfl rfl (by decide) rfl (fun ls hl => ?_)
        refine lv_goto (tgt := 4) hx hb dX0_findChampion_49 (by decide) ?_
        exact ih hf hP hD hS (lv_sub hl [2, 1, 0] rfl) hexit
def q_X0_findChampion (N : Nat) (x2 : Int32) (x3 : Int32) (f0 : (Nat → Int32)) (f1 : (Nat → Int32)) : Option Int32 :=
  (Option.bind (q_X0_findChampion_L4 N x2 f0 f1 N 0 1) (fun t1 =>
  (if z_in t1 4 then
  (if 3 ≤ (f0 (Int32.toNatClampNeg t1)) then
   (some t1)
  else
   (if x3 < 5 then
    (some (-1))
   else
    (some t1)))
  else none)))
set_option maxHeartbeats 4000000 in
set_option maxRecDepth 100000 in
theorem b_X0_findChampion {p : Program} {l : Launch} {e : Env} {R : Room} {s : State} {m : MethodId} {args : Array Value} {below : List Frame} {meth : Method} {c : Code} {Q : State → Prop} {A : Nat → Prop} {dC : Nat → ClassId} {dI : Nat → Nat → Nat} {cI cZ cJ cA : ClassId} {h0 : Nat} {a : Nat → Nat} (N : Nat) (C0 : z_Cx p s m args c cX0_findChampion 3 wsX0_findChampion RX0 R 1 25 A dC dI (z_ty cI cZ cJ cA)) {x2 : Int32} {x3 : Int32} {x4 : Int32} {f0 : (Nat → Int32)} {f1 : (Nat → Int32)} {o : Int32} {H : Heap} {locs : List Loc} {ls : Array Slot} (hf : q_X0_findChampion N x2 x3 f0 f1 = some o) (hP : va_P (dC, dI) vwCl (wX0 cI cZ cJ cA h0 a x2 x3 x4 f0 f1) H) (hD : va_D A (wX0 cI cZ cJ cA h0 a x2 x3 x4 f0 f1)) (hS : va_S A s.heap H locs) (hl : lv_has ls 3 [(0, .ref h0)])
    (hret : ∀ (pc : Nat) (H : Heap) (locs : List Loc) (ls : Array Slot) (r : Int32), decode cX0_findChampion pc = .ok (.ireturn, 1) → r = o → va_P (dC, dI) vwCl (wX0 cI cZ cJ cA h0 a x2 x3 x4 f0 f1) H → va_D A (wX0 cI cZ cJ cA h0 a x2 x3 x4 f0 f1) → va_S A s.heap H locs → W p l e R s m args below meth c H locs 0 0 Q (F0 m pc ls [.int r])) :
    W p l e R s m args below meth c H locs 0 0 Q (F0 m 0 ls []) := by
  obtain ⟨⟨hx, hb, hml, hown, hts⟩, hRf, hRl, hA, hN, hK⟩ := C0
  unfold q_X0_findChampion at hf
  refine lv_iconst (v := 0) hx hb dX0_findChampion_0 (by decide) ?_
  refine lv_istore_n (lv' := [(1, .int 0), (0, .ref h0)]) hx hb dX0_findChampion_1 rfl hl (by decide) rfl (fun ls hl => ?_)
  refine lv_iconst (v := 1) hx hb dX0_findChampion_2 (by decide) ?_
  refine lv_istore_n (lv' := [(2, .int 1), (1, .int 0), (0, .ref h0)]) hx hb dX0_findChampion_3 rfl hl (by decide) rfl (fun ls hl => ?_)
  obtain ⟨t1, ht1, hf1⟩ := z_ib hf
  replace hf := hf1
  clear hf1
  refine b_X0_findChampion_L4 N ⟨⟨hx, hb, hml, hown, hts⟩, hRf, hRl, hA, hN, hK⟩ N ht1 hP hD hS (lv_sub hl [2, 1, 0] rfl) (fun H locs ls hP hD hS hl => ?_)
  refine lv_aload_n hx hb dX0_findChampion_52 rfl (lv_at hl 0 rfl) ?_
  refine va_get (D := (dC, dI)) (ci := 0) (v := .ref (a 0)) (C := RX0) (T := TX0) (N := 5) hx hb hts (fun w hw => List.mem_cons_of_mem _ (List.mem_append_right _ hw)) hown hK hP 0 rfl rfl 0 (by decide) (hts (.fieldLink RX0 11 "OldStadium$FiveInOne" "wins" "[I") (List.mem_of_getElem? (i := 2) rfl)) (fun _ h9 => h9) rfl dX0_findChampion_53 ?_
  refine lv_iload_n hx hb dX0_findChampion_56 rfl (lv_at hl 1 rfl) ?_
  have b2 := z_c1 hf
  replace hf := z_c2 hf
  refine va_iald hx hb hK hP 1 0 rfl rfl b2 dX0_findChampion_57 ?_
  refine lv_iconst (v := 3) hx hb dX0_findChampion_58 (by decide) ?_
  refine lv_icmp_ge (tgt := 70) hx hb dX0_findChampion_59 (by decide) (fun c3 => ?_) (fun c3 => ?_)
  · replace hf := z_ip hf c3
    refine lv_iload_n hx hb dX0_findChampion_70 rfl (lv_at hl 1 rfl) ?_
    refine lv_goto (tgt := 75) hx hb dX0_findChampion_71 (by decide) ?_
    obtain rfl := Option.some.inj hf
    exact hret _ _ _ _ _ dX0_findChampion_75 rfl hP hD hS
  · replace hf := z_im hf c3
    refine lv_aload_n hx hb dX0_findChampion_62 rfl (lv_at hl 0 rfl) ?_
    refine va_get (D := (dC, dI)) (ci := 0) (v := .int x3) (C := RX0) (T := TX0) (N := 5) hx hb hts (fun w hw => List.mem_cons_of_mem _ (List.mem_append_right _ hw)) hown hK hP 0 rfl rfl 3 (by decide) (hts (.fieldLink RX0 22 "OldStadium$FiveInOne" "told" "I") (List.mem_of_getElem? (i := 4) rfl)) (fun _ h9 => h9) rfl dX0_findChampion_63 ?_
    refine lv_iconst (v := 5) hx hb dX0_findChampion_66 (by decide) ?_
    refine lv_icmp_lt (tgt := 74) hx hb dX0_findChampion_67 (by decide) (fun c4 => ?_) (fun c4 => ?_)
    · replace hf := z_ip hf c4
      refine lv_iconst (v := (-1)) hx hb dX0_findChampion_74 (by decide) ?_
      obtain rfl := Option.some.inj hf
      exact hret _ _ _ _ _ dX0_findChampion_75 rfl hP hD hS
    · replace hf := z_im hf c4
      refine lv_iload_n hx hb dX0_findChampion_70 rfl (lv_at hl 1 rfl) ?_
      refine lv_goto (tgt := 75) hx hb dX0_findChampion_71 (by decide) ?_
      obtain rfl := Option.some.inj hf
      exact hret _ _ _ _ _ dX0_findChampion_75 rfl hP hD hS
set_option maxHeartbeats 4000000 in
set_option maxRecDepth 100000 in
theorem k_X0_findChampion (l : Launch) (dC : Nat → ClassId) (dI : Nat → Nat → Nat) (cI cZ cJ cA : ClassId) (h0 : Nat) (a : Nat → Nat) (sz : Nat) (N : Nat) (x2 : Int32) (x3 : Int32) (x4 : Int32) (f0 : (Nat → Int32)) (f1 : (Nat → Int32)) (o : Int32) (hf : q_X0_findChampion N x2 x3 f0 f1 = some o) : Met l yX0_findChampion wsX0_findChampion ({ frames := 1, cells := 0, slots := 0, locals := 25 } : Room) (z_Pre dC dI (z_ty cI cZ cJ cA) [.ref h0] sz (wX0 cI cZ cJ cA h0 a x2 x3 x4 f0 f1)) (z_Pi dC dI o (wX0 cI cZ cJ cA h0 a x2 x3 x4 f0 f1) sz (wX0 cI cZ cJ cA h0 a x2 x3 x4 f0 f1)) 0 0 (va_A (wX0 cI cZ cJ cA h0 a x2 x3 x4 f0 f1) sz) := by
  refine Met.ofW (cc := cX0_findChampion) (maxL := 3) (ret := (some .int)) (by decide) rfl ?_
  intro p e s m args below meth c s₁ B hml hv
  obtain ⟨rfl, hsz, hP, hK, hD0, hN⟩ := hv
  subst hsz
  have hl := lv_entry ([.ref h0]) (n := 3) (Nat.le_of_ble_eq_true rfl)
  rw [lg_entry_eq]
  refine b_X0_findChampion N ⟨⟨B.exec, B.bytes, hml, findClass_of_methodNamed B.named, atoms_spec (ws := wsX0_findChampion) B.pre⟩, Nat.le_refl _, Nat.le_refl _, fun q h => Or.inr h, hN, hK⟩ hf hP hD0.self va_S.rf hl (fun pc H locs ls r hd hr hP hD hS => ?_)
  subst hr
  exact W.iret B.exec B.bytes B.returns (fun t ht hW => ⟨⟨_, (), rfl, rfl, by rw [ht]; exact hP, hD⟩, hS.F ht⟩) hS.2.2 hd
def q_X0_tellOrder_L29 (N : Nat) (x2 : Int32) : Nat → Int32 → Int32 → (Nat → Int32) → (Nat → Int32) → Option ((Nat → Int32) × (Nat → Int32))
  | 0, _, _, _, _ => none
  | n + 1, v2, v3, f0, f1 =>
    (if x2 < v3 then
     (some (f0, f1))
    else
     (if z_in (z_rem v2 10) 4 then
     (Option.bind (some (((f1 (Int32.toNatClampNeg (z_rem v2 10))) + v3) : Int32)) (fun n3 =>
     (if v3 = 1 then
      (Option.bind (some (((f0 (Int32.toNatClampNeg (z_rem v2 10))) + 1) : Int32)) (fun n5 =>
      (q_X0_tellOrder_L29 N x2 n (v2 / 10) (v3 + 1) (upd f0 (Int32.toNatClampNeg (z_rem v2 10)) n5) (upd f1 (Int32.toNatClampNeg (z_rem v2 10)) n3))))
     else
      (q_X0_tellOrder_L29 N x2 n (v2 / 10) (v3 + 1) f0 (upd f1 (Int32.toNatClampNeg (z_rem v2 10)) n3)))))
     else none))
set_option maxHeartbeats 4000000 in
set_option maxRecDepth 100000 in
theorem b_X0_tellOrder_L29 {p : Program} {l : Launch} {e : Env} {R : Room} {s : State} {m : MethodId} {args : Array Value} {below : List Frame} {meth : Method} {c : Code} {Q : State → Prop} {A : Nat → Prop} {dC : Nat → ClassId} {dI : Nat → Nat → Nat} {cI cZ cJ cA : ClassId} {h0 : Nat} {a : Nat → Nat} (N : Nat) (C0 : z_Cx p s m args c cX0_tellOrder 5 wsX0_tellOrder RX0 R 2 47 A dC dI (z_ty cI cZ cJ cA)) : ∀ (n : Nat) {v2 : Int32} {v3 : Int32} {x2 : Int32} {x3 : Int32} {x4 : Int32} {f0 : (Nat → Int32)} {f1 : (Nat → Int32)} {o : ((Nat → Int32) × (Nat → Int32))} {H : Heap} {locs : List Loc} {ls : Array Slot}, q_X0_tellOrder_L29 N x2 n v2 v3 f0 f1 = some o → va_P (dC, dI) vwCl (wX0 cI cZ cJ cA h0 a x2 x3 x4 f0 f1) H → va_D A (wX0 cI cZ cJ cA h0 a x2 x3 x4 f0 f1) → va_S A s.heap H locs → lv_has ls 5 [(0, .ref h0), (2, .int v2), (3, .int v3)] →
    (∀ (H : Heap) (locs : List Loc) (ls : Array Slot), va_P (dC, dI) vwCl (wX0 cI cZ cJ cA h0 a x2 x3 x4 o.1 o.2) H → va_D A (wX0 cI cZ cJ cA h0 a x2 x3 x4 o.1 o.2) → va_S A s.heap H locs → lv_has ls 5 [(0, .ref h0)] → W p l e R s m args below meth c H locs 0 0 Q (F0 m 81 ls [])) →
    W p l e R s m args below meth c H locs 0 0 Q (F0 m 29 ls []) := by
  obtain ⟨⟨hx, hb, hml, hown, hts⟩, hRf, hRl, hA, hN, hK⟩ := C0
  intro n
  induction n with
  | zero =>
    intro v2 v3 x2 x3 x4 f0 f1 o H locs ls hf
    cases hf
  | succ n ih =>
    intro v2 v3 x2 x3 x4 f0 f1 o H locs ls hf hP hD hS hl hexit
    rw [q_X0_tellOrder_L29] at hf
    refine lv_iload_n hx hb dX0_tellOrder_29 rfl (lv_at hl 2 rfl) ?_
    refine lv_aload_n hx hb dX0_tellOrder_30 rfl (lv_at hl 0 rfl) ?_
    refine va_get (D := (dC, dI)) (ci := 0) (v := .int x2) (C := RX0) (T := TX0) (N := 5) hx hb hts (fun w hw => List.mem_cons_of_mem _ (List.mem_append_right _ hw)) hown hK hP 0 rfl rfl 2 (by decide) (hts (.fieldLink RX0 18 "OldStadium$FiveInOne" "athletes" "I") (List.mem_of_getElem? (i := 1) rfl)) (fun _ h9 => h9) rfl dX0_tellOrder_31 ?_
    refine lv_icmp_gt (tgt := 81) hx hb dX0_tellOrder_34 (by decide) (fun c1 => ?_) (fun c1 => ?_)
    · replace hf := z_ip hf c1
      obtain rfl := Option.some.inj hf
      exact hexit _ _ _ hP hD hS (lv_sub hl [0] rfl)
    · replace hf := z_im hf c1
      refine lv_iload_n hx hb dX0_tellOrder_37 rfl (lv_at hl 1 rfl) ?_
      refine lv_bipush (v := 10) hx hb dX0_tellOrder_38 (by decide) ?_
      refine z_irem hx hb dX0_tellOrder_40 (by decide) ?_
      refine lv_istore (lv' := [(4, .int (z_rem v2 10)), (0, .ref h0), (2, .int v2), (3, .int v3)]) hx hb dX0_tellOrder_41 hl (by decide) rfl (fun ls hl => ?_)
      refine lv_iload_n hx hb dX0_tellOrder_43 rfl (lv_at hl 2 rfl) ?_
      refine lv_bipush (v := 10) hx hb dX0_tellOrder_44 (by decide) ?_
      refine lv_idiv hx hb dX0_tellOrder_46 (by decide) ?_
      refine lv_istore_n (lv' := [(2, .int (v2 / 10)), (4, .int (z_rem v2 10)), (0, .ref h0), (3, .int v3)]) hx hb dX0_tellOrder_47 rfl hl (by decide) rfl (fun ls hl => ?_)
      refine lv_aload_n hx hb dX0_tellOrder_48 rfl (lv_at hl 2 rfl) ?_
      refine va_get (D := (dC, dI)) (ci := 0) (v := .ref (a 1)) (C := RX0) (T := TX0) (N := 5) hx hb hts (fun w hw => List.mem_cons_of_mem _ (List.mem_append_right _ hw)) hown hK hP 0 rfl rfl 1 (by decide) (hts (.fieldLink RX0 15 "OldStadium$FiveInOne" "sums" "[I") (List.mem_of_getElem? (i := 3) rfl)) (fun _ h9 => h9) rfl dX0_tellOrder_49 ?_
      refine lv_iload hx hb dX0_tellOrder_52 (lv_at hl 1 rfl) ?_
      refine lv_dup2_11 hx hb dX0_tellOrder_54 rfl rfl ?_
      have b2 := z_c1 hf
      replace hf := z_c2 hf
      refine va_iald hx hb hK hP 2 0 rfl rfl b2 dX0_tellOrder_55 ?_
      refine lv_iload_n hx hb dX0_tellOrder_56 rfl (lv_at hl 3 rfl) ?_
      refine lv_iadd hx hb dX0_tellOrder_57 ?_
      obtain ⟨n3, hn3, hf1⟩ := z_ib hf
      replace hf := hf1
      clear hf1
      refine lv_topi (fun y9 ey9 => ?_)
      obtain rfl : n3 = y9 := (Option.some.inj hn3).symm.trans ey9.symm
      refine va_iast hx hb hK hP hD hS 2 0 rfl rfl b2 dX0_tellOrder_58 (fun H locs hP hD hS => ?_)
      replace hP : va_P (dC, dI) vwCl (wX0 cI cZ cJ cA h0 a x2 x3 x4 f0 (upd f1 (Int32.toNatClampNeg (z_rem v2 10)) n3)) H := hP
      replace hD : va_D A (wX0 cI cZ cJ cA h0 a x2 x3 x4 f0 (upd f1 (Int32.toNatClampNeg (z_rem v2 10)) n3)) := hD
      refine lv_iload_n hx hb dX0_tellOrder_59 rfl (lv_at hl 3 rfl) ?_
      refine lv_iconst (v := 1) hx hb dX0_tellOrder_60 (by decide) ?_
      refine lv_icmp_ne (tgt := 75) hx hb dX0_tellOrder_61 (by decide) (fun c4 => ?_) (fun c4 => ?_)
      · replace hf := z_im hf c4
        refine lv_iinc (v := (v3 + 1)) (lv' := [(3, .int (v3 + 1)), (2, .int (v2 / 10)), (4, .int (z_rem v2 10)), (0, .ref h0)]) hx hb dX0_tellOrder_75 hl (k := 3) rfl rfl (by decide) rfl (fun ls hl => ?_)
        refine lv_goto (tgt := 29) hx hb dX0_tellOrder_78 (by decide) ?_
        exact ih hf hP hD hS (lv_sub hl [3, 1, 0] rfl) hexit
      · replace hf := z_ip hf c4
        refine lv_aload_n hx hb dX0_tellOrder_64 rfl (lv_at hl 2 rfl) ?_
        refine va_get (D := (dC, dI)) (ci := 0) (v := .ref (a 0)) (C := RX0) (T := TX0) (N := 5) hx hb hts (fun w hw => List.mem_cons_of_mem _ (List.mem_append_right _ hw)) hown hK hP 0 rfl rfl 0 (by decide) (hts (.fieldLink RX0 11 "OldStadium$FiveInOne" "wins" "[I") (List.mem_of_getElem? (i := 4) rfl)) (fun _ h9 => h9) rfl dX0_tellOrder_65 ?_
        refine lv_iload hx hb dX0_tellOrder_68 (lv_at hl 1 rfl) ?_
        refine lv_dup2_11 hx hb dX0_tellOrder_70 rfl rfl ?_
        refine va_iald hx hb hK hP 1 0 rfl rfl b2 dX0_tellOrder_71 ?_
        refine lv_iconst (v := 1) hx hb dX0_tellOrder_72 (by decide) ?_
        refine lv_iadd hx hb dX0_tellOrder_73 ?_
        obtain ⟨n5, hn5, hf1⟩ := z_ib hf
        replace hf := hf1
        clear hf1
        refine lv_topi (fun y9 ey9 => ?_)
        obtain rfl : n5 = y9 := (Option.some.inj hn5).symm.trans ey9.symm
        refine va_iast hx hb hK hP hD hS 1 0 rfl rfl b2 dX0_tellOrder_74 (fun H locs hP hD hS => ?_)
        replace hP : va_P (dC, dI) vwCl (wX0 cI cZ cJ cA h0 a x2 x3 x4 (upd f0 (Int32.toNatClampNeg (z_rem v2 10)) n5) (upd f1 (Int32.toNatClampNeg (z_rem v2 10)) n3)) H := hP
        replace hD : va_D A (wX0 cI cZ cJ cA h0 a x2 x3 x4 (upd f0 (Int32.toNatClampNeg (z_rem v2 10)) n5) (upd f1 (Int32.toNatClampNeg (z_rem v2 10)) n3)) := hD
        refine lv_iinc (v := (v3 + 1)) (lv' := [(3, .int (v3 + 1)), (2, .int (v2 / 10)), (4, .int (z_rem v2 10)), (0, .ref h0)]) hx hb dX0_tellOrder_75 hl (k := 3) rfl rfl (by decide) rfl (fun ls hl => ?_)
        refine lv_goto (tgt := 29) hx hb dX0_tellOrder_78 (by decide) ?_
        exact ih hf hP hD hS (lv_sub hl [3, 1, 0] rfl) hexit
def q_X0_tellOrder (N : Nat) (v1 : Int32) (x2 : Int32) (x3 : Int32) (x4 : Int32) (f0 : (Nat → Int32)) (f1 : (Nat → Int32)) : Option (Int32 × Int32 × Int32 × (Nat → Int32) × (Nat → Int32)) :=
  (if x2 = 0 then
   (some ((-1), x3, x4, f0, f1))
  else
   (if x4 = (-1) then
    (Option.bind (q_X0_isOrder N v1 x2) (fun o3 =>
    (if o3 = 0 then
     (some ((-1), x3, x4, f0, f1))
    else
     (Option.bind (q_X0_tellOrder_L29 N x2 N v1 1 f0 f1) (fun t5 =>
     (Option.bind (q_X0_findChampion N x2 (x3 + 1) t5.1 t5.2) (fun o6 =>
     (some ((x3 + 1), (x3 + 1), o6, t5.1, t5.2)))))))))
   else
    (some ((-1), x3, x4, f0, f1))))
set_option maxHeartbeats 4000000 in
set_option maxRecDepth 100000 in
theorem b_X0_tellOrder {p : Program} {l : Launch} {e : Env} {R : Room} {s : State} {m : MethodId} {args : Array Value} {below : List Frame} {meth : Method} {c : Code} {Q : State → Prop} {A : Nat → Prop} {dC : Nat → ClassId} {dI : Nat → Nat → Nat} {cI cZ cJ cA : ClassId} {h0 : Nat} {a : Nat → Nat} (N : Nat) (C0 : z_Cx p s m args c cX0_tellOrder 5 wsX0_tellOrder RX0 R 2 47 A dC dI (z_ty cI cZ cJ cA)) {v1 : Int32} {x2 : Int32} {x3 : Int32} {x4 : Int32} {f0 : (Nat → Int32)} {f1 : (Nat → Int32)} {o : (Int32 × Int32 × Int32 × (Nat → Int32) × (Nat → Int32))} {H : Heap} {locs : List Loc} {ls : Array Slot} (hf : q_X0_tellOrder N v1 x2 x3 x4 f0 f1 = some o) (hP : va_P (dC, dI) vwCl (wX0 cI cZ cJ cA h0 a x2 x3 x4 f0 f1) H) (hD : va_D A (wX0 cI cZ cJ cA h0 a x2 x3 x4 f0 f1)) (hS : va_S A s.heap H locs) (hl : lv_has ls 5 [(0, .ref h0), (1, .int v1)])
    (hret : ∀ (pc : Nat) (H : Heap) (locs : List Loc) (ls : Array Slot) (r : Int32), decode cX0_tellOrder pc = .ok (.ireturn, 1) → r = o.1 → va_P (dC, dI) vwCl (wX0 cI cZ cJ cA h0 a x2 o.2.1 o.2.2.1 o.2.2.2.1 o.2.2.2.2) H → va_D A (wX0 cI cZ cJ cA h0 a x2 o.2.1 o.2.2.1 o.2.2.2.1 o.2.2.2.2) → va_S A s.heap H locs → W p l e R s m args below meth c H locs 0 0 Q (F0 m pc ls [.int r])) :
    W p l e R s m args below meth c H locs 0 0 Q (F0 m 0 ls []) := by
  obtain ⟨⟨hx, hb, hml, hown, hts⟩, hRf, hRl, hA, hN, hK⟩ := C0
  unfold q_X0_tellOrder at hf
  refine lv_aload_n hx hb dX0_tellOrder_0 rfl (lv_at hl 0 rfl) ?_
  refine va_get (D := (dC, dI)) (ci := 0) (v := .int x2) (C := RX0) (T := TX0) (N := 5) hx hb hts (fun w hw => List.mem_cons_of_mem _ (List.mem_append_right _ hw)) hown hK hP 0 rfl rfl 2 (by decide) (hts (.fieldLink RX0 18 "OldStadium$FiveInOne" "athletes" "I") (List.mem_of_getElem? (i := 1) rfl)) (fun _ h9 => h9) rfl dX0_tellOrder_1 ?_
  refine lv_if_eq (tgt := 23) hx hb dX0_tellOrder_4 (by decide) (fun c1 => ?_) (fun c1 => ?_)
  · replace hf := z_ip hf c1
    refine lv_iconst (v := (-1)) hx hb dX0_tellOrder_23 (by decide) ?_
    obtain rfl := Option.some.inj hf
    exact hret _ _ _ _ _ dX0_tellOrder_24 rfl hP hD hS
  · replace hf := z_im hf c1
    refine lv_aload_n hx hb dX0_tellOrder_7 rfl (lv_at hl 0 rfl) ?_
    refine va_get (D := (dC, dI)) (ci := 0) (v := .int x4) (C := RX0) (T := TX0) (N := 5) hx hb hts (fun w hw => List.mem_cons_of_mem _ (List.mem_append_right _ hw)) hown hK hP 0 rfl rfl 4 (by decide) (hts (.fieldLink RX0 25 "OldStadium$FiveInOne" "champion" "I") (List.mem_of_getElem? (i := 2) rfl)) (fun _ h9 => h9) rfl dX0_tellOrder_8 ?_
    refine lv_iconst (v := (-1)) hx hb dX0_tellOrder_11 (by decide) ?_
    refine lv_icmp_ne (tgt := 23) hx hb dX0_tellOrder_12 (by decide) (fun c2 => ?_) (fun c2 => ?_)
    · replace hf := z_im hf c2
      refine lv_iconst (v := (-1)) hx hb dX0_tellOrder_23 (by decide) ?_
      obtain rfl := Option.some.inj hf
      exact hret _ _ _ _ _ dX0_tellOrder_24 rfl hP hD hS
    · replace hf := z_ip hf c2
      refine lv_aload_n hx hb dX0_tellOrder_15 rfl (lv_at hl 0 rfl) ?_
      refine lv_iload_n hx hb dX0_tellOrder_16 rfl (lv_at hl 1 rfl) ?_
      obtain ⟨o3, ho3, hf1⟩ := z_ib hf
      replace hf := hf1
      clear hf1
      refine z_Vi (As := [.int v1]) (rest := []) (w := (wX0 cI cZ cJ cA h0 a x2 x3 x4 f0 f1)) (w1 := (wX0 cI cZ cJ cA h0 a x2 x3 x4 f0 f1)) ⟨hx, hb, hml, hown, hts⟩ (k_X0_isOrder l dC dI cI cZ cJ cA h0 a H.size N v1 x2 x3 x4 f0 f1 o3 ho3) (cwV 1 hts gX0_tellOrder_X0_isOrder rfl rfl rfl (by decide +kernel) ⟨Nat.le_trans (Nat.le_of_ble_eq_true rfl) hRf, Nat.le_trans (Nat.le_of_ble_eq_true rfl) hRl⟩) hK hP hD hS hA hN (ci := 0) rfl rfl rfl rfl hl.1 rfl (Nat.le_of_ble_eq_true rfl) dX0_tellOrder_17 (fun H locs hP hD hS => ?_)
      refine lv_if_ne (tgt := 25) hx hb dX0_tellOrder_20 (by decide) (fun c4 => ?_) (fun c4 => ?_)
      · replace hf := z_im hf c4
        refine lv_iload_n hx hb dX0_tellOrder_25 rfl (lv_at hl 1 rfl) ?_
        refine lv_istore_n (lv' := [(2, .int v1), (0, .ref h0), (1, .int v1)]) hx hb dX0_tellOrder_26 rfl hl (by decide) rfl (fun ls hl => ?_)
        refine lv_iconst (v := 1) hx hb dX0_tellOrder_27 (by decide) ?_
        refine lv_istore_n (lv' := [(3, .int 1), (2, .int v1), (0, .ref h0), (1, .int v1)]) hx hb dX0_tellOrder_28 rfl hl (by decide) rfl (fun ls hl => ?_)
        obtain ⟨t5, ht5, hf1⟩ := z_ib hf
        replace hf := hf1
        clear hf1
        refine b_X0_tellOrder_L29 N ⟨⟨hx, hb, hml, hown, hts⟩, hRf, hRl, hA, hN, hK⟩ N ht5 hP hD hS (lv_sub hl [2, 1, 0] rfl) (fun H locs ls hP hD hS hl => ?_)
        refine lv_aload_n hx hb dX0_tellOrder_81 rfl (lv_at hl 0 rfl) ?_
        refine lv_dup hx hb dX0_tellOrder_82 rfl ?_
        refine va_get (D := (dC, dI)) (ci := 0) (v := .int x3) (C := RX0) (T := TX0) (N := 5) hx hb hts (fun w hw => List.mem_cons_of_mem _ (List.mem_append_right _ hw)) hown hK hP 0 rfl rfl 3 (by decide) (hts (.fieldLink RX0 22 "OldStadium$FiveInOne" "told" "I") (List.mem_of_getElem? (i := 5) rfl)) (fun _ h9 => h9) rfl dX0_tellOrder_83 ?_
        refine lv_iconst (v := 1) hx hb dX0_tellOrder_86 (by decide) ?_
        refine lv_iadd hx hb dX0_tellOrder_87 ?_
        refine va_put (D := (dC, dI)) (ci := 0) (v := .int (x3 + 1)) (ty := .int) (C := RX0) (T := TX0) (N := 5) hx hb hts (fun w hw => List.mem_cons_of_mem _ (List.mem_append_right _ hw)) tyX0 tyX0_ok nmX0 hown hK hP hD hS 0 rfl rfl 3 (by decide) (hts (.fieldLink RX0 22 "OldStadium$FiveInOne" "told" "I") (List.mem_of_getElem? (i := 5) rfl)) (fun _ h9 => h9) rfl (by decide +kernel) rfl rfl (Nat.le_of_ble_eq_true rfl) dX0_tellOrder_88 (fun H locs hP hD hS => ?_)
        replace hP : va_P (dC, dI) vwCl (wX0 cI cZ cJ cA h0 a x2 (x3 + 1) x4 t5.1 t5.2) H := hP
        replace hD : va_D A (wX0 cI cZ cJ cA h0 a x2 (x3 + 1) x4 t5.1 t5.2) := hD
        refine lv_aload_n hx hb dX0_tellOrder_91 rfl (lv_at hl 0 rfl) ?_
        refine lv_aload_n hx hb dX0_tellOrder_92 rfl (lv_at hl 0 rfl) ?_
        obtain ⟨o6, ho6, hf1⟩ := z_ib hf
        replace hf := hf1
        clear hf1
        refine z_Vi (As := []) (rest := [.ref h0]) (w := (wX0 cI cZ cJ cA h0 a x2 (x3 + 1) x4 t5.1 t5.2)) (w1 := (wX0 cI cZ cJ cA h0 a x2 (x3 + 1) x4 t5.1 t5.2)) ⟨hx, hb, hml, hown, hts⟩ (k_X0_findChampion l dC dI cI cZ cJ cA h0 a H.size N x2 (x3 + 1) x4 t5.1 t5.2 o6 ho6) (cwV 0 hts gX0_tellOrder_X0_findChampion rfl rfl rfl (by decide +kernel) ⟨Nat.le_trans (Nat.le_of_ble_eq_true rfl) hRf, Nat.le_trans (Nat.le_of_ble_eq_true rfl) hRl⟩) hK hP hD hS hA hN (ci := 0) rfl rfl rfl rfl hl.1 rfl (Nat.le_of_ble_eq_true rfl) dX0_tellOrder_93 (fun H locs hP hD hS => ?_)
        refine va_put (D := (dC, dI)) (ci := 0) (v := .int o6) (ty := .int) (C := RX0) (T := TX0) (N := 5) hx hb hts (fun w hw => List.mem_cons_of_mem _ (List.mem_append_right _ hw)) tyX0 tyX0_ok nmX0 hown hK hP hD hS 0 rfl rfl 4 (by decide) (hts (.fieldLink RX0 25 "OldStadium$FiveInOne" "champion" "I") (List.mem_of_getElem? (i := 2) rfl)) (fun _ h9 => h9) rfl (by decide +kernel) rfl rfl (Nat.le_of_ble_eq_true rfl) dX0_tellOrder_96 (fun H locs hP hD hS => ?_)
        replace hP : va_P (dC, dI) vwCl (wX0 cI cZ cJ cA h0 a x2 (x3 + 1) o6 t5.1 t5.2) H := hP
        replace hD : va_D A (wX0 cI cZ cJ cA h0 a x2 (x3 + 1) o6 t5.1 t5.2) := hD
        refine lv_aload_n hx hb dX0_tellOrder_99 rfl (lv_at hl 0 rfl) ?_
        refine va_get (D := (dC, dI)) (ci := 0) (v := .int (x3 + 1)) (C := RX0) (T := TX0) (N := 5) hx hb hts (fun w hw => List.mem_cons_of_mem _ (List.mem_append_right _ hw)) hown hK hP 0 rfl rfl 3 (by decide) (hts (.fieldLink RX0 22 "OldStadium$FiveInOne" "told" "I") (List.mem_of_getElem? (i := 5) rfl)) (fun _ h9 => h9) rfl dX0_tellOrder_100 ?_
        obtain rfl := Option.some.inj hf
        exact hret _ _ _ _ _ dX0_tellOrder_103 rfl hP hD hS
      · replace hf := z_ip hf c4
        refine lv_iconst (v := (-1)) hx hb dX0_tellOrder_23 (by decide) ?_
        obtain rfl := Option.some.inj hf
        exact hret _ _ _ _ _ dX0_tellOrder_24 rfl hP hD hS
set_option maxHeartbeats 4000000 in
set_option maxRecDepth 100000 in
theorem k_X0_tellOrder (l : Launch) (dC : Nat → ClassId) (dI : Nat → Nat → Nat) (cI cZ cJ cA : ClassId) (h0 : Nat) (a : Nat → Nat) (sz : Nat) (N : Nat) (v1 : Int32) (x2 : Int32) (x3 : Int32) (x4 : Int32) (f0 : (Nat → Int32)) (f1 : (Nat → Int32)) (o : (Int32 × Int32 × Int32 × (Nat → Int32) × (Nat → Int32))) (hf : q_X0_tellOrder N v1 x2 x3 x4 f0 f1 = some o) : Met l yX0_tellOrder wsX0_tellOrder ({ frames := 2, cells := 0, slots := 0, locals := 47 } : Room) (z_Pre dC dI (z_ty cI cZ cJ cA) [.ref h0, .int v1] sz (wX0 cI cZ cJ cA h0 a x2 x3 x4 f0 f1)) (z_Pi dC dI o.1 (wX0 cI cZ cJ cA h0 a x2 o.2.1 o.2.2.1 o.2.2.2.1 o.2.2.2.2) sz (wX0 cI cZ cJ cA h0 a x2 x3 x4 f0 f1)) 0 0 (va_A (wX0 cI cZ cJ cA h0 a x2 x3 x4 f0 f1) sz) := by
  refine Met.ofW (cc := cX0_tellOrder) (maxL := 5) (ret := (some .int)) (by decide) rfl ?_
  intro p e s m args below meth c s₁ B hml hv
  obtain ⟨rfl, hsz, hP, hK, hD0, hN⟩ := hv
  subst hsz
  have hl := lv_entry ([.ref h0, .int v1]) (n := 5) (Nat.le_of_ble_eq_true rfl)
  rw [lg_entry_eq]
  refine b_X0_tellOrder N ⟨⟨B.exec, B.bytes, hml, findClass_of_methodNamed B.named, atoms_spec (ws := wsX0_tellOrder) B.pre⟩, Nat.le_refl _, Nat.le_refl _, fun q h => Or.inr h, hN, hK⟩ hf hP hD0.self va_S.rf hl (fun pc H locs ls r hd hr hP hD hS => ?_)
  subst hr
  exact W.iret B.exec B.bytes B.returns (fun t ht hW => ⟨⟨_, (), rfl, rfl, by rw [ht]; exact hP, hD⟩, hS.F ht⟩) hS.2.2 hd
def q_X0_champion (N : Nat) (x4 : Int32) : Option Int32 :=
  (some x4)
set_option maxHeartbeats 4000000 in
set_option maxRecDepth 100000 in
theorem b_X0_champion {p : Program} {l : Launch} {e : Env} {R : Room} {s : State} {m : MethodId} {args : Array Value} {below : List Frame} {meth : Method} {c : Code} {Q : State → Prop} {A : Nat → Prop} {dC : Nat → ClassId} {dI : Nat → Nat → Nat} {cI cZ cJ cA : ClassId} {h0 : Nat} {a : Nat → Nat} (N : Nat) (C0 : z_Cx p s m args c cX0_champion 1 wsX0_champion RX0 R 0 0 A dC dI (z_ty cI cZ cJ cA)) {x2 : Int32} {x3 : Int32} {x4 : Int32} {f0 : (Nat → Int32)} {f1 : (Nat → Int32)} {o : Int32} {H : Heap} {locs : List Loc} {ls : Array Slot} (hf : q_X0_champion N x4 = some o) (hP : va_P (dC, dI) vwCl (wX0 cI cZ cJ cA h0 a x2 x3 x4 f0 f1) H) (hD : va_D A (wX0 cI cZ cJ cA h0 a x2 x3 x4 f0 f1)) (hS : va_S A s.heap H locs) (hl : lv_has ls 1 [(0, .ref h0)])
    (hret : ∀ (pc : Nat) (H : Heap) (locs : List Loc) (ls : Array Slot) (r : Int32), decode cX0_champion pc = .ok (.ireturn, 1) → r = o → va_P (dC, dI) vwCl (wX0 cI cZ cJ cA h0 a x2 x3 x4 f0 f1) H → va_D A (wX0 cI cZ cJ cA h0 a x2 x3 x4 f0 f1) → va_S A s.heap H locs → W p l e R s m args below meth c H locs 0 0 Q (F0 m pc ls [.int r])) :
    W p l e R s m args below meth c H locs 0 0 Q (F0 m 0 ls []) := by
  obtain ⟨⟨hx, hb, hml, hown, hts⟩, hRf, hRl, hA, hN, hK⟩ := C0
  unfold q_X0_champion at hf
  refine lv_aload_n hx hb dX0_champion_0 rfl (lv_at hl 0 rfl) ?_
  refine va_get (D := (dC, dI)) (ci := 0) (v := .int x4) (C := RX0) (T := TX0) (N := 5) hx hb hts (fun w hw => List.mem_cons_of_mem _ (List.mem_append_right _ hw)) hown hK hP 0 rfl rfl 4 (by decide) (hts (.fieldLink RX0 25 "OldStadium$FiveInOne" "champion" "I") (List.mem_of_getElem? (i := 1) rfl)) (fun _ h9 => h9) rfl dX0_champion_1 ?_
  obtain rfl := Option.some.inj hf
  exact hret _ _ _ _ _ dX0_champion_4 rfl hP hD hS
set_option maxHeartbeats 4000000 in
set_option maxRecDepth 100000 in
theorem k_X0_champion (l : Launch) (dC : Nat → ClassId) (dI : Nat → Nat → Nat) (cI cZ cJ cA : ClassId) (h0 : Nat) (a : Nat → Nat) (sz : Nat) (N : Nat) (x2 : Int32) (x3 : Int32) (x4 : Int32) (f0 : (Nat → Int32)) (f1 : (Nat → Int32)) (o : Int32) (hf : q_X0_champion N x4 = some o) : Met l yX0_champion wsX0_champion ({ frames := 0, cells := 0, slots := 0, locals := 0 } : Room) (z_Pre dC dI (z_ty cI cZ cJ cA) [.ref h0] sz (wX0 cI cZ cJ cA h0 a x2 x3 x4 f0 f1)) (z_Pi dC dI o (wX0 cI cZ cJ cA h0 a x2 x3 x4 f0 f1) sz (wX0 cI cZ cJ cA h0 a x2 x3 x4 f0 f1)) 0 0 (va_A (wX0 cI cZ cJ cA h0 a x2 x3 x4 f0 f1) sz) := by
  refine Met.ofW (cc := cX0_champion) (maxL := 1) (ret := (some .int)) (by decide) rfl ?_
  intro p e s m args below meth c s₁ B hml hv
  obtain ⟨rfl, hsz, hP, hK, hD0, hN⟩ := hv
  subst hsz
  have hl := lv_entry ([.ref h0]) (n := 1) (Nat.le_of_ble_eq_true rfl)
  rw [lg_entry_eq]
  refine b_X0_champion N ⟨⟨B.exec, B.bytes, hml, findClass_of_methodNamed B.named, atoms_spec (ws := wsX0_champion) B.pre⟩, Nat.le_refl _, Nat.le_refl _, fun q h => Or.inr h, hN, hK⟩ hf hP hD0.self va_S.rf hl (fun pc H locs ls r hd hr hP hD hS => ?_)
  subst hr
  exact W.iret B.exec B.bytes B.returns (fun t ht hW => ⟨⟨_, (), rfl, rfl, by rw [ht]; exact hP, hD⟩, hS.F ht⟩) hS.2.2 hd
def q_X0_canWin_L48 (N : Nat) (v1 : Int32) (v2 : Int32) (v3 : Int32) (x2 : Int32) (f0 : (Nat → Int32)) (f1 : (Nat → Int32)) : Nat → Int32 → Option (Sum Int32 Unit)
  | 0, _ => none
  | n + 1, v4 =>
    (if x2 ≤ v4 then
     (some (Sum.inr ()))
    else
     (if z_in v4 4 then
     (Option.bind (some (((f1 (Int32.toNatClampNeg v4)) + (v2 * x2)) : Int32)) (fun n3 =>
     (if v4 = v1 then
      (q_X0_canWin_L48 N v1 v2 v3 x2 f0 f1 n (v4 + 1))
     else
      (if z_in v1 4 then
      (Option.bind (q_X0_isAhead N v1 v3 ((f1 (Int32.toNatClampNeg v1)) + v2) v4 (f0 (Int32.toNatClampNeg v4)) n3) (fun o6 =>
      (if o6 = 0 then
       (some (Sum.inl 0))
      else
       (q_X0_canWin_L48 N v1 v2 v3 x2 f0 f1 n (v4 + 1)))))
      else none))))
     else none))
set_option maxHeartbeats 4000000 in
set_option maxRecDepth 100000 in
theorem b_X0_canWin_L48 {p : Program} {l : Launch} {e : Env} {R : Room} {s : State} {m : MethodId} {args : Array Value} {below : List Frame} {meth : Method} {c : Code} {Q : State → Prop} {A : Nat → Prop} {dC : Nat → ClassId} {dI : Nat → Nat → Nat} {cI cZ cJ cA : ClassId} {h0 : Nat} {a : Nat → Nat} (N : Nat) (C0 : z_Cx p s m args c cX0_canWin 6 wsX0_canWin RX0 R 1 25 A dC dI (z_ty cI cZ cJ cA)) : ∀ (n : Nat) {v1 : Int32} {v2 : Int32} {v3 : Int32} {v4 : Int32} {x2 : Int32} {x3 : Int32} {x4 : Int32} {f0 : (Nat → Int32)} {f1 : (Nat → Int32)} {o : (Sum Int32 Unit)} {H : Heap} {locs : List Loc} {ls : Array Slot}, q_X0_canWin_L48 N v1 v2 v3 x2 f0 f1 n v4 = some o → va_P (dC, dI) vwCl (wX0 cI cZ cJ cA h0 a x2 x3 x4 f0 f1) H → va_D A (wX0 cI cZ cJ cA h0 a x2 x3 x4 f0 f1) → va_S A s.heap H locs → lv_has ls 6 [(0, .ref h0), (1, .int v1), (2, .int v2), (3, .int v3), (4, .int v4)] →
    (∀ (t : Int32), o = Sum.inl t → ∀ (pc : Nat) (H : Heap) (locs : List Loc) (ls : Array Slot) (r : Int32), decode cX0_canWin pc = .ok (.ireturn, 1) → r = t → narrow .boolean (.int r) = .int r → va_P (dC, dI) vwCl (wX0 cI cZ cJ cA h0 a x2 x3 x4 f0 f1) H → va_D A (wX0 cI cZ cJ cA h0 a x2 x3 x4 f0 f1) → va_S A s.heap H locs → W p l e R s m args below meth c H locs 0 0 Q (F0 m pc ls [.int r])) →
    (∀ (t : Unit) (H : Heap) (locs : List Loc) (ls : Array Slot), o = Sum.inr t → va_P (dC, dI) vwCl (wX0 cI cZ cJ cA h0 a x2 x3 x4 f0 f1) H → va_D A (wX0 cI cZ cJ cA h0 a x2 x3 x4 f0 f1) → va_S A s.heap H locs → lv_has ls 6 [] → W p l e R s m args below meth c H locs 0 0 Q (F0 m 114 ls [])) →
    W p l e R s m args below meth c H locs 0 0 Q (F0 m 48 ls []) := by
  obtain ⟨⟨hx, hb, hml, hown, hts⟩, hRf, hRl, hA, hN, hK⟩ := C0
  intro n
  induction n with
  | zero =>
    intro v1 v2 v3 v4 x2 x3 x4 f0 f1 o H locs ls hf
    cases hf
  | succ n ih =>
    intro v1 v2 v3 v4 x2 x3 x4 f0 f1 o H locs ls hf hP hD hS hl hret hexit
    rw [q_X0_canWin_L48] at hf
    refine lv_iload hx hb dX0_canWin_48 (lv_at hl 4 rfl) ?_
    refine lv_aload_n hx hb dX0_canWin_50 rfl (lv_at hl 0 rfl) ?_
    refine va_get (D := (dC, dI)) (ci := 0) (v := .int x2) (C := RX0) (T := TX0) (N := 5) hx hb hts (fun w hw => List.mem_cons_of_mem _ (List.mem_append_right _ hw)) hown hK hP 0 rfl rfl 2 (by decide) (hts (.fieldLink RX0 18 "OldStadium$FiveInOne" "athletes" "I") (List.mem_of_getElem? (i := 4) rfl)) (fun _ h9 => h9) rfl dX0_canWin_51 ?_
    refine lv_icmp_ge (tgt := 114) hx hb dX0_canWin_54 (by decide) (fun c1 => ?_) (fun c1 => ?_)
    · replace hf := z_ip hf c1
      obtain rfl := Option.some.inj hf
      exact hexit _ _ _ _ rfl hP hD hS (lv_sub hl [] rfl)
    · replace hf := z_im hf c1
      refine lv_aload_n hx hb dX0_canWin_57 rfl (lv_at hl 0 rfl) ?_
      refine va_get (D := (dC, dI)) (ci := 0) (v := .ref (a 1)) (C := RX0) (T := TX0) (N := 5) hx hb hts (fun w hw => List.mem_cons_of_mem _ (List.mem_append_right _ hw)) hown hK hP 0 rfl rfl 1 (by decide) (hts (.fieldLink RX0 15 "OldStadium$FiveInOne" "sums" "[I") (List.mem_of_getElem? (i := 5) rfl)) (fun _ h9 => h9) rfl dX0_canWin_58 ?_
      refine lv_iload hx hb dX0_canWin_61 (lv_at hl 4 rfl) ?_
      have b2 := z_c1 hf
      replace hf := z_c2 hf
      refine va_iald hx hb hK hP 2 0 rfl rfl b2 dX0_canWin_63 ?_
      refine lv_iload_n hx hb dX0_canWin_64 rfl (lv_at hl 2 rfl) ?_
      refine lv_aload_n hx hb dX0_canWin_65 rfl (lv_at hl 0 rfl) ?_
      refine va_get (D := (dC, dI)) (ci := 0) (v := .int x2) (C := RX0) (T := TX0) (N := 5) hx hb hts (fun w hw => List.mem_cons_of_mem _ (List.mem_append_right _ hw)) hown hK hP 0 rfl rfl 2 (by decide) (hts (.fieldLink RX0 18 "OldStadium$FiveInOne" "athletes" "I") (List.mem_of_getElem? (i := 4) rfl)) (fun _ h9 => h9) rfl dX0_canWin_66 ?_
      refine lv_imul hx hb dX0_canWin_69 ?_
      refine lv_iadd hx hb dX0_canWin_70 ?_
      obtain ⟨n3, hn3, hf1⟩ := z_ib hf
      replace hf := hf1
      clear hf1
      refine lv_topi (fun y9 ey9 => ?_)
      obtain rfl : n3 = y9 := (Option.some.inj hn3).symm.trans ey9.symm
      refine lv_istore (lv' := [(5, .int n3), (0, .ref h0), (1, .int v1), (2, .int v2), (3, .int v3), (4, .int v4)]) hx hb dX0_canWin_71 hl (by decide) rfl (fun ls hl => ?_)
      refine lv_iload hx hb dX0_canWin_73 (lv_at hl 5 rfl) ?_
      refine lv_iload_n hx hb dX0_canWin_75 rfl (lv_at hl 2 rfl) ?_
      refine lv_icmp_eq (tgt := 108) hx hb dX0_canWin_76 (by decide) (fun c4 => ?_) (fun c4 => ?_)
      · replace hf := z_ip hf c4
        refine lv_iinc (v := (v4 + 1)) (lv' := [(4, .int (v4 + 1)), (5, .int n3), (0, .ref h0), (1, .int v1), (2, .int v2), (3, .int v3)]) hx hb dX0_canWin_108 hl (k := 5) rfl rfl (by decide) rfl (fun ls hl => ?_)
        refine lv_goto (tgt := 48) hx hb dX0_canWin_111 (by decide) ?_
        exact ih hf hP hD hS (lv_sub hl [2, 3, 4, 5, 0] rfl) hret hexit
      · replace hf := z_im hf c4
        refine lv_iload_n hx hb dX0_canWin_79 rfl (lv_at hl 2 rfl) ?_
        refine lv_iload_n hx hb dX0_canWin_80 rfl (lv_at hl 4 rfl) ?_
        refine lv_aload_n hx hb dX0_canWin_81 rfl (lv_at hl 1 rfl) ?_
        refine va_get (D := (dC, dI)) (ci := 0) (v := .ref (a 1)) (C := RX0) (T := TX0) (N := 5) hx hb hts (fun w hw => List.mem_cons_of_mem _ (List.mem_append_right _ hw)) hown hK hP 0 rfl rfl 1 (by decide) (hts (.fieldLink RX0 15 "OldStadium$FiveInOne" "sums" "[I") (List.mem_of_getElem? (i := 5) rfl)) (fun _ h9 => h9) rfl dX0_canWin_82 ?_
        refine lv_iload_n hx hb dX0_canWin_85 rfl (lv_at hl 2 rfl) ?_
        have b5 := z_c1 hf
        replace hf := z_c2 hf
        refine va_iald hx hb hK hP 2 0 rfl rfl b5 dX0_canWin_86 ?_
        refine lv_iload_n hx hb dX0_canWin_87 rfl (lv_at hl 3 rfl) ?_
        refine lv_iadd hx hb dX0_canWin_88 ?_
        refine lv_iload hx hb dX0_canWin_89 (lv_at hl 5 rfl) ?_
        refine lv_aload_n hx hb dX0_canWin_91 rfl (lv_at hl 1 rfl) ?_
        refine va_get (D := (dC, dI)) (ci := 0) (v := .ref (a 0)) (C := RX0) (T := TX0) (N := 5) hx hb hts (fun w hw => List.mem_cons_of_mem _ (List.mem_append_right _ hw)) hown hK hP 0 rfl rfl 0 (by decide) (hts (.fieldLink RX0 11 "OldStadium$FiveInOne" "wins" "[I") (List.mem_of_getElem? (i := 3) rfl)) (fun _ h9 => h9) rfl dX0_canWin_92 ?_
        refine lv_iload hx hb dX0_canWin_95 (lv_at hl 5 rfl) ?_
        refine va_iald hx hb hK hP 1 0 rfl rfl b2 dX0_canWin_97 ?_
        refine lv_iload hx hb dX0_canWin_98 (lv_at hl 0 rfl) ?_
        obtain ⟨o6, ho6, hf1⟩ := z_ib hf
        replace hf := hf1
        clear hf1
        refine z_S0 (As := [.int v1, .int v3, .int ((f1 (Int32.toNatClampNeg v1)) + v2), .int v4, .int (f0 (Int32.toNatClampNeg v4)), .int n3]) (rest := []) ⟨hx, hb, hml, hown, hts⟩ (k_X0_isAhead l dC dI cI cZ cJ cA H.size N v1 v3 ((f1 (Int32.toNatClampNeg v1)) + v2) v4 (f0 (Int32.toNatClampNeg v4)) n3 o6 ho6) (va_cwS 6 hts gX0_canWin_X0_isAhead rfl rfl rfl (by decide +kernel) ⟨Nat.le_trans (Nat.le_of_ble_eq_true rfl) hRf, Nat.le_trans (Nat.le_of_ble_eq_true rfl) hRl⟩) hK hP hS hA hN rfl hl.1 rfl (Nat.le_of_ble_eq_true rfl) dX0_canWin_100 (fun H locs hP hS => ?_)
        refine lv_if_ne (tgt := 108) hx hb dX0_canWin_103 (by decide) (fun c7 => ?_) (fun c7 => ?_)
        · replace hf := z_im hf c7
          refine lv_iinc (v := (v4 + 1)) (lv' := [(4, .int (v4 + 1)), (5, .int n3), (0, .ref h0), (1, .int v1), (2, .int v2), (3, .int v3)]) hx hb dX0_canWin_108 hl (k := 5) rfl rfl (by decide) rfl (fun ls hl => ?_)
          refine lv_goto (tgt := 48) hx hb dX0_canWin_111 (by decide) ?_
          exact ih hf hP hD hS (lv_sub hl [2, 3, 4, 5, 0] rfl) hret hexit
        · replace hf := z_ip hf c7
          refine lv_iconst (v := 0) hx hb dX0_canWin_106 (by decide) ?_
          obtain rfl := Option.some.inj hf
          exact hret _ rfl _ _ _ _ _ dX0_canWin_107 rfl rfl hP hD hS
def q_X0_canWin (N : Nat) (v1 : Int32) (x2 : Int32) (x3 : Int32) (x4 : Int32) (f0 : (Nat → Int32)) (f1 : (Nat → Int32)) : Option Int32 :=
  (if x4 = (-1) then
   (if z_in v1 4 then
   (Option.bind (some (((f0 (Int32.toNatClampNeg v1)) + (5 - x3)) : Int32)) (fun n3 =>
   (if n3 < 3 then
    (Option.bind (q_X0_canWin_L48 N v1 (5 - x3) n3 x2 f0 f1 N 0) (Sum.elim (fun r7 => (some r7)) (fun s6 =>
    (some 1))))
   else
    (some 1))))
   else none)
  else
   (if x4 = v1 then
    (some 1)
   else
    (some 0)))
set_option maxHeartbeats 4000000 in
set_option maxRecDepth 100000 in
theorem b_X0_canWin {p : Program} {l : Launch} {e : Env} {R : Room} {s : State} {m : MethodId} {args : Array Value} {below : List Frame} {meth : Method} {c : Code} {Q : State → Prop} {A : Nat → Prop} {dC : Nat → ClassId} {dI : Nat → Nat → Nat} {cI cZ cJ cA : ClassId} {h0 : Nat} {a : Nat → Nat} (N : Nat) (C0 : z_Cx p s m args c cX0_canWin 6 wsX0_canWin RX0 R 1 25 A dC dI (z_ty cI cZ cJ cA)) {v1 : Int32} {x2 : Int32} {x3 : Int32} {x4 : Int32} {f0 : (Nat → Int32)} {f1 : (Nat → Int32)} {o : Int32} {H : Heap} {locs : List Loc} {ls : Array Slot} (hf : q_X0_canWin N v1 x2 x3 x4 f0 f1 = some o) (hP : va_P (dC, dI) vwCl (wX0 cI cZ cJ cA h0 a x2 x3 x4 f0 f1) H) (hD : va_D A (wX0 cI cZ cJ cA h0 a x2 x3 x4 f0 f1)) (hS : va_S A s.heap H locs) (hl : lv_has ls 6 [(0, .ref h0), (1, .int v1)])
    (hret : ∀ (pc : Nat) (H : Heap) (locs : List Loc) (ls : Array Slot) (r : Int32), decode cX0_canWin pc = .ok (.ireturn, 1) → r = o → narrow .boolean (.int r) = .int r → va_P (dC, dI) vwCl (wX0 cI cZ cJ cA h0 a x2 x3 x4 f0 f1) H → va_D A (wX0 cI cZ cJ cA h0 a x2 x3 x4 f0 f1) → va_S A s.heap H locs → W p l e R s m args below meth c H locs 0 0 Q (F0 m pc ls [.int r])) :
    W p l e R s m args below meth c H locs 0 0 Q (F0 m 0 ls []) := by
  obtain ⟨⟨hx, hb, hml, hown, hts⟩, hRf, hRl, hA, hN, hK⟩ := C0
  unfold q_X0_canWin at hf
  refine lv_aload_n hx hb dX0_canWin_0 rfl (lv_at hl 0 rfl) ?_
  refine va_get (D := (dC, dI)) (ci := 0) (v := .int x4) (C := RX0) (T := TX0) (N := 5) hx hb hts (fun w hw => List.mem_cons_of_mem _ (List.mem_append_right _ hw)) hown hK hP 0 rfl rfl 4 (by decide) (hts (.fieldLink RX0 25 "OldStadium$FiveInOne" "champion" "I") (List.mem_of_getElem? (i := 1) rfl)) (fun _ h9 => h9) rfl dX0_canWin_1 ?_
  refine lv_iconst (v := (-1)) hx hb dX0_canWin_4 (by decide) ?_
  refine lv_icmp_eq (tgt := 22) hx hb dX0_canWin_5 (by decide) (fun c1 => ?_) (fun c1 => ?_)
  · replace hf := z_ip hf c1
    refine lv_iconst (v := 5) hx hb dX0_canWin_22 (by decide) ?_
    refine lv_aload_n hx hb dX0_canWin_23 rfl (lv_at hl 0 rfl) ?_
    refine va_get (D := (dC, dI)) (ci := 0) (v := .int x3) (C := RX0) (T := TX0) (N := 5) hx hb hts (fun w hw => List.mem_cons_of_mem _ (List.mem_append_right _ hw)) hown hK hP 0 rfl rfl 3 (by decide) (hts (.fieldLink RX0 22 "OldStadium$FiveInOne" "told" "I") (List.mem_of_getElem? (i := 2) rfl)) (fun _ h9 => h9) rfl dX0_canWin_24 ?_
    refine lv_isub hx hb dX0_canWin_27 ?_
    refine lv_istore_n (lv' := [(2, .int (5 - x3)), (0, .ref h0), (1, .int v1)]) hx hb dX0_canWin_28 rfl hl (by decide) rfl (fun ls hl => ?_)
    refine lv_aload_n hx hb dX0_canWin_29 rfl (lv_at hl 1 rfl) ?_
    refine va_get (D := (dC, dI)) (ci := 0) (v := .ref (a 0)) (C := RX0) (T := TX0) (N := 5) hx hb hts (fun w hw => List.mem_cons_of_mem _ (List.mem_append_right _ hw)) hown hK hP 0 rfl rfl 0 (by decide) (hts (.fieldLink RX0 11 "OldStadium$FiveInOne" "wins" "[I") (List.mem_of_getElem? (i := 3) rfl)) (fun _ h9 => h9) rfl dX0_canWin_30 ?_
    refine lv_iload_n hx hb dX0_canWin_33 rfl (lv_at hl 2 rfl) ?_
    have b2 := z_c1 hf
    replace hf := z_c2 hf
    refine va_iald hx hb hK hP 1 0 rfl rfl b2 dX0_canWin_34 ?_
    refine lv_iload_n hx hb dX0_canWin_35 rfl (lv_at hl 0 rfl) ?_
    refine lv_iadd hx hb dX0_canWin_36 ?_
    obtain ⟨n3, hn3, hf1⟩ := z_ib hf
    replace hf := hf1
    clear hf1
    refine lv_topi (fun y9 ey9 => ?_)
    obtain rfl : n3 = y9 := (Option.some.inj hn3).symm.trans ey9.symm
    refine lv_istore_n (lv' := [(3, .int n3), (2, .int (5 - x3)), (0, .ref h0), (1, .int v1)]) hx hb dX0_canWin_37 rfl hl (by decide) rfl (fun ls hl => ?_)
    refine lv_iload_n hx hb dX0_canWin_38 rfl (lv_at hl 0 rfl) ?_
    refine lv_iconst (v := 3) hx hb dX0_canWin_39 (by decide) ?_
    refine lv_icmp_lt (tgt := 45) hx hb dX0_canWin_40 (by decide) (fun c4 => ?_) (fun c4 => ?_)
    · replace hf := z_ip hf c4
      refine lv_iconst (v := 0) hx hb dX0_canWin_45 (by decide) ?_
      refine lv_istore (lv' := [(4, .int 0), (3, .int n3), (2, .int (5 - x3)), (0, .ref h0), (1, .int v1)]) hx hb dX0_canWin_46 hl (by decide) rfl (fun ls hl => ?_)
      obtain ⟨t5, ht5, hf1⟩ := z_ib hf
      replace hf := hf1
      clear hf1
      refine b_X0_canWin_L48 N ⟨⟨hx, hb, hml, hown, hts⟩, hRf, hRl, hA, hN, hK⟩ N ht5 hP hD hS (lv_sub hl [3, 4, 2, 1, 0] rfl) (fun r7 e1 pc H locs ls r0 hd hr hn hP hD hS => ?_) (fun s6 H locs ls e1 hP hD hS hl => ?_)
      · subst e1
        have hf := z_sl hf
        obtain rfl := Option.some.inj hf
        exact hret pc H locs ls r0 hd hr hn hP hD hS
      subst e1
      replace hf := z_sr hf
      refine lv_iconst (v := 1) hx hb dX0_canWin_114 (by decide) ?_
      obtain rfl := Option.some.inj hf
      exact hret _ _ _ _ _ dX0_canWin_115 rfl rfl hP hD hS
    · replace hf := z_im hf c4
      refine lv_iconst (v := 1) hx hb dX0_canWin_43 (by decide) ?_
      obtain rfl := Option.some.inj hf
      exact hret _ _ _ _ _ dX0_canWin_44 rfl rfl hP hD hS
  · replace hf := z_im hf c1
    refine lv_aload_n hx hb dX0_canWin_8 rfl (lv_at hl 0 rfl) ?_
    refine va_get (D := (dC, dI)) (ci := 0) (v := .int x4) (C := RX0) (T := TX0) (N := 5) hx hb hts (fun w hw => List.mem_cons_of_mem _ (List.mem_append_right _ hw)) hown hK hP 0 rfl rfl 4 (by decide) (hts (.fieldLink RX0 25 "OldStadium$FiveInOne" "champion" "I") (List.mem_of_getElem? (i := 1) rfl)) (fun _ h9 => h9) rfl dX0_canWin_9 ?_
    refine lv_iload_n hx hb dX0_canWin_12 rfl (lv_at hl 1 rfl) ?_
    refine lv_icmp_ne (tgt := 20) hx hb dX0_canWin_13 (by decide) (fun c8 => ?_) (fun c8 => ?_)
    · replace hf := z_im hf c8
      refine lv_iconst (v := 0) hx hb dX0_canWin_20 (by decide) ?_
      obtain rfl := Option.some.inj hf
      exact hret _ _ _ _ _ dX0_canWin_21 rfl rfl hP hD hS
    · replace hf := z_ip hf c8
      refine lv_iconst (v := 1) hx hb dX0_canWin_16 (by decide) ?_
      refine lv_goto (tgt := 21) hx hb dX0_canWin_17 (by decide) ?_
      obtain rfl := Option.some.inj hf
      exact hret _ _ _ _ _ dX0_canWin_21 rfl rfl hP hD hS
set_option maxHeartbeats 4000000 in
set_option maxRecDepth 100000 in
theorem k_X0_canWin (l : Launch) (dC : Nat → ClassId) (dI : Nat → Nat → Nat) (cI cZ cJ cA : ClassId) (h0 : Nat) (a : Nat → Nat) (sz : Nat) (N : Nat) (v1 : Int32) (x2 : Int32) (x3 : Int32) (x4 : Int32) (f0 : (Nat → Int32)) (f1 : (Nat → Int32)) (o : Int32) (hf : q_X0_canWin N v1 x2 x3 x4 f0 f1 = some o) : Met l yX0_canWin wsX0_canWin ({ frames := 1, cells := 0, slots := 0, locals := 25 } : Room) (z_Pre dC dI (z_ty cI cZ cJ cA) [.ref h0, .int v1] sz (wX0 cI cZ cJ cA h0 a x2 x3 x4 f0 f1)) (z_Pi dC dI o (wX0 cI cZ cJ cA h0 a x2 x3 x4 f0 f1) sz (wX0 cI cZ cJ cA h0 a x2 x3 x4 f0 f1)) 0 0 (va_A (wX0 cI cZ cJ cA h0 a x2 x3 x4 f0 f1) sz) := by
  refine Met.ofW (cc := cX0_canWin) (maxL := 6) (ret := (some .boolean)) (by decide) rfl ?_
  intro p e s m args below meth c s₁ B hml hv
  obtain ⟨rfl, hsz, hP, hK, hD0, hN⟩ := hv
  subst hsz
  have hl := lv_entry ([.ref h0, .int v1]) (n := 6) (Nat.le_of_ble_eq_true rfl)
  rw [lg_entry_eq]
  refine b_X0_canWin N ⟨⟨B.exec, B.bytes, hml, findClass_of_methodNamed B.named, atoms_spec (ws := wsX0_canWin) B.pre⟩, Nat.le_refl _, Nat.le_refl _, fun q h => Or.inr h, hN, hK⟩ hf hP hD0.self va_S.rf hl (fun pc H locs ls r hd hr hn hP hD hS => ?_)
  subst hr
  exact W.zret B.exec B.bytes B.returns hn (fun t ht hW => ⟨⟨_, (), rfl, rfl, by rw [ht]; exact hP, hD⟩, hS.F ht⟩) hS.2.2 hd
def q_X0_tell (N : Nat) (v1 : Int32) (v2 : Int32) (x2 : Int32) (x3 : Int32) (x4 : Int32) (f0 : (Nat → Int32)) (f1 : (Nat → Int32)) : Option Int32 :=
  (if v1 < 0 then
   (some (-1))
  else
   (if v1 < x2 then
    (if v2 = 0 then
     (if z_in v1 4 then
     (some (f0 (Int32.toNatClampNeg v1)))
     else none)
    else
    (if v2 = 1 then
     (if z_in v1 4 then
     (some (f1 (Int32.toNatClampNeg v1)))
     else none)
    else
    (if v2 = 2 then
     (Option.bind (q_X0_canWin N v1 x2 x3 x4 f0 f1) (fun o8 =>
     (if o8 = 0 then
      (some 0)
     else
      (some 1))))
    else
    (some (-1)))))
   else
    (some (-1))))
set_option maxHeartbeats 4000000 in
set_option maxRecDepth 100000 in
theorem b_X0_tell {p : Program} {l : Launch} {e : Env} {R : Room} {s : State} {m : MethodId} {args : Array Value} {below : List Frame} {meth : Method} {c : Code} {Q : State → Prop} {A : Nat → Prop} {dC : Nat → ClassId} {dI : Nat → Nat → Nat} {cI cZ cJ cA : ClassId} {h0 : Nat} {a : Nat → Nat} (N : Nat) (C0 : z_Cx p s m args c cX0_tell 3 wsX0_tell RX0 R 2 50 A dC dI (z_ty cI cZ cJ cA)) {v1 : Int32} {v2 : Int32} {x2 : Int32} {x3 : Int32} {x4 : Int32} {f0 : (Nat → Int32)} {f1 : (Nat → Int32)} {o : Int32} {H : Heap} {locs : List Loc} {ls : Array Slot} (hf : q_X0_tell N v1 v2 x2 x3 x4 f0 f1 = some o) (hP : va_P (dC, dI) vwCl (wX0 cI cZ cJ cA h0 a x2 x3 x4 f0 f1) H) (hD : va_D A (wX0 cI cZ cJ cA h0 a x2 x3 x4 f0 f1)) (hS : va_S A s.heap H locs) (hl : lv_has ls 3 [(0, .ref h0), (1, .int v1), (2, .int v2)])
    (hret : ∀ (pc : Nat) (H : Heap) (locs : List Loc) (ls : Array Slot) (r : Int32), decode cX0_tell pc = .ok (.ireturn, 1) → r = o → va_P (dC, dI) vwCl (wX0 cI cZ cJ cA h0 a x2 x3 x4 f0 f1) H → va_D A (wX0 cI cZ cJ cA h0 a x2 x3 x4 f0 f1) → va_S A s.heap H locs → W p l e R s m args below meth c H locs 0 0 Q (F0 m pc ls [.int r])) :
    W p l e R s m args below meth c H locs 0 0 Q (F0 m 0 ls []) := by
  obtain ⟨⟨hx, hb, hml, hown, hts⟩, hRf, hRl, hA, hN, hK⟩ := C0
  unfold q_X0_tell at hf
  refine lv_iload_n hx hb dX0_tell_0 rfl (lv_at hl 1 rfl) ?_
  refine lv_if_lt (tgt := 12) hx hb dX0_tell_1 (by decide) (fun c1 => ?_) (fun c1 => ?_)
  · replace hf := z_ip hf c1
    refine lv_iconst (v := (-1)) hx hb dX0_tell_12 (by decide) ?_
    obtain rfl := Option.some.inj hf
    exact hret _ _ _ _ _ dX0_tell_13 rfl hP hD hS
  · replace hf := z_im hf c1
    refine lv_iload_n hx hb dX0_tell_4 rfl (lv_at hl 1 rfl) ?_
    refine lv_aload_n hx hb dX0_tell_5 rfl (lv_at hl 0 rfl) ?_
    refine va_get (D := (dC, dI)) (ci := 0) (v := .int x2) (C := RX0) (T := TX0) (N := 5) hx hb hts (fun w hw => List.mem_cons_of_mem _ (List.mem_append_right _ hw)) hown hK hP 0 rfl rfl 2 (by decide) (hts (.fieldLink RX0 18 "OldStadium$FiveInOne" "athletes" "I") (List.mem_of_getElem? (i := 1) rfl)) (fun _ h9 => h9) rfl dX0_tell_6 ?_
    refine lv_icmp_lt (tgt := 14) hx hb dX0_tell_9 (by decide) (fun c2 => ?_) (fun c2 => ?_)
    · replace hf := z_ip hf c2
      refine lv_iload_n hx hb dX0_tell_14 rfl (lv_at hl 2 rfl) ?_
      by_cases c3 : v2 = 0
      · replace hf := z_ip hf c3
        refine lv_tableIn (tgt := 40) hx hb dX0_tell_15 (by rw [z_tin (k := 0) c3 (by omega)]; decide) (by rw [z_tin (k := 0) c3 (by omega)]; decide) (by rw [z_tin (k := 0) c3 (by omega)]; rfl) (by decide) ?_
        refine lv_aload_n hx hb dX0_tell_40 rfl (lv_at hl 0 rfl) ?_
        refine va_get (D := (dC, dI)) (ci := 0) (v := .ref (a 0)) (C := RX0) (T := TX0) (N := 5) hx hb hts (fun w hw => List.mem_cons_of_mem _ (List.mem_append_right _ hw)) hown hK hP 0 rfl rfl 0 (by decide) (hts (.fieldLink RX0 11 "OldStadium$FiveInOne" "wins" "[I") (List.mem_of_getElem? (i := 2) rfl)) (fun _ h9 => h9) rfl dX0_tell_41 ?_
        refine lv_iload_n hx hb dX0_tell_44 rfl (lv_at hl 1 rfl) ?_
        have b6 := z_c1 hf
        replace hf := z_c2 hf
        refine va_iald hx hb hK hP 1 0 rfl rfl b6 dX0_tell_45 ?_
        obtain rfl := Option.some.inj hf
        exact hret _ _ _ _ _ dX0_tell_46 rfl hP hD hS
      replace hf := z_im hf c3
      by_cases c4 : v2 = 1
      · replace hf := z_ip hf c4
        refine lv_tableIn (tgt := 47) hx hb dX0_tell_15 (by rw [z_tin (k := 1) c4 (by omega)]; decide) (by rw [z_tin (k := 1) c4 (by omega)]; decide) (by rw [z_tin (k := 1) c4 (by omega)]; rfl) (by decide) ?_
        refine lv_aload_n hx hb dX0_tell_47 rfl (lv_at hl 0 rfl) ?_
        refine va_get (D := (dC, dI)) (ci := 0) (v := .ref (a 1)) (C := RX0) (T := TX0) (N := 5) hx hb hts (fun w hw => List.mem_cons_of_mem _ (List.mem_append_right _ hw)) hown hK hP 0 rfl rfl 1 (by decide) (hts (.fieldLink RX0 15 "OldStadium$FiveInOne" "sums" "[I") (List.mem_of_getElem? (i := 3) rfl)) (fun _ h9 => h9) rfl dX0_tell_48 ?_
        refine lv_iload_n hx hb dX0_tell_51 rfl (lv_at hl 1 rfl) ?_
        have b7 := z_c1 hf
        replace hf := z_c2 hf
        refine va_iald hx hb hK hP 2 0 rfl rfl b7 dX0_tell_52 ?_
        obtain rfl := Option.some.inj hf
        exact hret _ _ _ _ _ dX0_tell_53 rfl hP hD hS
      replace hf := z_im hf c4
      by_cases c5 : v2 = 2
      · replace hf := z_ip hf c5
        refine lv_tableIn (tgt := 54) hx hb dX0_tell_15 (by rw [z_tin (k := 2) c5 (by omega)]; decide) (by rw [z_tin (k := 2) c5 (by omega)]; decide) (by rw [z_tin (k := 2) c5 (by omega)]; rfl) (by decide) ?_
        refine lv_aload_n hx hb dX0_tell_54 rfl (lv_at hl 0 rfl) ?_
        refine lv_iload_n hx hb dX0_tell_55 rfl (lv_at hl 1 rfl) ?_
        obtain ⟨o8, ho8, hf1⟩ := z_ib hf
        replace hf := hf1
        clear hf1
        refine z_Vi (As := [.int v1]) (rest := []) (w := (wX0 cI cZ cJ cA h0 a x2 x3 x4 f0 f1)) (w1 := (wX0 cI cZ cJ cA h0 a x2 x3 x4 f0 f1)) ⟨hx, hb, hml, hown, hts⟩ (k_X0_canWin l dC dI cI cZ cJ cA h0 a H.size N v1 x2 x3 x4 f0 f1 o8 ho8) (cwV 1 hts gX0_tell_X0_canWin rfl rfl rfl (by decide +kernel) ⟨Nat.le_trans (Nat.le_of_ble_eq_true rfl) hRf, Nat.le_trans (Nat.le_of_ble_eq_true rfl) hRl⟩) hK hP hD hS hA hN (ci := 0) rfl rfl rfl rfl hl.1 rfl (Nat.le_of_ble_eq_true rfl) dX0_tell_56 (fun H locs hP hD hS => ?_)
        refine lv_if_eq (tgt := 66) hx hb dX0_tell_59 (by decide) (fun c9 => ?_) (fun c9 => ?_)
        · replace hf := z_ip hf c9
          refine lv_iconst (v := 0) hx hb dX0_tell_66 (by decide) ?_
          obtain rfl := Option.some.inj hf
          exact hret _ _ _ _ _ dX0_tell_67 rfl hP hD hS
        · replace hf := z_im hf c9
          refine lv_iconst (v := 1) hx hb dX0_tell_62 (by decide) ?_
          refine lv_goto (tgt := 67) hx hb dX0_tell_63 (by decide) ?_
          obtain rfl := Option.some.inj hf
          exact hret _ _ _ _ _ dX0_tell_67 rfl hP hD hS
      replace hf := z_im hf c5
      refine lv_tableOut (tgt := 68) hx hb dX0_tell_15 (z_tout (n := 2) ⟨⟨⟨trivial, c3⟩, c4⟩, c5⟩ (by omega)) (by decide) ?_
      refine lv_iconst (v := (-1)) hx hb dX0_tell_68 (by decide) ?_
      obtain rfl := Option.some.inj hf
      exact hret _ _ _ _ _ dX0_tell_69 rfl hP hD hS
    · replace hf := z_im hf c2
      refine lv_iconst (v := (-1)) hx hb dX0_tell_12 (by decide) ?_
      obtain rfl := Option.some.inj hf
      exact hret _ _ _ _ _ dX0_tell_13 rfl hP hD hS
set_option maxHeartbeats 4000000 in
set_option maxRecDepth 100000 in
theorem k_X0_tell (l : Launch) (dC : Nat → ClassId) (dI : Nat → Nat → Nat) (cI cZ cJ cA : ClassId) (h0 : Nat) (a : Nat → Nat) (sz : Nat) (N : Nat) (v1 : Int32) (v2 : Int32) (x2 : Int32) (x3 : Int32) (x4 : Int32) (f0 : (Nat → Int32)) (f1 : (Nat → Int32)) (o : Int32) (hf : q_X0_tell N v1 v2 x2 x3 x4 f0 f1 = some o) : Met l yX0_tell wsX0_tell ({ frames := 2, cells := 0, slots := 0, locals := 50 } : Room) (z_Pre dC dI (z_ty cI cZ cJ cA) [.ref h0, .int v1, .int v2] sz (wX0 cI cZ cJ cA h0 a x2 x3 x4 f0 f1)) (z_Pi dC dI o (wX0 cI cZ cJ cA h0 a x2 x3 x4 f0 f1) sz (wX0 cI cZ cJ cA h0 a x2 x3 x4 f0 f1)) 0 0 (va_A (wX0 cI cZ cJ cA h0 a x2 x3 x4 f0 f1) sz) := by
  refine Met.ofW (cc := cX0_tell) (maxL := 3) (ret := (some .int)) (by decide) rfl ?_
  intro p e s m args below meth c s₁ B hml hv
  obtain ⟨rfl, hsz, hP, hK, hD0, hN⟩ := hv
  subst hsz
  have hl := lv_entry ([.ref h0, .int v1, .int v2]) (n := 3) (Nat.le_of_ble_eq_true rfl)
  rw [lg_entry_eq]
  refine b_X0_tell N ⟨⟨B.exec, B.bytes, hml, findClass_of_methodNamed B.named, atoms_spec (ws := wsX0_tell) B.pre⟩, Nat.le_refl _, Nat.le_refl _, fun q h => Or.inr h, hN, hK⟩ hf hP hD0.self va_S.rf hl (fun pc H locs ls r hd hr hP hD hS => ?_)
  subst hr
  exact W.iret B.exec B.bytes B.returns (fun t ht hW => ⟨⟨_, (), rfl, rfl, by rw [ht]; exact hP, hD⟩, hS.F ht⟩) hS.2.2 hd

def q_X3_isStone (N : Nat) (v1 : Int32) (x7 : Int32) : Option Int32 :=
  (if v1 < 0 then
   (some 0)
  else
   (if x7 ≤ v1 then
    (some 0)
   else
    (some 1)))
set_option maxHeartbeats 4000000 in
set_option maxRecDepth 100000 in
theorem b_X3_isStone {p : Program} {l : Launch} {e : Env} {R : Room} {s : State} {m : MethodId} {args : Array Value} {below : List Frame} {meth : Method} {c : Code} {Q : State → Prop} {A : Nat → Prop} {dC : Nat → ClassId} {dI : Nat → Nat → Nat} {cI cZ cJ cA : ClassId} {h0 : Nat} {a : Nat → Nat} (N : Nat) (C0 : z_Cx p s m args c cX3_isStone 2 wsX3_isStone RX3 R 0 0 A dC dI (z_ty cI cZ cJ cA)) {v1 : Int32} {x7 : Int32} {x8 : Int32} {x12 : Int32} {x13 : Int32} {f0 : (Nat → Int32)} {f1 : (Nat → Int32)} {f2 : (Nat → Int32)} {f3 : (Nat → Int32)} {f4 : (Nat → Int32)} {f5 : (Nat → Int32)} {f6 : (Nat → Int32)} {f9 : (Nat → Int32)} {f10 : (Nat → Int32)} {f11 : (Nat → Int64)} {o : Int32} {H : Heap} {locs : List Loc} {ls : Array Slot} (hf : q_X3_isStone N v1 x7 = some o) (hP : va_P (dC, dI) vwCl (wX3 cI cZ cJ cA h0 a x7 x8 x12 x13 f0 f1 f2 f3 f4 f5 f6 f9 f10 f11) H) (hD : va_D A (wX3 cI cZ cJ cA h0 a x7 x8 x12 x13 f0 f1 f2 f3 f4 f5 f6 f9 f10 f11)) (hS : va_S A s.heap H locs) (hl : lv_has ls 2 [(0, .ref h0), (1, .int v1)])
    (hret : ∀ (pc : Nat) (H : Heap) (locs : List Loc) (ls : Array Slot) (r : Int32), decode cX3_isStone pc = .ok (.ireturn, 1) → r = o → narrow .boolean (.int r) = .int r → va_P (dC, dI) vwCl (wX3 cI cZ cJ cA h0 a x7 x8 x12 x13 f0 f1 f2 f3 f4 f5 f6 f9 f10 f11) H → va_D A (wX3 cI cZ cJ cA h0 a x7 x8 x12 x13 f0 f1 f2 f3 f4 f5 f6 f9 f10 f11) → va_S A s.heap H locs → W p l e R s m args below meth c H locs 0 0 Q (F0 m pc ls [.int r])) :
    W p l e R s m args below meth c H locs 0 0 Q (F0 m 0 ls []) := by
  obtain ⟨⟨hx, hb, hml, hown, hts⟩, hRf, hRl, hA, hN, hK⟩ := C0
  unfold q_X3_isStone at hf
  refine lv_iload_n hx hb dX3_isStone_0 rfl (lv_at hl 1 rfl) ?_
  refine lv_if_lt (tgt := 16) hx hb dX3_isStone_1 (by decide) (fun c1 => ?_) (fun c1 => ?_)
  · replace hf := z_ip hf c1
    refine lv_iconst (v := 0) hx hb dX3_isStone_16 (by decide) ?_
    obtain rfl := Option.some.inj hf
    exact hret _ _ _ _ _ dX3_isStone_17 rfl rfl hP hD hS
  · replace hf := z_im hf c1
    refine lv_iload_n hx hb dX3_isStone_4 rfl (lv_at hl 1 rfl) ?_
    refine lv_aload_n hx hb dX3_isStone_5 rfl (lv_at hl 0 rfl) ?_
    refine va_get (D := (dC, dI)) (ci := 3) (v := .int x7) (C := RX3) (T := TX3) (N := 14) hx hb hts (fun w hw => List.mem_cons_of_mem _ (List.mem_append_right _ hw)) hown hK hP 0 rfl rfl 7 (by decide) (hts (.fieldLink RX3 33 "OldStadium$Quarry" "stones" "I") (List.mem_of_getElem? (i := 1) rfl)) (fun _ h9 => h9) rfl dX3_isStone_6 ?_
    refine lv_icmp_ge (tgt := 16) hx hb dX3_isStone_9 (by decide) (fun c2 => ?_) (fun c2 => ?_)
    · replace hf := z_ip hf c2
      refine lv_iconst (v := 0) hx hb dX3_isStone_16 (by decide) ?_
      obtain rfl := Option.some.inj hf
      exact hret _ _ _ _ _ dX3_isStone_17 rfl rfl hP hD hS
    · replace hf := z_im hf c2
      refine lv_iconst (v := 1) hx hb dX3_isStone_12 (by decide) ?_
      refine lv_goto (tgt := 17) hx hb dX3_isStone_13 (by decide) ?_
      obtain rfl := Option.some.inj hf
      exact hret _ _ _ _ _ dX3_isStone_17 rfl rfl hP hD hS
set_option maxHeartbeats 4000000 in
set_option maxRecDepth 100000 in
theorem k_X3_isStone (l : Launch) (dC : Nat → ClassId) (dI : Nat → Nat → Nat) (cI cZ cJ cA : ClassId) (h0 : Nat) (a : Nat → Nat) (sz : Nat) (N : Nat) (v1 : Int32) (x7 : Int32) (x8 : Int32) (x12 : Int32) (x13 : Int32) (f0 : (Nat → Int32)) (f1 : (Nat → Int32)) (f2 : (Nat → Int32)) (f3 : (Nat → Int32)) (f4 : (Nat → Int32)) (f5 : (Nat → Int32)) (f6 : (Nat → Int32)) (f9 : (Nat → Int32)) (f10 : (Nat → Int32)) (f11 : (Nat → Int64)) (o : Int32) (hf : q_X3_isStone N v1 x7 = some o) : Met l yX3_isStone wsX3_isStone ({ frames := 0, cells := 0, slots := 0, locals := 0 } : Room) (z_Pre dC dI (z_ty cI cZ cJ cA) [.ref h0, .int v1] sz (wX3 cI cZ cJ cA h0 a x7 x8 x12 x13 f0 f1 f2 f3 f4 f5 f6 f9 f10 f11)) (z_Pi dC dI o (wX3 cI cZ cJ cA h0 a x7 x8 x12 x13 f0 f1 f2 f3 f4 f5 f6 f9 f10 f11) sz (wX3 cI cZ cJ cA h0 a x7 x8 x12 x13 f0 f1 f2 f3 f4 f5 f6 f9 f10 f11)) 0 0 (va_A (wX3 cI cZ cJ cA h0 a x7 x8 x12 x13 f0 f1 f2 f3 f4 f5 f6 f9 f10 f11) sz) := by
  refine Met.ofW (cc := cX3_isStone) (maxL := 2) (ret := (some .boolean)) (by decide) rfl ?_
  intro p e s m args below meth c s₁ B hml hv
  obtain ⟨rfl, hsz, hP, hK, hD0, hN⟩ := hv
  subst hsz
  have hl := lv_entry ([.ref h0, .int v1]) (n := 2) (Nat.le_of_ble_eq_true rfl)
  rw [lg_entry_eq]
  refine b_X3_isStone N ⟨⟨B.exec, B.bytes, hml, findClass_of_methodNamed B.named, atoms_spec (ws := wsX3_isStone) B.pre⟩, Nat.le_refl _, Nat.le_refl _, fun q h => Or.inr h, hN, hK⟩ hf hP hD0.self va_S.rf hl (fun pc H locs ls r hd hr hn hP hD hS => ?_)
  subst hr
  exact W.zret B.exec B.bytes B.returns hn (fun t ht hW => ⟨⟨_, (), rfl, rfl, by rw [ht]; exact hP, hD⟩, hS.F ht⟩) hS.2.2 hd
def q_X3_forget (N : Nat) (x12 : Int32) (x13 : Int32) : Option (Int32 × Int32) :=
  (some ((-1), (-1)))
set_option maxHeartbeats 4000000 in
set_option maxRecDepth 100000 in
theorem b_X3_forget {p : Program} {l : Launch} {e : Env} {R : Room} {s : State} {m : MethodId} {args : Array Value} {below : List Frame} {meth : Method} {c : Code} {Q : State → Prop} {A : Nat → Prop} {dC : Nat → ClassId} {dI : Nat → Nat → Nat} {cI cZ cJ cA : ClassId} {h0 : Nat} {a : Nat → Nat} (N : Nat) (C0 : z_Cx p s m args c cX3_forget 1 wsX3_forget RX3 R 0 0 A dC dI (z_ty cI cZ cJ cA)) {x7 : Int32} {x8 : Int32} {x12 : Int32} {x13 : Int32} {f0 : (Nat → Int32)} {f1 : (Nat → Int32)} {f2 : (Nat → Int32)} {f3 : (Nat → Int32)} {f4 : (Nat → Int32)} {f5 : (Nat → Int32)} {f6 : (Nat → Int32)} {f9 : (Nat → Int32)} {f10 : (Nat → Int32)} {f11 : (Nat → Int64)} {o : (Int32 × Int32)} {H : Heap} {locs : List Loc} {ls : Array Slot} (hf : q_X3_forget N x12 x13 = some o) (hP : va_P (dC, dI) vwCl (wX3 cI cZ cJ cA h0 a x7 x8 x12 x13 f0 f1 f2 f3 f4 f5 f6 f9 f10 f11) H) (hD : va_D A (wX3 cI cZ cJ cA h0 a x7 x8 x12 x13 f0 f1 f2 f3 f4 f5 f6 f9 f10 f11)) (hS : va_S A s.heap H locs) (hl : lv_has ls 1 [(0, .ref h0)])
    (hret : ∀ (pc : Nat) (H : Heap) (locs : List Loc) (ls : Array Slot), decode cX3_forget pc = .ok (.return_, 1) → va_P (dC, dI) vwCl (wX3 cI cZ cJ cA h0 a x7 x8 o.1 o.2 f0 f1 f2 f3 f4 f5 f6 f9 f10 f11) H → va_D A (wX3 cI cZ cJ cA h0 a x7 x8 o.1 o.2 f0 f1 f2 f3 f4 f5 f6 f9 f10 f11) → va_S A s.heap H locs → W p l e R s m args below meth c H locs 0 0 Q (F0 m pc ls [])) :
    W p l e R s m args below meth c H locs 0 0 Q (F0 m 0 ls []) := by
  obtain ⟨⟨hx, hb, hml, hown, hts⟩, hRf, hRl, hA, hN, hK⟩ := C0
  unfold q_X3_forget at hf
  refine lv_aload_n hx hb dX3_forget_0 rfl (lv_at hl 0 rfl) ?_
  refine lv_iconst (v := (-1)) hx hb dX3_forget_1 (by decide) ?_
  refine va_put (D := (dC, dI)) (ci := 3) (v := .int (-1)) (ty := .int) (C := RX3) (T := TX3) (N := 14) hx hb hts (fun w hw => List.mem_cons_of_mem _ (List.mem_append_right _ hw)) tyX3 tyX3_ok nmX3 hown hK hP hD hS 0 rfl rfl 12 (by decide) (hts (.fieldLink RX3 50 "OldStadium$Quarry" "rolls" "I") (List.mem_of_getElem? (i := 1) rfl)) (fun _ h9 => h9) rfl (by decide +kernel) rfl rfl (Nat.le_of_ble_eq_true rfl) dX3_forget_2 (fun H locs hP hD hS => ?_)
  replace hP : va_P (dC, dI) vwCl (wX3 cI cZ cJ cA h0 a x7 x8 (-1) x13 f0 f1 f2 f3 f4 f5 f6 f9 f10 f11) H := hP
  replace hD : va_D A (wX3 cI cZ cJ cA h0 a x7 x8 (-1) x13 f0 f1 f2 f3 f4 f5 f6 f9 f10 f11) := hD
  refine lv_aload_n hx hb dX3_forget_5 rfl (lv_at hl 0 rfl) ?_
  refine lv_iconst (v := (-1)) hx hb dX3_forget_6 (by decide) ?_
  refine va_put (D := (dC, dI)) (ci := 3) (v := .int (-1)) (ty := .int) (C := RX3) (T := TX3) (N := 14) hx hb hts (fun w hw => List.mem_cons_of_mem _ (List.mem_append_right _ hw)) tyX3 tyX3_ok nmX3 hown hK hP hD hS 0 rfl rfl 13 (by decide) (hts (.fieldLink RX3 53 "OldStadium$Quarry" "fewest" "I") (List.mem_of_getElem? (i := 2) rfl)) (fun _ h9 => h9) rfl (by decide +kernel) rfl rfl (Nat.le_of_ble_eq_true rfl) dX3_forget_7 (fun H locs hP hD hS => ?_)
  replace hP : va_P (dC, dI) vwCl (wX3 cI cZ cJ cA h0 a x7 x8 (-1) (-1) f0 f1 f2 f3 f4 f5 f6 f9 f10 f11) H := hP
  replace hD : va_D A (wX3 cI cZ cJ cA h0 a x7 x8 (-1) (-1) f0 f1 f2 f3 f4 f5 f6 f9 f10 f11) := hD
  obtain rfl := Option.some.inj hf
  exact hret _ _ _ _ dX3_forget_10 hP hD hS
set_option maxHeartbeats 4000000 in
set_option maxRecDepth 100000 in
theorem k_X3_forget (l : Launch) (dC : Nat → ClassId) (dI : Nat → Nat → Nat) (cI cZ cJ cA : ClassId) (h0 : Nat) (a : Nat → Nat) (sz : Nat) (N : Nat) (x7 : Int32) (x8 : Int32) (x12 : Int32) (x13 : Int32) (f0 : (Nat → Int32)) (f1 : (Nat → Int32)) (f2 : (Nat → Int32)) (f3 : (Nat → Int32)) (f4 : (Nat → Int32)) (f5 : (Nat → Int32)) (f6 : (Nat → Int32)) (f9 : (Nat → Int32)) (f10 : (Nat → Int32)) (f11 : (Nat → Int64)) (o : (Int32 × Int32)) (hf : q_X3_forget N x12 x13 = some o) : Met l yX3_forget wsX3_forget ({ frames := 0, cells := 0, slots := 0, locals := 0 } : Room) (z_Pre dC dI (z_ty cI cZ cJ cA) [.ref h0] sz (wX3 cI cZ cJ cA h0 a x7 x8 x12 x13 f0 f1 f2 f3 f4 f5 f6 f9 f10 f11)) (z_Pv dC dI (wX3 cI cZ cJ cA h0 a x7 x8 o.1 o.2 f0 f1 f2 f3 f4 f5 f6 f9 f10 f11) sz (wX3 cI cZ cJ cA h0 a x7 x8 x12 x13 f0 f1 f2 f3 f4 f5 f6 f9 f10 f11)) 0 0 (va_A (wX3 cI cZ cJ cA h0 a x7 x8 x12 x13 f0 f1 f2 f3 f4 f5 f6 f9 f10 f11) sz) := by
  refine Met.ofW (cc := cX3_forget) (maxL := 1) (ret := none) (by decide) rfl ?_
  intro p e s m args below meth c s₁ B hml hv
  obtain ⟨rfl, hsz, hP, hK, hD0, hN⟩ := hv
  subst hsz
  have hl := lv_entry ([.ref h0]) (n := 1) (Nat.le_of_ble_eq_true rfl)
  rw [lg_entry_eq]
  refine b_X3_forget N ⟨⟨B.exec, B.bytes, hml, findClass_of_methodNamed B.named, atoms_spec (ws := wsX3_forget) B.pre⟩, Nat.le_refl _, Nat.le_refl _, fun q h => Or.inr h, hN, hK⟩ hf hP hD0.self va_S.rf hl (fun pc H locs ls hd hP hD hS => ?_)
  exact W.vret B.exec B.bytes B.returns (fun t ht hW => ⟨⟨(), rfl, trivial, by rw [ht]; exact hP, hD⟩, hS.F ht⟩) hS.2.2 hd
def q_X3_areYears (N : Nat) (v0 : Int32) (v1 : Int32) : Option Int32 :=
  (if v0 < 0 then
   (some 0)
  else
   (if 40 < v1 then
    (some 0)
   else
    (if v1 < v0 then
     (some 0)
    else
     (if 5 < (v1 - v0) then
      (some 0)
     else
      (some 1)))))
set_option maxHeartbeats 4000000 in
set_option maxRecDepth 100000 in
theorem b_X3_areYears {p : Program} {l : Launch} {e : Env} {R : Room} {s : State} {m : MethodId} {args : Array Value} {below : List Frame} {meth : Method} {c : Code} {Q : State → Prop} {A : Nat → Prop} {dC : Nat → ClassId} {dI : Nat → Nat → Nat} {cI cZ cJ cA : ClassId} (N : Nat) (C0 : z_Cx p s m args c cX3_areYears 2 wsX3_areYears RX3 R 0 0 A dC dI (z_ty cI cZ cJ cA)) {v0 : Int32} {v1 : Int32} {o : Int32} {H : Heap} {locs : List Loc} {ls : Array Slot} (hf : q_X3_areYears N v0 v1 = some o) (hP : va_P (dC, dI) vwCl ([] : va_W) H) (hD : va_D A ([] : va_W)) (hS : va_S A s.heap H locs) (hl : lv_has ls 2 [(0, .int v0), (1, .int v1)])
    (hret : ∀ (pc : Nat) (H : Heap) (locs : List Loc) (ls : Array Slot) (r : Int32), decode cX3_areYears pc = .ok (.ireturn, 1) → r = o → narrow .boolean (.int r) = .int r → va_P (dC, dI) vwCl ([] : va_W) H → va_D A ([] : va_W) → va_S A s.heap H locs → W p l e R s m args below meth c H locs 0 0 Q (F0 m pc ls [.int r])) :
    W p l e R s m args below meth c H locs 0 0 Q (F0 m 0 ls []) := by
  obtain ⟨⟨hx, hb, hml, hown, hts⟩, hRf, hRl, hA, hN, hK⟩ := C0
  unfold q_X3_areYears at hf
  refine lv_iload_n hx hb dX3_areYears_0 rfl (lv_at hl 0 rfl) ?_
  refine lv_if_lt (tgt := 26) hx hb dX3_areYears_1 (by decide) (fun c1 => ?_) (fun c1 => ?_)
  · replace hf := z_ip hf c1
    refine lv_iconst (v := 0) hx hb dX3_areYears_26 (by decide) ?_
    obtain rfl := Option.some.inj hf
    exact hret _ _ _ _ _ dX3_areYears_27 rfl rfl hP hD hS
  · replace hf := z_im hf c1
    refine lv_iload_n hx hb dX3_areYears_4 rfl (lv_at hl 1 rfl) ?_
    refine lv_bipush (v := 40) hx hb dX3_areYears_5 (by decide) ?_
    refine lv_icmp_gt (tgt := 26) hx hb dX3_areYears_7 (by decide) (fun c2 => ?_) (fun c2 => ?_)
    · replace hf := z_ip hf c2
      refine lv_iconst (v := 0) hx hb dX3_areYears_26 (by decide) ?_
      obtain rfl := Option.some.inj hf
      exact hret _ _ _ _ _ dX3_areYears_27 rfl rfl hP hD hS
    · replace hf := z_im hf c2
      refine lv_iload_n hx hb dX3_areYears_10 rfl (lv_at hl 1 rfl) ?_
      refine lv_iload_n hx hb dX3_areYears_11 rfl (lv_at hl 0 rfl) ?_
      refine lv_icmp_lt (tgt := 26) hx hb dX3_areYears_12 (by decide) (fun c3 => ?_) (fun c3 => ?_)
      · replace hf := z_ip hf c3
        refine lv_iconst (v := 0) hx hb dX3_areYears_26 (by decide) ?_
        obtain rfl := Option.some.inj hf
        exact hret _ _ _ _ _ dX3_areYears_27 rfl rfl hP hD hS
      · replace hf := z_im hf c3
        refine lv_iload_n hx hb dX3_areYears_15 rfl (lv_at hl 1 rfl) ?_
        refine lv_iload_n hx hb dX3_areYears_16 rfl (lv_at hl 0 rfl) ?_
        refine lv_isub hx hb dX3_areYears_17 ?_
        refine lv_iconst (v := 5) hx hb dX3_areYears_18 (by decide) ?_
        refine lv_icmp_gt (tgt := 26) hx hb dX3_areYears_19 (by decide) (fun c4 => ?_) (fun c4 => ?_)
        · replace hf := z_ip hf c4
          refine lv_iconst (v := 0) hx hb dX3_areYears_26 (by decide) ?_
          obtain rfl := Option.some.inj hf
          exact hret _ _ _ _ _ dX3_areYears_27 rfl rfl hP hD hS
        · replace hf := z_im hf c4
          refine lv_iconst (v := 1) hx hb dX3_areYears_22 (by decide) ?_
          refine lv_goto (tgt := 27) hx hb dX3_areYears_23 (by decide) ?_
          obtain rfl := Option.some.inj hf
          exact hret _ _ _ _ _ dX3_areYears_27 rfl rfl hP hD hS
set_option maxHeartbeats 4000000 in
set_option maxRecDepth 100000 in
theorem k_X3_areYears (l : Launch) (dC : Nat → ClassId) (dI : Nat → Nat → Nat) (cI cZ cJ cA : ClassId) (sz : Nat) (N : Nat) (v0 : Int32) (v1 : Int32) (o : Int32) (hf : q_X3_areYears N v0 v1 = some o) : Met l yX3_areYears wsX3_areYears ({ frames := 0, cells := 0, slots := 0, locals := 0 } : Room) (z_Pre dC dI (z_ty cI cZ cJ cA) [.int v0, .int v1] sz ([] : va_W)) (z_Pi dC dI o ([] : va_W) sz ([] : va_W)) 0 0 (va_A ([] : va_W) sz) := by
  refine Met.ofW (cc := cX3_areYears) (maxL := 2) (ret := (some .boolean)) (by decide) rfl ?_
  intro p e s m args below meth c s₁ B hml hv
  obtain ⟨rfl, hsz, hP, hK, hD0, hN⟩ := hv
  subst hsz
  have hl := lv_entry ([.int v0, .int v1]) (n := 2) (Nat.le_of_ble_eq_true rfl)
  rw [lg_entry_eq]
  refine b_X3_areYears N ⟨⟨B.exec, B.bytes, hml, findClass_of_methodNamed B.named, atoms_spec (ws := wsX3_areYears) B.pre⟩, Nat.le_refl _, Nat.le_refl _, fun q h => Or.inr h, hN, hK⟩ hf hP hD0.self va_S.rf hl (fun pc H locs ls r hd hr hn hP hD hS => ?_)
  subst hr
  exact W.zret B.exec B.bytes B.returns hn (fun t ht hW => ⟨⟨_, (), rfl, rfl, by rw [ht]; exact hP, hD⟩, hS.F ht⟩) hS.2.2 hd
def q_X3_letterIn (N : Nat) (v0 : Int32) (v1 : Int32) : Option Int32 :=
  (some ((z_ushr v0 (24 - (8 * v1))) &&& 255))
set_option maxHeartbeats 4000000 in
set_option maxRecDepth 100000 in
theorem b_X3_letterIn {p : Program} {l : Launch} {e : Env} {R : Room} {s : State} {m : MethodId} {args : Array Value} {below : List Frame} {meth : Method} {c : Code} {Q : State → Prop} {A : Nat → Prop} {dC : Nat → ClassId} {dI : Nat → Nat → Nat} {cI cZ cJ cA : ClassId} (N : Nat) (C0 : z_Cx p s m args c cX3_letterIn 2 wsX3_letterIn RX3 R 0 0 A dC dI (z_ty cI cZ cJ cA)) {v0 : Int32} {v1 : Int32} {o : Int32} {H : Heap} {locs : List Loc} {ls : Array Slot} (hf : q_X3_letterIn N v0 v1 = some o) (hP : va_P (dC, dI) vwCl ([] : va_W) H) (hD : va_D A ([] : va_W)) (hS : va_S A s.heap H locs) (hl : lv_has ls 2 [(0, .int v0), (1, .int v1)])
    (hret : ∀ (pc : Nat) (H : Heap) (locs : List Loc) (ls : Array Slot) (r : Int32), decode cX3_letterIn pc = .ok (.ireturn, 1) → r = o → va_P (dC, dI) vwCl ([] : va_W) H → va_D A ([] : va_W) → va_S A s.heap H locs → W p l e R s m args below meth c H locs 0 0 Q (F0 m pc ls [.int r])) :
    W p l e R s m args below meth c H locs 0 0 Q (F0 m 0 ls []) := by
  obtain ⟨⟨hx, hb, hml, hown, hts⟩, hRf, hRl, hA, hN, hK⟩ := C0
  unfold q_X3_letterIn at hf
  refine lv_iload_n hx hb dX3_letterIn_0 rfl (lv_at hl 0 rfl) ?_
  refine lv_bipush (v := 24) hx hb dX3_letterIn_1 (by decide) ?_
  refine lv_bipush (v := 8) hx hb dX3_letterIn_3 (by decide) ?_
  refine lv_iload_n hx hb dX3_letterIn_5 rfl (lv_at hl 1 rfl) ?_
  refine lv_imul hx hb dX3_letterIn_6 ?_
  refine lv_isub hx hb dX3_letterIn_7 ?_
  refine z_iushr hx hb dX3_letterIn_8 ?_
  refine lv_sipush (v := 255) hx hb dX3_letterIn_9 (by decide) ?_
  refine lv_iand hx hb dX3_letterIn_12 ?_
  obtain rfl := Option.some.inj hf
  exact hret _ _ _ _ _ dX3_letterIn_13 rfl hP hD hS
set_option maxHeartbeats 4000000 in
set_option maxRecDepth 100000 in
theorem k_X3_letterIn (l : Launch) (dC : Nat → ClassId) (dI : Nat → Nat → Nat) (cI cZ cJ cA : ClassId) (sz : Nat) (N : Nat) (v0 : Int32) (v1 : Int32) (o : Int32) (hf : q_X3_letterIn N v0 v1 = some o) : Met l yX3_letterIn wsX3_letterIn ({ frames := 0, cells := 0, slots := 0, locals := 0 } : Room) (z_Pre dC dI (z_ty cI cZ cJ cA) [.int v0, .int v1] sz ([] : va_W)) (z_Pi dC dI o ([] : va_W) sz ([] : va_W)) 0 0 (va_A ([] : va_W) sz) := by
  refine Met.ofW (cc := cX3_letterIn) (maxL := 2) (ret := (some .int)) (by decide) rfl ?_
  intro p e s m args below meth c s₁ B hml hv
  obtain ⟨rfl, hsz, hP, hK, hD0, hN⟩ := hv
  subst hsz
  have hl := lv_entry ([.int v0, .int v1]) (n := 2) (Nat.le_of_ble_eq_true rfl)
  rw [lg_entry_eq]
  refine b_X3_letterIn N ⟨⟨B.exec, B.bytes, hml, findClass_of_methodNamed B.named, atoms_spec (ws := wsX3_letterIn) B.pre⟩, Nat.le_refl _, Nat.le_refl _, fun q h => Or.inr h, hN, hK⟩ hf hP hD0.self va_S.rf hl (fun pc H locs ls r hd hr hP hD hS => ?_)
  subst hr
  exact W.iret B.exec B.bytes B.returns (fun t ht hW => ⟨⟨_, (), rfl, rfl, by rw [ht]; exact hP, hD⟩, hS.F ht⟩) hS.2.2 hd
def q_X3_isName_L2 (N : Nat) (v0 : Int32) : Nat → Int32 → Option (Sum Int32 Unit)
  | 0, _ => none
  | n + 1, v1 =>
    (if 4 ≤ v1 then
     (some (Sum.inr ()))
    else
     (Option.bind (q_X3_letterIn N v0 v1) (fun o2 =>
     (if o2 ≤ 26 then
      (q_X3_isName_L2 N v0 n (v1 + 1))
     else
      (some (Sum.inl 0))))))
set_option maxHeartbeats 4000000 in
set_option maxRecDepth 100000 in
theorem b_X3_isName_L2 {p : Program} {l : Launch} {e : Env} {R : Room} {s : State} {m : MethodId} {args : Array Value} {below : List Frame} {meth : Method} {c : Code} {Q : State → Prop} {A : Nat → Prop} {dC : Nat → ClassId} {dI : Nat → Nat → Nat} {cI cZ cJ cA : ClassId} (N : Nat) (C0 : z_Cx p s m args c cX3_isName 2 wsX3_isName RX3 R 1 21 A dC dI (z_ty cI cZ cJ cA)) : ∀ (n : Nat) {v0 : Int32} {v1 : Int32} {o : (Sum Int32 Unit)} {H : Heap} {locs : List Loc} {ls : Array Slot}, q_X3_isName_L2 N v0 n v1 = some o → va_P (dC, dI) vwCl ([] : va_W) H → va_D A ([] : va_W) → va_S A s.heap H locs → lv_has ls 2 [(0, .int v0), (1, .int v1)] →
    (∀ (t : Int32), o = Sum.inl t → ∀ (pc : Nat) (H : Heap) (locs : List Loc) (ls : Array Slot) (r : Int32), decode cX3_isName pc = .ok (.ireturn, 1) → r = t → narrow .boolean (.int r) = .int r → va_P (dC, dI) vwCl ([] : va_W) H → va_D A ([] : va_W) → va_S A s.heap H locs → W p l e R s m args below meth c H locs 0 0 Q (F0 m pc ls [.int r])) →
    (∀ (t : Unit) (H : Heap) (locs : List Loc) (ls : Array Slot), o = Sum.inr t → va_P (dC, dI) vwCl ([] : va_W) H → va_D A ([] : va_W) → va_S A s.heap H locs → lv_has ls 2 [] → W p l e R s m args below meth c H locs 0 0 Q (F0 m 25 ls [])) →
    W p l e R s m args below meth c H locs 0 0 Q (F0 m 2 ls []) := by
  obtain ⟨⟨hx, hb, hml, hown, hts⟩, hRf, hRl, hA, hN, hK⟩ := C0
  intro n
  induction n with
  | zero =>
    intro v0 v1 o H locs ls hf
    cases hf
  | succ n ih =>
    intro v0 v1 o H locs ls hf hP hD hS hl hret hexit
    rw [q_X3_isName_L2] at hf
    refine lv_iload_n hx hb dX3_isName_2 rfl (lv_at hl 1 rfl) ?_
    refine lv_iconst (v := 4) hx hb dX3_isName_3 (by decide) ?_
    refine lv_icmp_ge (tgt := 25) hx hb dX3_isName_4 (by decide) (fun c1 => ?_) (fun c1 => ?_)
    · replace hf := z_ip hf c1
      obtain rfl := Option.some.inj hf
      exact hexit _ _ _ _ rfl hP hD hS (lv_sub hl [] rfl)
    · replace hf := z_im hf c1
      refine lv_iload_n hx hb dX3_isName_7 rfl (lv_at hl 0 rfl) ?_
      refine lv_iload_n hx hb dX3_isName_8 rfl (lv_at hl 1 rfl) ?_
      obtain ⟨o2, ho2, hf1⟩ := z_ib hf
      replace hf := hf1
      clear hf1
      refine z_S0 (As := [.int v0, .int v1]) (rest := []) ⟨hx, hb, hml, hown, hts⟩ (k_X3_letterIn l dC dI cI cZ cJ cA H.size N v0 v1 o2 ho2) (va_cwS 2 hts gX3_isName_X3_letterIn rfl rfl rfl (by decide +kernel) ⟨Nat.le_trans (Nat.le_of_ble_eq_true rfl) hRf, Nat.le_trans (Nat.le_of_ble_eq_true rfl) hRl⟩) hK hP hS hA hN rfl hl.1 rfl (Nat.le_of_ble_eq_true rfl) dX3_isName_9 (fun H locs hP hS => ?_)
      refine lv_bipush (v := 26) hx hb dX3_isName_12 (by decide) ?_
      refine lv_icmp_le (tgt := 19) hx hb dX3_isName_14 (by decide) (fun c3 => ?_) (fun c3 => ?_)
      · replace hf := z_ip hf c3
        refine lv_iinc (v := (v1 + 1)) (lv' := [(1, .int (v1 + 1)), (0, .int v0)]) hx hb dX3_isName_19 hl (k := 1) rfl rfl (by decide) rfl (fun ls hl => ?_)
        refine lv_goto (tgt := 2) hx hb dX3_isName_22 (by decide) ?_
        exact ih hf hP hD hS (lv_sub hl [1, 0] rfl) hret hexit
      · replace hf := z_im hf c3
        refine lv_iconst (v := 0) hx hb dX3_isName_17 (by decide) ?_
        obtain rfl := Option.some.inj hf
        exact hret _ rfl _ _ _ _ _ dX3_isName_18 rfl rfl hP hD hS
def q_X3_isName (N : Nat) (v0 : Int32) : Option Int32 :=
  (Option.bind (q_X3_isName_L2 N v0 N 0) (Sum.elim (fun r3 => (some r3)) (fun s2 =>
  (some 1))))
set_option maxHeartbeats 4000000 in
set_option maxRecDepth 100000 in
theorem b_X3_isName {p : Program} {l : Launch} {e : Env} {R : Room} {s : State} {m : MethodId} {args : Array Value} {below : List Frame} {meth : Method} {c : Code} {Q : State → Prop} {A : Nat → Prop} {dC : Nat → ClassId} {dI : Nat → Nat → Nat} {cI cZ cJ cA : ClassId} (N : Nat) (C0 : z_Cx p s m args c cX3_isName 2 wsX3_isName RX3 R 1 21 A dC dI (z_ty cI cZ cJ cA)) {v0 : Int32} {o : Int32} {H : Heap} {locs : List Loc} {ls : Array Slot} (hf : q_X3_isName N v0 = some o) (hP : va_P (dC, dI) vwCl ([] : va_W) H) (hD : va_D A ([] : va_W)) (hS : va_S A s.heap H locs) (hl : lv_has ls 2 [(0, .int v0)])
    (hret : ∀ (pc : Nat) (H : Heap) (locs : List Loc) (ls : Array Slot) (r : Int32), decode cX3_isName pc = .ok (.ireturn, 1) → r = o → narrow .boolean (.int r) = .int r → va_P (dC, dI) vwCl ([] : va_W) H → va_D A ([] : va_W) → va_S A s.heap H locs → W p l e R s m args below meth c H locs 0 0 Q (F0 m pc ls [.int r])) :
    W p l e R s m args below meth c H locs 0 0 Q (F0 m 0 ls []) := by
  obtain ⟨⟨hx, hb, hml, hown, hts⟩, hRf, hRl, hA, hN, hK⟩ := C0
  unfold q_X3_isName at hf
  refine lv_iconst (v := 0) hx hb dX3_isName_0 (by decide) ?_
  refine lv_istore_n (lv' := [(1, .int 0), (0, .int v0)]) hx hb dX3_isName_1 rfl hl (by decide) rfl (fun ls hl => ?_)
  obtain ⟨t1, ht1, hf1⟩ := z_ib hf
  replace hf := hf1
  clear hf1
  refine b_X3_isName_L2 N ⟨⟨hx, hb, hml, hown, hts⟩, hRf, hRl, hA, hN, hK⟩ N ht1 hP hD hS (lv_sub hl [1, 0] rfl) (fun r3 e1 pc H locs ls r0 hd hr hn hP hD hS => ?_) (fun s2 H locs ls e1 hP hD hS hl => ?_)
  · subst e1
    have hf := z_sl hf
    obtain rfl := Option.some.inj hf
    exact hret pc H locs ls r0 hd hr hn hP hD hS
  subst e1
  replace hf := z_sr hf
  refine lv_iconst (v := 1) hx hb dX3_isName_25 (by decide) ?_
  obtain rfl := Option.some.inj hf
  exact hret _ _ _ _ _ dX3_isName_26 rfl rfl hP hD hS
set_option maxHeartbeats 4000000 in
set_option maxRecDepth 100000 in
theorem k_X3_isName (l : Launch) (dC : Nat → ClassId) (dI : Nat → Nat → Nat) (cI cZ cJ cA : ClassId) (sz : Nat) (N : Nat) (v0 : Int32) (o : Int32) (hf : q_X3_isName N v0 = some o) : Met l yX3_isName wsX3_isName ({ frames := 1, cells := 0, slots := 0, locals := 21 } : Room) (z_Pre dC dI (z_ty cI cZ cJ cA) [.int v0] sz ([] : va_W)) (z_Pi dC dI o ([] : va_W) sz ([] : va_W)) 0 0 (va_A ([] : va_W) sz) := by
  refine Met.ofW (cc := cX3_isName) (maxL := 2) (ret := (some .boolean)) (by decide) rfl ?_
  intro p e s m args below meth c s₁ B hml hv
  obtain ⟨rfl, hsz, hP, hK, hD0, hN⟩ := hv
  subst hsz
  have hl := lv_entry ([.int v0]) (n := 2) (Nat.le_of_ble_eq_true rfl)
  rw [lg_entry_eq]
  refine b_X3_isName N ⟨⟨B.exec, B.bytes, hml, findClass_of_methodNamed B.named, atoms_spec (ws := wsX3_isName) B.pre⟩, Nat.le_refl _, Nat.le_refl _, fun q h => Or.inr h, hN, hK⟩ hf hP hD0.self va_S.rf hl (fun pc H locs ls r hd hr hn hP hD hS => ?_)
  subst hr
  exact W.zret B.exec B.bytes B.returns hn (fun t ht hW => ⟨⟨_, (), rfl, rfl, by rw [ht]; exact hP, hD⟩, hS.F ht⟩) hS.2.2 hd
def q_X3_addStone (N : Nat) (v1 : Int32) (v2 : Int32) (v3 : Int32) (v4 : Int32) (v5 : Int32) (v6 : Int32) (x7 : Int32) (x12 : Int32) (x13 : Int32) (f0 : (Nat → Int32)) (f1 : (Nat → Int32)) (f2 : (Nat → Int32)) (f3 : (Nat → Int32)) (f4 : (Nat → Int32)) (f5 : (Nat → Int32)) (f6 : (Nat → Int32)) : Option (Int32 × Int32 × Int32 × Int32 × (Nat → Int32) × (Nat → Int32) × (Nat → Int32) × (Nat → Int32) × (Nat → Int32) × (Nat → Int32) × (Nat → Int32)) :=
  (if v1 < 0 then
   (some ((-1), x7, x12, x13, f0, f1, f2, f3, f4, f5, f6))
  else
   (if 4 ≤ v1 then
    (some ((-1), x7, x12, x13, f0, f1, f2, f3, f4, f5, f6))
   else
    (Option.bind (q_X3_areYears N v2 v3) (fun o3 =>
    (if o3 = 0 then
     (some ((-1), x7, x12, x13, f0, f1, f2, f3, f4, f5, f6))
    else
     (Option.bind (q_X3_isName N v4) (fun o5 =>
     (if o5 = 0 then
      (some ((-1), x7, x12, x13, f0, f1, f2, f3, f4, f5, f6))
     else
      (Option.bind (q_X3_isName N v5) (fun o7 =>
      (if o7 = 0 then
       (some ((-1), x7, x12, x13, f0, f1, f2, f3, f4, f5, f6))
      else
       (if v6 = (-1) then
        (if x7 < 6 then
         (if z_in x7 6 then
         (Option.bind (q_X3_forget N x12 x13) (fun o12 =>
         (some (x7, (x7 + 1), o12.1, o12.2, (upd f0 (Int32.toNatClampNeg x7) v1), (upd f1 (Int32.toNatClampNeg x7) v2), (upd f2 (Int32.toNatClampNeg x7) v3), (upd f3 (Int32.toNatClampNeg x7) v4), (upd f4 (Int32.toNatClampNeg x7) v5), (upd f5 (Int32.toNatClampNeg x7) v6), (upd f6 (Int32.toNatClampNeg x7) 0)))))
         else none)
        else
         (some ((-1), x7, x12, x13, f0, f1, f2, f3, f4, f5, f6)))
       else
        (Option.bind (q_X4_isTown N v6) (fun o13 =>
        (if o13 = 0 then
         (some ((-1), x7, x12, x13, f0, f1, f2, f3, f4, f5, f6))
        else
         (if x7 < 6 then
          (if z_in x7 6 then
          (Option.bind (q_X3_forget N x12 x13) (fun o17 =>
          (some (x7, (x7 + 1), o17.1, o17.2, (upd f0 (Int32.toNatClampNeg x7) v1), (upd f1 (Int32.toNatClampNeg x7) v2), (upd f2 (Int32.toNatClampNeg x7) v3), (upd f3 (Int32.toNatClampNeg x7) v4), (upd f4 (Int32.toNatClampNeg x7) v5), (upd f5 (Int32.toNatClampNeg x7) v6), (upd f6 (Int32.toNatClampNeg x7) 0)))))
          else none)
         else
          (some ((-1), x7, x12, x13, f0, f1, f2, f3, f4, f5, f6))))))))))))))))))
set_option maxHeartbeats 4000000 in
set_option maxRecDepth 100000 in
theorem b_X3_addStone {p : Program} {l : Launch} {e : Env} {R : Room} {s : State} {m : MethodId} {args : Array Value} {below : List Frame} {meth : Method} {c : Code} {Q : State → Prop} {A : Nat → Prop} {dC : Nat → ClassId} {dI : Nat → Nat → Nat} {cI cZ cJ cA : ClassId} {h0 : Nat} {a : Nat → Nat} (N : Nat) (C0 : z_Cx p s m args c cX3_addStone 7 wsX3_addStone RX3 R 2 42 A dC dI (z_ty cI cZ cJ cA)) {v1 : Int32} {v2 : Int32} {v3 : Int32} {v4 : Int32} {v5 : Int32} {v6 : Int32} {x7 : Int32} {x8 : Int32} {x12 : Int32} {x13 : Int32} {f0 : (Nat → Int32)} {f1 : (Nat → Int32)} {f2 : (Nat → Int32)} {f3 : (Nat → Int32)} {f4 : (Nat → Int32)} {f5 : (Nat → Int32)} {f6 : (Nat → Int32)} {f9 : (Nat → Int32)} {f10 : (Nat → Int32)} {f11 : (Nat → Int64)} {o : (Int32 × Int32 × Int32 × Int32 × (Nat → Int32) × (Nat → Int32) × (Nat → Int32) × (Nat → Int32) × (Nat → Int32) × (Nat → Int32) × (Nat → Int32))} {H : Heap} {locs : List Loc} {ls : Array Slot} (hf : q_X3_addStone N v1 v2 v3 v4 v5 v6 x7 x12 x13 f0 f1 f2 f3 f4 f5 f6 = some o) (hP : va_P (dC, dI) vwCl (wX3 cI cZ cJ cA h0 a x7 x8 x12 x13 f0 f1 f2 f3 f4 f5 f6 f9 f10 f11) H) (hD : va_D A (wX3 cI cZ cJ cA h0 a x7 x8 x12 x13 f0 f1 f2 f3 f4 f5 f6 f9 f10 f11)) (hS : va_S A s.heap H locs) (hl : lv_has ls 7 [(0, .ref h0), (1, .int v1), (2, .int v2), (3, .int v3), (4, .int v4), (5, .int v5), (6, .int v6)])
    (hret : ∀ (pc : Nat) (H : Heap) (locs : List Loc) (ls : Array Slot) (r : Int32), decode cX3_addStone pc = .ok (.ireturn, 1) → r = o.1 → va_P (dC, dI) vwCl (wX3 cI cZ cJ cA h0 a o.2.1 x8 o.2.2.1 o.2.2.2.1 o.2.2.2.2.1 o.2.2.2.2.2.1 o.2.2.2.2.2.2.1 o.2.2.2.2.2.2.2.1 o.2.2.2.2.2.2.2.2.1 o.2.2.2.2.2.2.2.2.2.1 o.2.2.2.2.2.2.2.2.2.2 f9 f10 f11) H → va_D A (wX3 cI cZ cJ cA h0 a o.2.1 x8 o.2.2.1 o.2.2.2.1 o.2.2.2.2.1 o.2.2.2.2.2.1 o.2.2.2.2.2.2.1 o.2.2.2.2.2.2.2.1 o.2.2.2.2.2.2.2.2.1 o.2.2.2.2.2.2.2.2.2.1 o.2.2.2.2.2.2.2.2.2.2 f9 f10 f11) → va_S A s.heap H locs → W p l e R s m args below meth c H locs 0 0 Q (F0 m pc ls [.int r])) :
    W p l e R s m args below meth c H locs 0 0 Q (F0 m 0 ls []) := by
  obtain ⟨⟨hx, hb, hml, hown, hts⟩, hRf, hRl, hA, hN, hK⟩ := C0
  unfold q_X3_addStone at hf
  refine lv_iload_n hx hb dX3_addStone_0 rfl (lv_at hl 1 rfl) ?_
  refine lv_if_lt (tgt := 56) hx hb dX3_addStone_1 (by decide) (fun c1 => ?_) (fun c1 => ?_)
  · replace hf := z_ip hf c1
    refine lv_iconst (v := (-1)) hx hb dX3_addStone_56 (by decide) ?_
    obtain rfl := Option.some.inj hf
    exact hret _ _ _ _ _ dX3_addStone_57 rfl hP hD hS
  · replace hf := z_im hf c1
    refine lv_iload_n hx hb dX3_addStone_4 rfl (lv_at hl 1 rfl) ?_
    refine lv_iconst (v := 4) hx hb dX3_addStone_5 (by decide) ?_
    refine lv_icmp_ge (tgt := 56) hx hb dX3_addStone_6 (by decide) (fun c2 => ?_) (fun c2 => ?_)
    · replace hf := z_ip hf c2
      refine lv_iconst (v := (-1)) hx hb dX3_addStone_56 (by decide) ?_
      obtain rfl := Option.some.inj hf
      exact hret _ _ _ _ _ dX3_addStone_57 rfl hP hD hS
    · replace hf := z_im hf c2
      refine lv_iload_n hx hb dX3_addStone_9 rfl (lv_at hl 2 rfl) ?_
      refine lv_iload_n hx hb dX3_addStone_10 rfl (lv_at hl 3 rfl) ?_
      obtain ⟨o3, ho3, hf1⟩ := z_ib hf
      replace hf := hf1
      clear hf1
      refine z_S0 (As := [.int v2, .int v3]) (rest := []) ⟨hx, hb, hml, hown, hts⟩ (k_X3_areYears l dC dI cI cZ cJ cA H.size N v2 v3 o3 ho3) (va_cwS 2 hts gX3_addStone_X3_areYears rfl rfl rfl (by decide +kernel) ⟨Nat.le_trans (Nat.le_of_ble_eq_true rfl) hRf, Nat.le_trans (Nat.le_of_ble_eq_true rfl) hRl⟩) hK hP hS hA hN rfl hl.1 rfl (Nat.le_of_ble_eq_true rfl) dX3_addStone_11 (fun H locs hP hS => ?_)
      refine lv_if_eq (tgt := 56) hx hb dX3_addStone_14 (by decide) (fun c4 => ?_) (fun c4 => ?_)
      · replace hf := z_ip hf c4
        refine lv_iconst (v := (-1)) hx hb dX3_addStone_56 (by decide) ?_
        obtain rfl := Option.some.inj hf
        exact hret _ _ _ _ _ dX3_addStone_57 rfl hP hD hS
      · replace hf := z_im hf c4
        refine lv_iload hx hb dX3_addStone_17 (lv_at hl 4 rfl) ?_
        obtain ⟨o5, ho5, hf1⟩ := z_ib hf
        replace hf := hf1
        clear hf1
        refine z_S0 (As := [.int v4]) (rest := []) ⟨hx, hb, hml, hown, hts⟩ (k_X3_isName l dC dI cI cZ cJ cA H.size N v4 o5 ho5) (va_cwS 1 hts gX3_addStone_X3_isName rfl rfl rfl (by decide +kernel) ⟨Nat.le_trans (Nat.le_of_ble_eq_true rfl) hRf, Nat.le_trans (Nat.le_of_ble_eq_true rfl) hRl⟩) hK hP hS hA hN rfl hl.1 rfl (Nat.le_of_ble_eq_true rfl) dX3_addStone_19 (fun H locs hP hS => ?_)
        refine lv_if_eq (tgt := 56) hx hb dX3_addStone_22 (by decide) (fun c6 => ?_) (fun c6 => ?_)
        · replace hf := z_ip hf c6
          refine lv_iconst (v := (-1)) hx hb dX3_addStone_56 (by decide) ?_
          obtain rfl := Option.some.inj hf
          exact hret _ _ _ _ _ dX3_addStone_57 rfl hP hD hS
        · replace hf := z_im hf c6
          refine lv_iload hx hb dX3_addStone_25 (lv_at hl 5 rfl) ?_
          obtain ⟨o7, ho7, hf1⟩ := z_ib hf
          replace hf := hf1
          clear hf1
          refine z_S0 (As := [.int v5]) (rest := []) ⟨hx, hb, hml, hown, hts⟩ (k_X3_isName l dC dI cI cZ cJ cA H.size N v5 o7 ho7) (va_cwS 1 hts gX3_addStone_X3_isName rfl rfl rfl (by decide +kernel) ⟨Nat.le_trans (Nat.le_of_ble_eq_true rfl) hRf, Nat.le_trans (Nat.le_of_ble_eq_true rfl) hRl⟩) hK hP hS hA hN rfl hl.1 rfl (Nat.le_of_ble_eq_true rfl) dX3_addStone_27 (fun H locs hP hS => ?_)
          refine lv_if_eq (tgt := 56) hx hb dX3_addStone_30 (by decide) (fun c8 => ?_) (fun c8 => ?_)
          · replace hf := z_ip hf c8
            refine lv_iconst (v := (-1)) hx hb dX3_addStone_56 (by decide) ?_
            obtain rfl := Option.some.inj hf
            exact hret _ _ _ _ _ dX3_addStone_57 rfl hP hD hS
          · replace hf := z_im hf c8
            refine lv_iload hx hb dX3_addStone_33 (lv_at hl 6 rfl) ?_
            refine lv_iconst (v := (-1)) hx hb dX3_addStone_35 (by decide) ?_
            refine lv_icmp_eq (tgt := 47) hx hb dX3_addStone_36 (by decide) (fun c9 => ?_) (fun c9 => ?_)
            · replace hf := z_ip hf c9
              refine lv_aload_n hx hb dX3_addStone_47 rfl (lv_at hl 0 rfl) ?_
              refine va_get (D := (dC, dI)) (ci := 3) (v := .int x7) (C := RX3) (T := TX3) (N := 14) hx hb hts (fun w hw => List.mem_cons_of_mem _ (List.mem_append_right _ hw)) hown hK hP 0 rfl rfl 7 (by decide) (hts (.fieldLink RX3 33 "OldStadium$Quarry" "stones" "I") (List.mem_of_getElem? (i := 1) rfl)) (fun _ h9 => h9) rfl dX3_addStone_48 ?_
              refine lv_bipush (v := 6) hx hb dX3_addStone_51 (by decide) ?_
              refine lv_icmp_lt (tgt := 58) hx hb dX3_addStone_53 (by decide) (fun c10 => ?_) (fun c10 => ?_)
              · replace hf := z_ip hf c10
                refine lv_aload_n hx hb dX3_addStone_58 rfl (lv_at hl 0 rfl) ?_
                refine va_get (D := (dC, dI)) (ci := 3) (v := .ref (a 0)) (C := RX3) (T := TX3) (N := 14) hx hb hts (fun w hw => List.mem_cons_of_mem _ (List.mem_append_right _ hw)) hown hK hP 0 rfl rfl 0 (by decide) (hts (.fieldLink RX3 11 "OldStadium$Quarry" "event" "[I") (List.mem_of_getElem? (i := 2) rfl)) (fun _ h9 => h9) rfl dX3_addStone_59 ?_
                refine lv_aload_n hx hb dX3_addStone_62 rfl (lv_at hl 0 rfl) ?_
                refine va_get (D := (dC, dI)) (ci := 3) (v := .int x7) (C := RX3) (T := TX3) (N := 14) hx hb hts (fun w hw => List.mem_cons_of_mem _ (List.mem_append_right _ hw)) hown hK hP 0 rfl rfl 7 (by decide) (hts (.fieldLink RX3 33 "OldStadium$Quarry" "stones" "I") (List.mem_of_getElem? (i := 1) rfl)) (fun _ h9 => h9) rfl dX3_addStone_63 ?_
                refine lv_iload_n hx hb dX3_addStone_66 rfl (lv_at hl 1 rfl) ?_
                have b11 := z_c1 hf
                replace hf := z_c2 hf
                refine va_iast hx hb hK hP hD hS 1 0 rfl rfl b11 dX3_addStone_67 (fun H locs hP hD hS => ?_)
                replace hP : va_P (dC, dI) vwCl (wX3 cI cZ cJ cA h0 a x7 x8 x12 x13 (upd f0 (Int32.toNatClampNeg x7) v1) f1 f2 f3 f4 f5 f6 f9 f10 f11) H := hP
                replace hD : va_D A (wX3 cI cZ cJ cA h0 a x7 x8 x12 x13 (upd f0 (Int32.toNatClampNeg x7) v1) f1 f2 f3 f4 f5 f6 f9 f10 f11) := hD
                refine lv_aload_n hx hb dX3_addStone_68 rfl (lv_at hl 0 rfl) ?_
                refine va_get (D := (dC, dI)) (ci := 3) (v := .ref (a 1)) (C := RX3) (T := TX3) (N := 14) hx hb hts (fun w hw => List.mem_cons_of_mem _ (List.mem_append_right _ hw)) hown hK hP 0 rfl rfl 1 (by decide) (hts (.fieldLink RX3 15 "OldStadium$Quarry" "from" "[I") (List.mem_of_getElem? (i := 3) rfl)) (fun _ h9 => h9) rfl dX3_addStone_69 ?_
                refine lv_aload_n hx hb dX3_addStone_72 rfl (lv_at hl 0 rfl) ?_
                refine va_get (D := (dC, dI)) (ci := 3) (v := .int x7) (C := RX3) (T := TX3) (N := 14) hx hb hts (fun w hw => List.mem_cons_of_mem _ (List.mem_append_right _ hw)) hown hK hP 0 rfl rfl 7 (by decide) (hts (.fieldLink RX3 33 "OldStadium$Quarry" "stones" "I") (List.mem_of_getElem? (i := 1) rfl)) (fun _ h9 => h9) rfl dX3_addStone_73 ?_
                refine lv_iload_n hx hb dX3_addStone_76 rfl (lv_at hl 2 rfl) ?_
                refine va_iast hx hb hK hP hD hS 2 0 rfl rfl b11 dX3_addStone_77 (fun H locs hP hD hS => ?_)
                replace hP : va_P (dC, dI) vwCl (wX3 cI cZ cJ cA h0 a x7 x8 x12 x13 (upd f0 (Int32.toNatClampNeg x7) v1) (upd f1 (Int32.toNatClampNeg x7) v2) f2 f3 f4 f5 f6 f9 f10 f11) H := hP
                replace hD : va_D A (wX3 cI cZ cJ cA h0 a x7 x8 x12 x13 (upd f0 (Int32.toNatClampNeg x7) v1) (upd f1 (Int32.toNatClampNeg x7) v2) f2 f3 f4 f5 f6 f9 f10 f11) := hD
                refine lv_aload_n hx hb dX3_addStone_78 rfl (lv_at hl 0 rfl) ?_
                refine va_get (D := (dC, dI)) (ci := 3) (v := .ref (a 2)) (C := RX3) (T := TX3) (N := 14) hx hb hts (fun w hw => List.mem_cons_of_mem _ (List.mem_append_right _ hw)) hown hK hP 0 rfl rfl 2 (by decide) (hts (.fieldLink RX3 18 "OldStadium$Quarry" "to" "[I") (List.mem_of_getElem? (i := 4) rfl)) (fun _ h9 => h9) rfl dX3_addStone_79 ?_
                refine lv_aload_n hx hb dX3_addStone_82 rfl (lv_at hl 0 rfl) ?_
                refine va_get (D := (dC, dI)) (ci := 3) (v := .int x7) (C := RX3) (T := TX3) (N := 14) hx hb hts (fun w hw => List.mem_cons_of_mem _ (List.mem_append_right _ hw)) hown hK hP 0 rfl rfl 7 (by decide) (hts (.fieldLink RX3 33 "OldStadium$Quarry" "stones" "I") (List.mem_of_getElem? (i := 1) rfl)) (fun _ h9 => h9) rfl dX3_addStone_83 ?_
                refine lv_iload_n hx hb dX3_addStone_86 rfl (lv_at hl 3 rfl) ?_
                refine va_iast hx hb hK hP hD hS 3 0 rfl rfl b11 dX3_addStone_87 (fun H locs hP hD hS => ?_)
                replace hP : va_P (dC, dI) vwCl (wX3 cI cZ cJ cA h0 a x7 x8 x12 x13 (upd f0 (Int32.toNatClampNeg x7) v1) (upd f1 (Int32.toNatClampNeg x7) v2) (upd f2 (Int32.toNatClampNeg x7) v3) f3 f4 f5 f6 f9 f10 f11) H := hP
                replace hD : va_D A (wX3 cI cZ cJ cA h0 a x7 x8 x12 x13 (upd f0 (Int32.toNatClampNeg x7) v1) (upd f1 (Int32.toNatClampNeg x7) v2) (upd f2 (Int32.toNatClampNeg x7) v3) f3 f4 f5 f6 f9 f10 f11) := hD
                refine lv_aload_n hx hb dX3_addStone_88 rfl (lv_at hl 0 rfl) ?_
                refine va_get (D := (dC, dI)) (ci := 3) (v := .ref (a 3)) (C := RX3) (T := TX3) (N := 14) hx hb hts (fun w hw => List.mem_cons_of_mem _ (List.mem_append_right _ hw)) hown hK hP 0 rfl rfl 3 (by decide) (hts (.fieldLink RX3 21 "OldStadium$Quarry" "firstLetters" "[I") (List.mem_of_getElem? (i := 5) rfl)) (fun _ h9 => h9) rfl dX3_addStone_89 ?_
                refine lv_aload_n hx hb dX3_addStone_92 rfl (lv_at hl 0 rfl) ?_
                refine va_get (D := (dC, dI)) (ci := 3) (v := .int x7) (C := RX3) (T := TX3) (N := 14) hx hb hts (fun w hw => List.mem_cons_of_mem _ (List.mem_append_right _ hw)) hown hK hP 0 rfl rfl 7 (by decide) (hts (.fieldLink RX3 33 "OldStadium$Quarry" "stones" "I") (List.mem_of_getElem? (i := 1) rfl)) (fun _ h9 => h9) rfl dX3_addStone_93 ?_
                refine lv_iload hx hb dX3_addStone_96 (lv_at hl 4 rfl) ?_
                refine va_iast hx hb hK hP hD hS 4 0 rfl rfl b11 dX3_addStone_98 (fun H locs hP hD hS => ?_)
                replace hP : va_P (dC, dI) vwCl (wX3 cI cZ cJ cA h0 a x7 x8 x12 x13 (upd f0 (Int32.toNatClampNeg x7) v1) (upd f1 (Int32.toNatClampNeg x7) v2) (upd f2 (Int32.toNatClampNeg x7) v3) (upd f3 (Int32.toNatClampNeg x7) v4) f4 f5 f6 f9 f10 f11) H := hP
                replace hD : va_D A (wX3 cI cZ cJ cA h0 a x7 x8 x12 x13 (upd f0 (Int32.toNatClampNeg x7) v1) (upd f1 (Int32.toNatClampNeg x7) v2) (upd f2 (Int32.toNatClampNeg x7) v3) (upd f3 (Int32.toNatClampNeg x7) v4) f4 f5 f6 f9 f10 f11) := hD
                refine lv_aload_n hx hb dX3_addStone_99 rfl (lv_at hl 0 rfl) ?_
                refine va_get (D := (dC, dI)) (ci := 3) (v := .ref (a 4)) (C := RX3) (T := TX3) (N := 14) hx hb hts (fun w hw => List.mem_cons_of_mem _ (List.mem_append_right _ hw)) hown hK hP 0 rfl rfl 4 (by decide) (hts (.fieldLink RX3 24 "OldStadium$Quarry" "lastLetters" "[I") (List.mem_of_getElem? (i := 6) rfl)) (fun _ h9 => h9) rfl dX3_addStone_100 ?_
                refine lv_aload_n hx hb dX3_addStone_103 rfl (lv_at hl 0 rfl) ?_
                refine va_get (D := (dC, dI)) (ci := 3) (v := .int x7) (C := RX3) (T := TX3) (N := 14) hx hb hts (fun w hw => List.mem_cons_of_mem _ (List.mem_append_right _ hw)) hown hK hP 0 rfl rfl 7 (by decide) (hts (.fieldLink RX3 33 "OldStadium$Quarry" "stones" "I") (List.mem_of_getElem? (i := 1) rfl)) (fun _ h9 => h9) rfl dX3_addStone_104 ?_
                refine lv_iload hx hb dX3_addStone_107 (lv_at hl 5 rfl) ?_
                refine va_iast hx hb hK hP hD hS 5 0 rfl rfl b11 dX3_addStone_109 (fun H locs hP hD hS => ?_)
                replace hP : va_P (dC, dI) vwCl (wX3 cI cZ cJ cA h0 a x7 x8 x12 x13 (upd f0 (Int32.toNatClampNeg x7) v1) (upd f1 (Int32.toNatClampNeg x7) v2) (upd f2 (Int32.toNatClampNeg x7) v3) (upd f3 (Int32.toNatClampNeg x7) v4) (upd f4 (Int32.toNatClampNeg x7) v5) f5 f6 f9 f10 f11) H := hP
                replace hD : va_D A (wX3 cI cZ cJ cA h0 a x7 x8 x12 x13 (upd f0 (Int32.toNatClampNeg x7) v1) (upd f1 (Int32.toNatClampNeg x7) v2) (upd f2 (Int32.toNatClampNeg x7) v3) (upd f3 (Int32.toNatClampNeg x7) v4) (upd f4 (Int32.toNatClampNeg x7) v5) f5 f6 f9 f10 f11) := hD
                refine lv_aload_n hx hb dX3_addStone_110 rfl (lv_at hl 0 rfl) ?_
                refine va_get (D := (dC, dI)) (ci := 3) (v := .ref (a 5)) (C := RX3) (T := TX3) (N := 14) hx hb hts (fun w hw => List.mem_cons_of_mem _ (List.mem_append_right _ hw)) hown hK hP 0 rfl rfl 5 (by decide) (hts (.fieldLink RX3 27 "OldStadium$Quarry" "town" "[I") (List.mem_of_getElem? (i := 7) rfl)) (fun _ h9 => h9) rfl dX3_addStone_111 ?_
                refine lv_aload_n hx hb dX3_addStone_114 rfl (lv_at hl 0 rfl) ?_
                refine va_get (D := (dC, dI)) (ci := 3) (v := .int x7) (C := RX3) (T := TX3) (N := 14) hx hb hts (fun w hw => List.mem_cons_of_mem _ (List.mem_append_right _ hw)) hown hK hP 0 rfl rfl 7 (by decide) (hts (.fieldLink RX3 33 "OldStadium$Quarry" "stones" "I") (List.mem_of_getElem? (i := 1) rfl)) (fun _ h9 => h9) rfl dX3_addStone_115 ?_
                refine lv_iload hx hb dX3_addStone_118 (lv_at hl 6 rfl) ?_
                refine va_iast hx hb hK hP hD hS 6 0 rfl rfl b11 dX3_addStone_120 (fun H locs hP hD hS => ?_)
                replace hP : va_P (dC, dI) vwCl (wX3 cI cZ cJ cA h0 a x7 x8 x12 x13 (upd f0 (Int32.toNatClampNeg x7) v1) (upd f1 (Int32.toNatClampNeg x7) v2) (upd f2 (Int32.toNatClampNeg x7) v3) (upd f3 (Int32.toNatClampNeg x7) v4) (upd f4 (Int32.toNatClampNeg x7) v5) (upd f5 (Int32.toNatClampNeg x7) v6) f6 f9 f10 f11) H := hP
                replace hD : va_D A (wX3 cI cZ cJ cA h0 a x7 x8 x12 x13 (upd f0 (Int32.toNatClampNeg x7) v1) (upd f1 (Int32.toNatClampNeg x7) v2) (upd f2 (Int32.toNatClampNeg x7) v3) (upd f3 (Int32.toNatClampNeg x7) v4) (upd f4 (Int32.toNatClampNeg x7) v5) (upd f5 (Int32.toNatClampNeg x7) v6) f6 f9 f10 f11) := hD
                refine lv_aload_n hx hb dX3_addStone_121 rfl (lv_at hl 0 rfl) ?_
                refine va_get (D := (dC, dI)) (ci := 3) (v := .ref (a 6)) (C := RX3) (T := TX3) (N := 14) hx hb hts (fun w hw => List.mem_cons_of_mem _ (List.mem_append_right _ hw)) hown hK hP 0 rfl rfl 6 (by decide) (hts (.fieldLink RX3 30 "OldStadium$Quarry" "joined" "[I") (List.mem_of_getElem? (i := 8) rfl)) (fun _ h9 => h9) rfl dX3_addStone_122 ?_
                refine lv_aload_n hx hb dX3_addStone_125 rfl (lv_at hl 0 rfl) ?_
                refine va_get (D := (dC, dI)) (ci := 3) (v := .int x7) (C := RX3) (T := TX3) (N := 14) hx hb hts (fun w hw => List.mem_cons_of_mem _ (List.mem_append_right _ hw)) hown hK hP 0 rfl rfl 7 (by decide) (hts (.fieldLink RX3 33 "OldStadium$Quarry" "stones" "I") (List.mem_of_getElem? (i := 1) rfl)) (fun _ h9 => h9) rfl dX3_addStone_126 ?_
                refine lv_iconst (v := 0) hx hb dX3_addStone_129 (by decide) ?_
                refine va_iast hx hb hK hP hD hS 7 0 rfl rfl b11 dX3_addStone_130 (fun H locs hP hD hS => ?_)
                replace hP : va_P (dC, dI) vwCl (wX3 cI cZ cJ cA h0 a x7 x8 x12 x13 (upd f0 (Int32.toNatClampNeg x7) v1) (upd f1 (Int32.toNatClampNeg x7) v2) (upd f2 (Int32.toNatClampNeg x7) v3) (upd f3 (Int32.toNatClampNeg x7) v4) (upd f4 (Int32.toNatClampNeg x7) v5) (upd f5 (Int32.toNatClampNeg x7) v6) (upd f6 (Int32.toNatClampNeg x7) 0) f9 f10 f11) H := hP
                replace hD : va_D A (wX3 cI cZ cJ cA h0 a x7 x8 x12 x13 (upd f0 (Int32.toNatClampNeg x7) v1) (upd f1 (Int32.toNatClampNeg x7) v2) (upd f2 (Int32.toNatClampNeg x7) v3) (upd f3 (Int32.toNatClampNeg x7) v4) (upd f4 (Int32.toNatClampNeg x7) v5) (upd f5 (Int32.toNatClampNeg x7) v6) (upd f6 (Int32.toNatClampNeg x7) 0) f9 f10 f11) := hD
                refine lv_aload_n hx hb dX3_addStone_131 rfl (lv_at hl 0 rfl) ?_
                obtain ⟨o12, ho12, hf1⟩ := z_ib hf
                replace hf := hf1
                clear hf1
                refine z_Vv (As := []) (rest := []) (w := (wX3 cI cZ cJ cA h0 a x7 x8 x12 x13 (upd f0 (Int32.toNatClampNeg x7) v1) (upd f1 (Int32.toNatClampNeg x7) v2) (upd f2 (Int32.toNatClampNeg x7) v3) (upd f3 (Int32.toNatClampNeg x7) v4) (upd f4 (Int32.toNatClampNeg x7) v5) (upd f5 (Int32.toNatClampNeg x7) v6) (upd f6 (Int32.toNatClampNeg x7) 0) f9 f10 f11)) (w1 := (wX3 cI cZ cJ cA h0 a x7 x8 o12.1 o12.2 (upd f0 (Int32.toNatClampNeg x7) v1) (upd f1 (Int32.toNatClampNeg x7) v2) (upd f2 (Int32.toNatClampNeg x7) v3) (upd f3 (Int32.toNatClampNeg x7) v4) (upd f4 (Int32.toNatClampNeg x7) v5) (upd f5 (Int32.toNatClampNeg x7) v6) (upd f6 (Int32.toNatClampNeg x7) 0) f9 f10 f11)) ⟨hx, hb, hml, hown, hts⟩ (k_X3_forget l dC dI cI cZ cJ cA h0 a H.size N x7 x8 x12 x13 (upd f0 (Int32.toNatClampNeg x7) v1) (upd f1 (Int32.toNatClampNeg x7) v2) (upd f2 (Int32.toNatClampNeg x7) v3) (upd f3 (Int32.toNatClampNeg x7) v4) (upd f4 (Int32.toNatClampNeg x7) v5) (upd f5 (Int32.toNatClampNeg x7) v6) (upd f6 (Int32.toNatClampNeg x7) 0) f9 f10 f11 o12 ho12) (cwV 0 hts gX3_addStone_X3_forget rfl rfl rfl (by decide +kernel) ⟨Nat.le_trans (Nat.le_of_ble_eq_true rfl) hRf, Nat.le_trans (Nat.le_of_ble_eq_true rfl) hRl⟩) hK hP hD hS hA hN (ci := 3) rfl rfl rfl rfl hl.1 rfl (Nat.le_of_ble_eq_true rfl) dX3_addStone_132 (fun H locs hP hD hS => ?_)
                refine lv_aload_n hx hb dX3_addStone_135 rfl (lv_at hl 0 rfl) ?_
                refine lv_dup hx hb dX3_addStone_136 rfl ?_
                refine va_get (D := (dC, dI)) (ci := 3) (v := .int x7) (C := RX3) (T := TX3) (N := 14) hx hb hts (fun w hw => List.mem_cons_of_mem _ (List.mem_append_right _ hw)) hown hK hP 0 rfl rfl 7 (by decide) (hts (.fieldLink RX3 33 "OldStadium$Quarry" "stones" "I") (List.mem_of_getElem? (i := 1) rfl)) (fun _ h9 => h9) rfl dX3_addStone_137 ?_
                refine lv_dup_x1 hx hb dX3_addStone_140 rfl rfl ?_
                refine lv_iconst (v := 1) hx hb dX3_addStone_141 (by decide) ?_
                refine lv_iadd hx hb dX3_addStone_142 ?_
                refine va_put (D := (dC, dI)) (ci := 3) (v := .int (x7 + 1)) (ty := .int) (C := RX3) (T := TX3) (N := 14) hx hb hts (fun w hw => List.mem_cons_of_mem _ (List.mem_append_right _ hw)) tyX3 tyX3_ok nmX3 hown hK hP hD hS 0 rfl rfl 7 (by decide) (hts (.fieldLink RX3 33 "OldStadium$Quarry" "stones" "I") (List.mem_of_getElem? (i := 1) rfl)) (fun _ h9 => h9) rfl (by decide +kernel) rfl rfl (Nat.le_of_ble_eq_true rfl) dX3_addStone_143 (fun H locs hP hD hS => ?_)
                replace hP : va_P (dC, dI) vwCl (wX3 cI cZ cJ cA h0 a (x7 + 1) x8 o12.1 o12.2 (upd f0 (Int32.toNatClampNeg x7) v1) (upd f1 (Int32.toNatClampNeg x7) v2) (upd f2 (Int32.toNatClampNeg x7) v3) (upd f3 (Int32.toNatClampNeg x7) v4) (upd f4 (Int32.toNatClampNeg x7) v5) (upd f5 (Int32.toNatClampNeg x7) v6) (upd f6 (Int32.toNatClampNeg x7) 0) f9 f10 f11) H := hP
                replace hD : va_D A (wX3 cI cZ cJ cA h0 a (x7 + 1) x8 o12.1 o12.2 (upd f0 (Int32.toNatClampNeg x7) v1) (upd f1 (Int32.toNatClampNeg x7) v2) (upd f2 (Int32.toNatClampNeg x7) v3) (upd f3 (Int32.toNatClampNeg x7) v4) (upd f4 (Int32.toNatClampNeg x7) v5) (upd f5 (Int32.toNatClampNeg x7) v6) (upd f6 (Int32.toNatClampNeg x7) 0) f9 f10 f11) := hD
                obtain rfl := Option.some.inj hf
                exact hret _ _ _ _ _ dX3_addStone_146 rfl hP hD hS
              · replace hf := z_im hf c10
                refine lv_iconst (v := (-1)) hx hb dX3_addStone_56 (by decide) ?_
                obtain rfl := Option.some.inj hf
                exact hret _ _ _ _ _ dX3_addStone_57 rfl hP hD hS
            · replace hf := z_im hf c9
              refine lv_iload hx hb dX3_addStone_39 (lv_at hl 6 rfl) ?_
              obtain ⟨o13, ho13, hf1⟩ := z_ib hf
              replace hf := hf1
              clear hf1
              refine z_SN0 (As := [.int v6]) (rest := []) ⟨hx, hb, hml, hown, hts⟩ (k_X4_isTown l dC dI cI cZ cJ cA H.size N v6 o13 ho13) ⟨va_cnB 1 hts gX3_addStone_X4_isTown_n64 rfl rfl rfl (hN _ (List.mem_of_getElem? (i := 8) rfl)) (hts (.initialized RX4) (List.mem_of_getElem? (i := 20) rfl)) (by decide +kernel) ⟨Nat.le_trans (Nat.le_of_ble_eq_true rfl) hRf, Nat.le_trans (Nat.le_of_ble_eq_true rfl) hRl⟩, (hts (.static yX4_isTown) (List.mem_of_getElem? (i := 19) rfl)), trivial⟩ hK hP hS hA hN rfl hl.1 rfl (Nat.le_of_ble_eq_true rfl) dX3_addStone_41 (fun H locs hP hS => ?_)
              refine lv_if_eq (tgt := 56) hx hb dX3_addStone_44 (by decide) (fun c14 => ?_) (fun c14 => ?_)
              · replace hf := z_ip hf c14
                refine lv_iconst (v := (-1)) hx hb dX3_addStone_56 (by decide) ?_
                obtain rfl := Option.some.inj hf
                exact hret _ _ _ _ _ dX3_addStone_57 rfl hP hD hS
              · replace hf := z_im hf c14
                refine lv_aload_n hx hb dX3_addStone_47 rfl (lv_at hl 0 rfl) ?_
                refine va_get (D := (dC, dI)) (ci := 3) (v := .int x7) (C := RX3) (T := TX3) (N := 14) hx hb hts (fun w hw => List.mem_cons_of_mem _ (List.mem_append_right _ hw)) hown hK hP 0 rfl rfl 7 (by decide) (hts (.fieldLink RX3 33 "OldStadium$Quarry" "stones" "I") (List.mem_of_getElem? (i := 1) rfl)) (fun _ h9 => h9) rfl dX3_addStone_48 ?_
                refine lv_bipush (v := 6) hx hb dX3_addStone_51 (by decide) ?_
                refine lv_icmp_lt (tgt := 58) hx hb dX3_addStone_53 (by decide) (fun c15 => ?_) (fun c15 => ?_)
                · replace hf := z_ip hf c15
                  refine lv_aload_n hx hb dX3_addStone_58 rfl (lv_at hl 0 rfl) ?_
                  refine va_get (D := (dC, dI)) (ci := 3) (v := .ref (a 0)) (C := RX3) (T := TX3) (N := 14) hx hb hts (fun w hw => List.mem_cons_of_mem _ (List.mem_append_right _ hw)) hown hK hP 0 rfl rfl 0 (by decide) (hts (.fieldLink RX3 11 "OldStadium$Quarry" "event" "[I") (List.mem_of_getElem? (i := 2) rfl)) (fun _ h9 => h9) rfl dX3_addStone_59 ?_
                  refine lv_aload_n hx hb dX3_addStone_62 rfl (lv_at hl 0 rfl) ?_
                  refine va_get (D := (dC, dI)) (ci := 3) (v := .int x7) (C := RX3) (T := TX3) (N := 14) hx hb hts (fun w hw => List.mem_cons_of_mem _ (List.mem_append_right _ hw)) hown hK hP 0 rfl rfl 7 (by decide) (hts (.fieldLink RX3 33 "OldStadium$Quarry" "stones" "I") (List.mem_of_getElem? (i := 1) rfl)) (fun _ h9 => h9) rfl dX3_addStone_63 ?_
                  refine lv_iload_n hx hb dX3_addStone_66 rfl (lv_at hl 1 rfl) ?_
                  have b16 := z_c1 hf
                  replace hf := z_c2 hf
                  refine va_iast hx hb hK hP hD hS 1 0 rfl rfl b16 dX3_addStone_67 (fun H locs hP hD hS => ?_)
                  replace hP : va_P (dC, dI) vwCl (wX3 cI cZ cJ cA h0 a x7 x8 x12 x13 (upd f0 (Int32.toNatClampNeg x7) v1) f1 f2 f3 f4 f5 f6 f9 f10 f11) H := hP
                  replace hD : va_D A (wX3 cI cZ cJ cA h0 a x7 x8 x12 x13 (upd f0 (Int32.toNatClampNeg x7) v1) f1 f2 f3 f4 f5 f6 f9 f10 f11) := hD
                  refine lv_aload_n hx hb dX3_addStone_68 rfl (lv_at hl 0 rfl) ?_
                  refine va_get (D := (dC, dI)) (ci := 3) (v := .ref (a 1)) (C := RX3) (T := TX3) (N := 14) hx hb hts (fun w hw => List.mem_cons_of_mem _ (List.mem_append_right _ hw)) hown hK hP 0 rfl rfl 1 (by decide) (hts (.fieldLink RX3 15 "OldStadium$Quarry" "from" "[I") (List.mem_of_getElem? (i := 3) rfl)) (fun _ h9 => h9) rfl dX3_addStone_69 ?_
                  refine lv_aload_n hx hb dX3_addStone_72 rfl (lv_at hl 0 rfl) ?_
                  refine va_get (D := (dC, dI)) (ci := 3) (v := .int x7) (C := RX3) (T := TX3) (N := 14) hx hb hts (fun w hw => List.mem_cons_of_mem _ (List.mem_append_right _ hw)) hown hK hP 0 rfl rfl 7 (by decide) (hts (.fieldLink RX3 33 "OldStadium$Quarry" "stones" "I") (List.mem_of_getElem? (i := 1) rfl)) (fun _ h9 => h9) rfl dX3_addStone_73 ?_
                  refine lv_iload_n hx hb dX3_addStone_76 rfl (lv_at hl 2 rfl) ?_
                  refine va_iast hx hb hK hP hD hS 2 0 rfl rfl b16 dX3_addStone_77 (fun H locs hP hD hS => ?_)
                  replace hP : va_P (dC, dI) vwCl (wX3 cI cZ cJ cA h0 a x7 x8 x12 x13 (upd f0 (Int32.toNatClampNeg x7) v1) (upd f1 (Int32.toNatClampNeg x7) v2) f2 f3 f4 f5 f6 f9 f10 f11) H := hP
                  replace hD : va_D A (wX3 cI cZ cJ cA h0 a x7 x8 x12 x13 (upd f0 (Int32.toNatClampNeg x7) v1) (upd f1 (Int32.toNatClampNeg x7) v2) f2 f3 f4 f5 f6 f9 f10 f11) := hD
                  refine lv_aload_n hx hb dX3_addStone_78 rfl (lv_at hl 0 rfl) ?_
                  refine va_get (D := (dC, dI)) (ci := 3) (v := .ref (a 2)) (C := RX3) (T := TX3) (N := 14) hx hb hts (fun w hw => List.mem_cons_of_mem _ (List.mem_append_right _ hw)) hown hK hP 0 rfl rfl 2 (by decide) (hts (.fieldLink RX3 18 "OldStadium$Quarry" "to" "[I") (List.mem_of_getElem? (i := 4) rfl)) (fun _ h9 => h9) rfl dX3_addStone_79 ?_
                  refine lv_aload_n hx hb dX3_addStone_82 rfl (lv_at hl 0 rfl) ?_
                  refine va_get (D := (dC, dI)) (ci := 3) (v := .int x7) (C := RX3) (T := TX3) (N := 14) hx hb hts (fun w hw => List.mem_cons_of_mem _ (List.mem_append_right _ hw)) hown hK hP 0 rfl rfl 7 (by decide) (hts (.fieldLink RX3 33 "OldStadium$Quarry" "stones" "I") (List.mem_of_getElem? (i := 1) rfl)) (fun _ h9 => h9) rfl dX3_addStone_83 ?_
                  refine lv_iload_n hx hb dX3_addStone_86 rfl (lv_at hl 3 rfl) ?_
                  refine va_iast hx hb hK hP hD hS 3 0 rfl rfl b16 dX3_addStone_87 (fun H locs hP hD hS => ?_)
                  replace hP : va_P (dC, dI) vwCl (wX3 cI cZ cJ cA h0 a x7 x8 x12 x13 (upd f0 (Int32.toNatClampNeg x7) v1) (upd f1 (Int32.toNatClampNeg x7) v2) (upd f2 (Int32.toNatClampNeg x7) v3) f3 f4 f5 f6 f9 f10 f11) H := hP
                  replace hD : va_D A (wX3 cI cZ cJ cA h0 a x7 x8 x12 x13 (upd f0 (Int32.toNatClampNeg x7) v1) (upd f1 (Int32.toNatClampNeg x7) v2) (upd f2 (Int32.toNatClampNeg x7) v3) f3 f4 f5 f6 f9 f10 f11) := hD
                  refine lv_aload_n hx hb dX3_addStone_88 rfl (lv_at hl 0 rfl) ?_
                  refine va_get (D := (dC, dI)) (ci := 3) (v := .ref (a 3)) (C := RX3) (T := TX3) (N := 14) hx hb hts (fun w hw => List.mem_cons_of_mem _ (List.mem_append_right _ hw)) hown hK hP 0 rfl rfl 3 (by decide) (hts (.fieldLink RX3 21 "OldStadium$Quarry" "firstLetters" "[I") (List.mem_of_getElem? (i := 5) rfl)) (fun _ h9 => h9) rfl dX3_addStone_89 ?_
                  refine lv_aload_n hx hb dX3_addStone_92 rfl (lv_at hl 0 rfl) ?_
                  refine va_get (D := (dC, dI)) (ci := 3) (v := .int x7) (C := RX3) (T := TX3) (N := 14) hx hb hts (fun w hw => List.mem_cons_of_mem _ (List.mem_append_right _ hw)) hown hK hP 0 rfl rfl 7 (by decide) (hts (.fieldLink RX3 33 "OldStadium$Quarry" "stones" "I") (List.mem_of_getElem? (i := 1) rfl)) (fun _ h9 => h9) rfl dX3_addStone_93 ?_
                  refine lv_iload hx hb dX3_addStone_96 (lv_at hl 4 rfl) ?_
                  refine va_iast hx hb hK hP hD hS 4 0 rfl rfl b16 dX3_addStone_98 (fun H locs hP hD hS => ?_)
                  replace hP : va_P (dC, dI) vwCl (wX3 cI cZ cJ cA h0 a x7 x8 x12 x13 (upd f0 (Int32.toNatClampNeg x7) v1) (upd f1 (Int32.toNatClampNeg x7) v2) (upd f2 (Int32.toNatClampNeg x7) v3) (upd f3 (Int32.toNatClampNeg x7) v4) f4 f5 f6 f9 f10 f11) H := hP
                  replace hD : va_D A (wX3 cI cZ cJ cA h0 a x7 x8 x12 x13 (upd f0 (Int32.toNatClampNeg x7) v1) (upd f1 (Int32.toNatClampNeg x7) v2) (upd f2 (Int32.toNatClampNeg x7) v3) (upd f3 (Int32.toNatClampNeg x7) v4) f4 f5 f6 f9 f10 f11) := hD
                  refine lv_aload_n hx hb dX3_addStone_99 rfl (lv_at hl 0 rfl) ?_
                  refine va_get (D := (dC, dI)) (ci := 3) (v := .ref (a 4)) (C := RX3) (T := TX3) (N := 14) hx hb hts (fun w hw => List.mem_cons_of_mem _ (List.mem_append_right _ hw)) hown hK hP 0 rfl rfl 4 (by decide) (hts (.fieldLink RX3 24 "OldStadium$Quarry" "lastLetters" "[I") (List.mem_of_getElem? (i := 6) rfl)) (fun _ h9 => h9) rfl dX3_addStone_100 ?_
                  refine lv_aload_n hx hb dX3_addStone_103 rfl (lv_at hl 0 rfl) ?_
                  refine va_get (D := (dC, dI)) (ci := 3) (v := .int x7) (C := RX3) (T := TX3) (N := 14) hx hb hts (fun w hw => List.mem_cons_of_mem _ (List.mem_append_right _ hw)) hown hK hP 0 rfl rfl 7 (by decide) (hts (.fieldLink RX3 33 "OldStadium$Quarry" "stones" "I") (List.mem_of_getElem? (i := 1) rfl)) (fun _ h9 => h9) rfl dX3_addStone_104 ?_
                  refine lv_iload hx hb dX3_addStone_107 (lv_at hl 5 rfl) ?_
                  refine va_iast hx hb hK hP hD hS 5 0 rfl rfl b16 dX3_addStone_109 (fun H locs hP hD hS => ?_)
                  replace hP : va_P (dC, dI) vwCl (wX3 cI cZ cJ cA h0 a x7 x8 x12 x13 (upd f0 (Int32.toNatClampNeg x7) v1) (upd f1 (Int32.toNatClampNeg x7) v2) (upd f2 (Int32.toNatClampNeg x7) v3) (upd f3 (Int32.toNatClampNeg x7) v4) (upd f4 (Int32.toNatClampNeg x7) v5) f5 f6 f9 f10 f11) H := hP
                  replace hD : va_D A (wX3 cI cZ cJ cA h0 a x7 x8 x12 x13 (upd f0 (Int32.toNatClampNeg x7) v1) (upd f1 (Int32.toNatClampNeg x7) v2) (upd f2 (Int32.toNatClampNeg x7) v3) (upd f3 (Int32.toNatClampNeg x7) v4) (upd f4 (Int32.toNatClampNeg x7) v5) f5 f6 f9 f10 f11) := hD
                  refine lv_aload_n hx hb dX3_addStone_110 rfl (lv_at hl 0 rfl) ?_
                  refine va_get (D := (dC, dI)) (ci := 3) (v := .ref (a 5)) (C := RX3) (T := TX3) (N := 14) hx hb hts (fun w hw => List.mem_cons_of_mem _ (List.mem_append_right _ hw)) hown hK hP 0 rfl rfl 5 (by decide) (hts (.fieldLink RX3 27 "OldStadium$Quarry" "town" "[I") (List.mem_of_getElem? (i := 7) rfl)) (fun _ h9 => h9) rfl dX3_addStone_111 ?_
                  refine lv_aload_n hx hb dX3_addStone_114 rfl (lv_at hl 0 rfl) ?_
                  refine va_get (D := (dC, dI)) (ci := 3) (v := .int x7) (C := RX3) (T := TX3) (N := 14) hx hb hts (fun w hw => List.mem_cons_of_mem _ (List.mem_append_right _ hw)) hown hK hP 0 rfl rfl 7 (by decide) (hts (.fieldLink RX3 33 "OldStadium$Quarry" "stones" "I") (List.mem_of_getElem? (i := 1) rfl)) (fun _ h9 => h9) rfl dX3_addStone_115 ?_
                  refine lv_iload hx hb dX3_addStone_118 (lv_at hl 6 rfl) ?_
                  refine va_iast hx hb hK hP hD hS 6 0 rfl rfl b16 dX3_addStone_120 (fun H locs hP hD hS => ?_)
                  replace hP : va_P (dC, dI) vwCl (wX3 cI cZ cJ cA h0 a x7 x8 x12 x13 (upd f0 (Int32.toNatClampNeg x7) v1) (upd f1 (Int32.toNatClampNeg x7) v2) (upd f2 (Int32.toNatClampNeg x7) v3) (upd f3 (Int32.toNatClampNeg x7) v4) (upd f4 (Int32.toNatClampNeg x7) v5) (upd f5 (Int32.toNatClampNeg x7) v6) f6 f9 f10 f11) H := hP
                  replace hD : va_D A (wX3 cI cZ cJ cA h0 a x7 x8 x12 x13 (upd f0 (Int32.toNatClampNeg x7) v1) (upd f1 (Int32.toNatClampNeg x7) v2) (upd f2 (Int32.toNatClampNeg x7) v3) (upd f3 (Int32.toNatClampNeg x7) v4) (upd f4 (Int32.toNatClampNeg x7) v5) (upd f5 (Int32.toNatClampNeg x7) v6) f6 f9 f10 f11) := hD
                  refine lv_aload_n hx hb dX3_addStone_121 rfl (lv_at hl 0 rfl) ?_
                  refine va_get (D := (dC, dI)) (ci := 3) (v := .ref (a 6)) (C := RX3) (T := TX3) (N := 14) hx hb hts (fun w hw => List.mem_cons_of_mem _ (List.mem_append_right _ hw)) hown hK hP 0 rfl rfl 6 (by decide) (hts (.fieldLink RX3 30 "OldStadium$Quarry" "joined" "[I") (List.mem_of_getElem? (i := 8) rfl)) (fun _ h9 => h9) rfl dX3_addStone_122 ?_
                  refine lv_aload_n hx hb dX3_addStone_125 rfl (lv_at hl 0 rfl) ?_
                  refine va_get (D := (dC, dI)) (ci := 3) (v := .int x7) (C := RX3) (T := TX3) (N := 14) hx hb hts (fun w hw => List.mem_cons_of_mem _ (List.mem_append_right _ hw)) hown hK hP 0 rfl rfl 7 (by decide) (hts (.fieldLink RX3 33 "OldStadium$Quarry" "stones" "I") (List.mem_of_getElem? (i := 1) rfl)) (fun _ h9 => h9) rfl dX3_addStone_126 ?_
                  refine lv_iconst (v := 0) hx hb dX3_addStone_129 (by decide) ?_
                  refine va_iast hx hb hK hP hD hS 7 0 rfl rfl b16 dX3_addStone_130 (fun H locs hP hD hS => ?_)
                  replace hP : va_P (dC, dI) vwCl (wX3 cI cZ cJ cA h0 a x7 x8 x12 x13 (upd f0 (Int32.toNatClampNeg x7) v1) (upd f1 (Int32.toNatClampNeg x7) v2) (upd f2 (Int32.toNatClampNeg x7) v3) (upd f3 (Int32.toNatClampNeg x7) v4) (upd f4 (Int32.toNatClampNeg x7) v5) (upd f5 (Int32.toNatClampNeg x7) v6) (upd f6 (Int32.toNatClampNeg x7) 0) f9 f10 f11) H := hP
                  replace hD : va_D A (wX3 cI cZ cJ cA h0 a x7 x8 x12 x13 (upd f0 (Int32.toNatClampNeg x7) v1) (upd f1 (Int32.toNatClampNeg x7) v2) (upd f2 (Int32.toNatClampNeg x7) v3) (upd f3 (Int32.toNatClampNeg x7) v4) (upd f4 (Int32.toNatClampNeg x7) v5) (upd f5 (Int32.toNatClampNeg x7) v6) (upd f6 (Int32.toNatClampNeg x7) 0) f9 f10 f11) := hD
                  refine lv_aload_n hx hb dX3_addStone_131 rfl (lv_at hl 0 rfl) ?_
                  obtain ⟨o17, ho17, hf1⟩ := z_ib hf
                  replace hf := hf1
                  clear hf1
                  refine z_Vv (As := []) (rest := []) (w := (wX3 cI cZ cJ cA h0 a x7 x8 x12 x13 (upd f0 (Int32.toNatClampNeg x7) v1) (upd f1 (Int32.toNatClampNeg x7) v2) (upd f2 (Int32.toNatClampNeg x7) v3) (upd f3 (Int32.toNatClampNeg x7) v4) (upd f4 (Int32.toNatClampNeg x7) v5) (upd f5 (Int32.toNatClampNeg x7) v6) (upd f6 (Int32.toNatClampNeg x7) 0) f9 f10 f11)) (w1 := (wX3 cI cZ cJ cA h0 a x7 x8 o17.1 o17.2 (upd f0 (Int32.toNatClampNeg x7) v1) (upd f1 (Int32.toNatClampNeg x7) v2) (upd f2 (Int32.toNatClampNeg x7) v3) (upd f3 (Int32.toNatClampNeg x7) v4) (upd f4 (Int32.toNatClampNeg x7) v5) (upd f5 (Int32.toNatClampNeg x7) v6) (upd f6 (Int32.toNatClampNeg x7) 0) f9 f10 f11)) ⟨hx, hb, hml, hown, hts⟩ (k_X3_forget l dC dI cI cZ cJ cA h0 a H.size N x7 x8 x12 x13 (upd f0 (Int32.toNatClampNeg x7) v1) (upd f1 (Int32.toNatClampNeg x7) v2) (upd f2 (Int32.toNatClampNeg x7) v3) (upd f3 (Int32.toNatClampNeg x7) v4) (upd f4 (Int32.toNatClampNeg x7) v5) (upd f5 (Int32.toNatClampNeg x7) v6) (upd f6 (Int32.toNatClampNeg x7) 0) f9 f10 f11 o17 ho17) (cwV 0 hts gX3_addStone_X3_forget rfl rfl rfl (by decide +kernel) ⟨Nat.le_trans (Nat.le_of_ble_eq_true rfl) hRf, Nat.le_trans (Nat.le_of_ble_eq_true rfl) hRl⟩) hK hP hD hS hA hN (ci := 3) rfl rfl rfl rfl hl.1 rfl (Nat.le_of_ble_eq_true rfl) dX3_addStone_132 (fun H locs hP hD hS => ?_)
                  refine lv_aload_n hx hb dX3_addStone_135 rfl (lv_at hl 0 rfl) ?_
                  refine lv_dup hx hb dX3_addStone_136 rfl ?_
                  refine va_get (D := (dC, dI)) (ci := 3) (v := .int x7) (C := RX3) (T := TX3) (N := 14) hx hb hts (fun w hw => List.mem_cons_of_mem _ (List.mem_append_right _ hw)) hown hK hP 0 rfl rfl 7 (by decide) (hts (.fieldLink RX3 33 "OldStadium$Quarry" "stones" "I") (List.mem_of_getElem? (i := 1) rfl)) (fun _ h9 => h9) rfl dX3_addStone_137 ?_
                  refine lv_dup_x1 hx hb dX3_addStone_140 rfl rfl ?_
                  refine lv_iconst (v := 1) hx hb dX3_addStone_141 (by decide) ?_
                  refine lv_iadd hx hb dX3_addStone_142 ?_
                  refine va_put (D := (dC, dI)) (ci := 3) (v := .int (x7 + 1)) (ty := .int) (C := RX3) (T := TX3) (N := 14) hx hb hts (fun w hw => List.mem_cons_of_mem _ (List.mem_append_right _ hw)) tyX3 tyX3_ok nmX3 hown hK hP hD hS 0 rfl rfl 7 (by decide) (hts (.fieldLink RX3 33 "OldStadium$Quarry" "stones" "I") (List.mem_of_getElem? (i := 1) rfl)) (fun _ h9 => h9) rfl (by decide +kernel) rfl rfl (Nat.le_of_ble_eq_true rfl) dX3_addStone_143 (fun H locs hP hD hS => ?_)
                  replace hP : va_P (dC, dI) vwCl (wX3 cI cZ cJ cA h0 a (x7 + 1) x8 o17.1 o17.2 (upd f0 (Int32.toNatClampNeg x7) v1) (upd f1 (Int32.toNatClampNeg x7) v2) (upd f2 (Int32.toNatClampNeg x7) v3) (upd f3 (Int32.toNatClampNeg x7) v4) (upd f4 (Int32.toNatClampNeg x7) v5) (upd f5 (Int32.toNatClampNeg x7) v6) (upd f6 (Int32.toNatClampNeg x7) 0) f9 f10 f11) H := hP
                  replace hD : va_D A (wX3 cI cZ cJ cA h0 a (x7 + 1) x8 o17.1 o17.2 (upd f0 (Int32.toNatClampNeg x7) v1) (upd f1 (Int32.toNatClampNeg x7) v2) (upd f2 (Int32.toNatClampNeg x7) v3) (upd f3 (Int32.toNatClampNeg x7) v4) (upd f4 (Int32.toNatClampNeg x7) v5) (upd f5 (Int32.toNatClampNeg x7) v6) (upd f6 (Int32.toNatClampNeg x7) 0) f9 f10 f11) := hD
                  obtain rfl := Option.some.inj hf
                  exact hret _ _ _ _ _ dX3_addStone_146 rfl hP hD hS
                · replace hf := z_im hf c15
                  refine lv_iconst (v := (-1)) hx hb dX3_addStone_56 (by decide) ?_
                  obtain rfl := Option.some.inj hf
                  exact hret _ _ _ _ _ dX3_addStone_57 rfl hP hD hS
set_option maxHeartbeats 4000000 in
set_option maxRecDepth 100000 in
theorem k_X3_addStone (l : Launch) (dC : Nat → ClassId) (dI : Nat → Nat → Nat) (cI cZ cJ cA : ClassId) (h0 : Nat) (a : Nat → Nat) (sz : Nat) (N : Nat) (v1 : Int32) (v2 : Int32) (v3 : Int32) (v4 : Int32) (v5 : Int32) (v6 : Int32) (x7 : Int32) (x8 : Int32) (x12 : Int32) (x13 : Int32) (f0 : (Nat → Int32)) (f1 : (Nat → Int32)) (f2 : (Nat → Int32)) (f3 : (Nat → Int32)) (f4 : (Nat → Int32)) (f5 : (Nat → Int32)) (f6 : (Nat → Int32)) (f9 : (Nat → Int32)) (f10 : (Nat → Int32)) (f11 : (Nat → Int64)) (o : (Int32 × Int32 × Int32 × Int32 × (Nat → Int32) × (Nat → Int32) × (Nat → Int32) × (Nat → Int32) × (Nat → Int32) × (Nat → Int32) × (Nat → Int32))) (hf : q_X3_addStone N v1 v2 v3 v4 v5 v6 x7 x12 x13 f0 f1 f2 f3 f4 f5 f6 = some o) : Met l yX3_addStone wsX3_addStone ({ frames := 2, cells := 0, slots := 0, locals := 42 } : Room) (z_Pre dC dI (z_ty cI cZ cJ cA) [.ref h0, .int v1, .int v2, .int v3, .int v4, .int v5, .int v6] sz (wX3 cI cZ cJ cA h0 a x7 x8 x12 x13 f0 f1 f2 f3 f4 f5 f6 f9 f10 f11)) (z_Pi dC dI o.1 (wX3 cI cZ cJ cA h0 a o.2.1 x8 o.2.2.1 o.2.2.2.1 o.2.2.2.2.1 o.2.2.2.2.2.1 o.2.2.2.2.2.2.1 o.2.2.2.2.2.2.2.1 o.2.2.2.2.2.2.2.2.1 o.2.2.2.2.2.2.2.2.2.1 o.2.2.2.2.2.2.2.2.2.2 f9 f10 f11) sz (wX3 cI cZ cJ cA h0 a x7 x8 x12 x13 f0 f1 f2 f3 f4 f5 f6 f9 f10 f11)) 0 0 (va_A (wX3 cI cZ cJ cA h0 a x7 x8 x12 x13 f0 f1 f2 f3 f4 f5 f6 f9 f10 f11) sz) := by
  refine Met.ofW (cc := cX3_addStone) (maxL := 7) (ret := (some .int)) (by decide) rfl ?_
  intro p e s m args below meth c s₁ B hml hv
  obtain ⟨rfl, hsz, hP, hK, hD0, hN⟩ := hv
  subst hsz
  have hl := lv_entry ([.ref h0, .int v1, .int v2, .int v3, .int v4, .int v5, .int v6]) (n := 7) (Nat.le_of_ble_eq_true rfl)
  rw [lg_entry_eq]
  refine b_X3_addStone N ⟨⟨B.exec, B.bytes, hml, findClass_of_methodNamed B.named, atoms_spec (ws := wsX3_addStone) B.pre⟩, Nat.le_refl _, Nat.le_refl _, fun q h => Or.inr h, hN, hK⟩ hf hP hD0.self va_S.rf hl (fun pc H locs ls r hd hr hP hD hS => ?_)
  subst hr
  exact W.iret B.exec B.bytes B.returns (fun t ht hW => ⟨⟨_, (), rfl, rfl, by rw [ht]; exact hP, hD⟩, hS.F ht⟩) hS.2.2 hd
def q_X3_letterOf (N : Nat) (v1 : Int32) (v2 : Int32) (f3 : (Nat → Int32)) (f4 : (Nat → Int32)) : Option Int32 :=
  (if 4 ≤ v2 then
   (if z_in v1 6 then
   (Option.bind (q_X3_letterIn N (f4 (Int32.toNatClampNeg v1)) (v2 - 4)) (fun o3 =>
   (some o3)))
   else none)
  else
   (if z_in v1 6 then
   (Option.bind (q_X3_letterIn N (f3 (Int32.toNatClampNeg v1)) v2) (fun o5 =>
   (some o5)))
   else none))
set_option maxHeartbeats 4000000 in
set_option maxRecDepth 100000 in
theorem b_X3_letterOf {p : Program} {l : Launch} {e : Env} {R : Room} {s : State} {m : MethodId} {args : Array Value} {below : List Frame} {meth : Method} {c : Code} {Q : State → Prop} {A : Nat → Prop} {dC : Nat → ClassId} {dI : Nat → Nat → Nat} {cI cZ cJ cA : ClassId} {h0 : Nat} {a : Nat → Nat} (N : Nat) (C0 : z_Cx p s m args c cX3_letterOf 4 wsX3_letterOf RX3 R 1 21 A dC dI (z_ty cI cZ cJ cA)) {v1 : Int32} {v2 : Int32} {x7 : Int32} {x8 : Int32} {x12 : Int32} {x13 : Int32} {f0 : (Nat → Int32)} {f1 : (Nat → Int32)} {f2 : (Nat → Int32)} {f3 : (Nat → Int32)} {f4 : (Nat → Int32)} {f5 : (Nat → Int32)} {f6 : (Nat → Int32)} {f9 : (Nat → Int32)} {f10 : (Nat → Int32)} {f11 : (Nat → Int64)} {o : Int32} {H : Heap} {locs : List Loc} {ls : Array Slot} (hf : q_X3_letterOf N v1 v2 f3 f4 = some o) (hP : va_P (dC, dI) vwCl (wX3 cI cZ cJ cA h0 a x7 x8 x12 x13 f0 f1 f2 f3 f4 f5 f6 f9 f10 f11) H) (hD : va_D A (wX3 cI cZ cJ cA h0 a x7 x8 x12 x13 f0 f1 f2 f3 f4 f5 f6 f9 f10 f11)) (hS : va_S A s.heap H locs) (hl : lv_has ls 4 [(0, .ref h0), (1, .int v1), (2, .int v2)])
    (hret : ∀ (pc : Nat) (H : Heap) (locs : List Loc) (ls : Array Slot) (r : Int32), decode cX3_letterOf pc = .ok (.ireturn, 1) → r = o → va_P (dC, dI) vwCl (wX3 cI cZ cJ cA h0 a x7 x8 x12 x13 f0 f1 f2 f3 f4 f5 f6 f9 f10 f11) H → va_D A (wX3 cI cZ cJ cA h0 a x7 x8 x12 x13 f0 f1 f2 f3 f4 f5 f6 f9 f10 f11) → va_S A s.heap H locs → W p l e R s m args below meth c H locs 0 0 Q (F0 m pc ls [.int r])) :
    W p l e R s m args below meth c H locs 0 0 Q (F0 m 0 ls []) := by
  obtain ⟨⟨hx, hb, hml, hown, hts⟩, hRf, hRl, hA, hN, hK⟩ := C0
  unfold q_X3_letterOf at hf
  refine lv_iconst (v := 4) hx hb dX3_letterOf_0 (by decide) ?_
  refine lv_istore_n (lv' := [(3, .int 4), (0, .ref h0), (1, .int v1), (2, .int v2)]) hx hb dX3_letterOf_1 rfl hl (by decide) rfl (fun ls hl => ?_)
  refine lv_iload_n hx hb dX3_letterOf_2 rfl (lv_at hl 3 rfl) ?_
  refine lv_iload_n hx hb dX3_letterOf_3 rfl (lv_at hl 0 rfl) ?_
  refine lv_icmp_ge (tgt := 20) hx hb dX3_letterOf_4 (by decide) (fun c1 => ?_) (fun c1 => ?_)
  · replace hf := z_ip hf c1
    refine lv_aload_n hx hb dX3_letterOf_20 rfl (lv_at hl 1 rfl) ?_
    refine va_get (D := (dC, dI)) (ci := 3) (v := .ref (a 4)) (C := RX3) (T := TX3) (N := 14) hx hb hts (fun w hw => List.mem_cons_of_mem _ (List.mem_append_right _ hw)) hown hK hP 0 rfl rfl 4 (by decide) (hts (.fieldLink RX3 24 "OldStadium$Quarry" "lastLetters" "[I") (List.mem_of_getElem? (i := 2) rfl)) (fun _ h9 => h9) rfl dX3_letterOf_21 ?_
    refine lv_iload_n hx hb dX3_letterOf_24 rfl (lv_at hl 2 rfl) ?_
    have b2 := z_c1 hf
    replace hf := z_c2 hf
    refine va_iald hx hb hK hP 5 0 rfl rfl b2 dX3_letterOf_25 ?_
    refine lv_iload_n hx hb dX3_letterOf_26 rfl (lv_at hl 3 rfl) ?_
    refine lv_iload_n hx hb dX3_letterOf_27 rfl (lv_at hl 0 rfl) ?_
    refine lv_isub hx hb dX3_letterOf_28 ?_
    obtain ⟨o3, ho3, hf1⟩ := z_ib hf
    replace hf := hf1
    clear hf1
    refine z_S0 (As := [.int (f4 (Int32.toNatClampNeg v1)), .int (v2 - 4)]) (rest := []) ⟨hx, hb, hml, hown, hts⟩ (k_X3_letterIn l dC dI cI cZ cJ cA H.size N (f4 (Int32.toNatClampNeg v1)) (v2 - 4) o3 ho3) (va_cwS 2 hts gX3_letterOf_X3_letterIn rfl rfl rfl (by decide +kernel) ⟨Nat.le_trans (Nat.le_of_ble_eq_true rfl) hRf, Nat.le_trans (Nat.le_of_ble_eq_true rfl) hRl⟩) hK hP hS hA hN rfl hl.1 rfl (Nat.le_of_ble_eq_true rfl) dX3_letterOf_29 (fun H locs hP hS => ?_)
    obtain rfl := Option.some.inj hf
    exact hret _ _ _ _ _ dX3_letterOf_32 rfl hP hD hS
  · replace hf := z_im hf c1
    refine lv_aload_n hx hb dX3_letterOf_7 rfl (lv_at hl 1 rfl) ?_
    refine va_get (D := (dC, dI)) (ci := 3) (v := .ref (a 3)) (C := RX3) (T := TX3) (N := 14) hx hb hts (fun w hw => List.mem_cons_of_mem _ (List.mem_append_right _ hw)) hown hK hP 0 rfl rfl 3 (by decide) (hts (.fieldLink RX3 21 "OldStadium$Quarry" "firstLetters" "[I") (List.mem_of_getElem? (i := 1) rfl)) (fun _ h9 => h9) rfl dX3_letterOf_8 ?_
    refine lv_iload_n hx hb dX3_letterOf_11 rfl (lv_at hl 2 rfl) ?_
    have b4 := z_c1 hf
    replace hf := z_c2 hf
    refine va_iald hx hb hK hP 4 0 rfl rfl b4 dX3_letterOf_12 ?_
    refine lv_iload_n hx hb dX3_letterOf_13 rfl (lv_at hl 3 rfl) ?_
    obtain ⟨o5, ho5, hf1⟩ := z_ib hf
    replace hf := hf1
    clear hf1
    refine z_S0 (As := [.int (f3 (Int32.toNatClampNeg v1)), .int v2]) (rest := []) ⟨hx, hb, hml, hown, hts⟩ (k_X3_letterIn l dC dI cI cZ cJ cA H.size N (f3 (Int32.toNatClampNeg v1)) v2 o5 ho5) (va_cwS 2 hts gX3_letterOf_X3_letterIn rfl rfl rfl (by decide +kernel) ⟨Nat.le_trans (Nat.le_of_ble_eq_true rfl) hRf, Nat.le_trans (Nat.le_of_ble_eq_true rfl) hRl⟩) hK hP hS hA hN rfl hl.1 rfl (Nat.le_of_ble_eq_true rfl) dX3_letterOf_14 (fun H locs hP hS => ?_)
    refine lv_goto (tgt := 32) hx hb dX3_letterOf_17 (by decide) ?_
    obtain rfl := Option.some.inj hf
    exact hret _ _ _ _ _ dX3_letterOf_32 rfl hP hD hS
set_option maxHeartbeats 4000000 in
set_option maxRecDepth 100000 in
theorem k_X3_letterOf (l : Launch) (dC : Nat → ClassId) (dI : Nat → Nat → Nat) (cI cZ cJ cA : ClassId) (h0 : Nat) (a : Nat → Nat) (sz : Nat) (N : Nat) (v1 : Int32) (v2 : Int32) (x7 : Int32) (x8 : Int32) (x12 : Int32) (x13 : Int32) (f0 : (Nat → Int32)) (f1 : (Nat → Int32)) (f2 : (Nat → Int32)) (f3 : (Nat → Int32)) (f4 : (Nat → Int32)) (f5 : (Nat → Int32)) (f6 : (Nat → Int32)) (f9 : (Nat → Int32)) (f10 : (Nat → Int32)) (f11 : (Nat → Int64)) (o : Int32) (hf : q_X3_letterOf N v1 v2 f3 f4 = some o) : Met l yX3_letterOf wsX3_letterOf ({ frames := 1, cells := 0, slots := 0, locals := 21 } : Room) (z_Pre dC dI (z_ty cI cZ cJ cA) [.ref h0, .int v1, .int v2] sz (wX3 cI cZ cJ cA h0 a x7 x8 x12 x13 f0 f1 f2 f3 f4 f5 f6 f9 f10 f11)) (z_Pi dC dI o (wX3 cI cZ cJ cA h0 a x7 x8 x12 x13 f0 f1 f2 f3 f4 f5 f6 f9 f10 f11) sz (wX3 cI cZ cJ cA h0 a x7 x8 x12 x13 f0 f1 f2 f3 f4 f5 f6 f9 f10 f11)) 0 0 (va_A (wX3 cI cZ cJ cA h0 a x7 x8 x12 x13 f0 f1 f2 f3 f4 f5 f6 f9 f10 f11) sz) := by
  refine Met.ofW (cc := cX3_letterOf) (maxL := 4) (ret := (some .int)) (by decide) rfl ?_
  intro p e s m args below meth c s₁ B hml hv
  obtain ⟨rfl, hsz, hP, hK, hD0, hN⟩ := hv
  subst hsz
  have hl := lv_entry ([.ref h0, .int v1, .int v2]) (n := 4) (Nat.le_of_ble_eq_true rfl)
  rw [lg_entry_eq]
  refine b_X3_letterOf N ⟨⟨B.exec, B.bytes, hml, findClass_of_methodNamed B.named, atoms_spec (ws := wsX3_letterOf) B.pre⟩, Nat.le_refl _, Nat.le_refl _, fun q h => Or.inr h, hN, hK⟩ hf hP hD0.self va_S.rf hl (fun pc H locs ls r hd hr hP hD hS => ?_)
  subst hr
  exact W.iret B.exec B.bytes B.returns (fun t ht hW => ⟨⟨_, (), rfl, rfl, by rw [ht]; exact hP, hD⟩, hS.F ht⟩) hS.2.2 hd
def q_X3_tellLetter (N : Nat) (v1 : Int32) (v2 : Int32) (x7 : Int32) (f3 : (Nat → Int32)) (f4 : (Nat → Int32)) : Option Int32 :=
  (Option.bind (q_X3_isStone N v1 x7) (fun o1 =>
  (if o1 = 0 then
   (some (-1))
  else
   (if v2 < 0 then
    (some (-1))
   else
    (if 8 ≤ v2 then
     (some (-1))
    else
     (Option.bind (q_X3_letterOf N v1 v2 f3 f4) (fun o5 =>
     (some o5))))))))
set_option maxHeartbeats 4000000 in
set_option maxRecDepth 100000 in
theorem b_X3_tellLetter {p : Program} {l : Launch} {e : Env} {R : Room} {s : State} {m : MethodId} {args : Array Value} {below : List Frame} {meth : Method} {c : Code} {Q : State → Prop} {A : Nat → Prop} {dC : Nat → ClassId} {dI : Nat → Nat → Nat} {cI cZ cJ cA : ClassId} {h0 : Nat} {a : Nat → Nat} (N : Nat) (C0 : z_Cx p s m args c cX3_tellLetter 3 wsX3_tellLetter RX3 R 2 44 A dC dI (z_ty cI cZ cJ cA)) {v1 : Int32} {v2 : Int32} {x7 : Int32} {x8 : Int32} {x12 : Int32} {x13 : Int32} {f0 : (Nat → Int32)} {f1 : (Nat → Int32)} {f2 : (Nat → Int32)} {f3 : (Nat → Int32)} {f4 : (Nat → Int32)} {f5 : (Nat → Int32)} {f6 : (Nat → Int32)} {f9 : (Nat → Int32)} {f10 : (Nat → Int32)} {f11 : (Nat → Int64)} {o : Int32} {H : Heap} {locs : List Loc} {ls : Array Slot} (hf : q_X3_tellLetter N v1 v2 x7 f3 f4 = some o) (hP : va_P (dC, dI) vwCl (wX3 cI cZ cJ cA h0 a x7 x8 x12 x13 f0 f1 f2 f3 f4 f5 f6 f9 f10 f11) H) (hD : va_D A (wX3 cI cZ cJ cA h0 a x7 x8 x12 x13 f0 f1 f2 f3 f4 f5 f6 f9 f10 f11)) (hS : va_S A s.heap H locs) (hl : lv_has ls 3 [(0, .ref h0), (1, .int v1), (2, .int v2)])
    (hret : ∀ (pc : Nat) (H : Heap) (locs : List Loc) (ls : Array Slot) (r : Int32), decode cX3_tellLetter pc = .ok (.ireturn, 1) → r = o → va_P (dC, dI) vwCl (wX3 cI cZ cJ cA h0 a x7 x8 x12 x13 f0 f1 f2 f3 f4 f5 f6 f9 f10 f11) H → va_D A (wX3 cI cZ cJ cA h0 a x7 x8 x12 x13 f0 f1 f2 f3 f4 f5 f6 f9 f10 f11) → va_S A s.heap H locs → W p l e R s m args below meth c H locs 0 0 Q (F0 m pc ls [.int r])) :
    W p l e R s m args below meth c H locs 0 0 Q (F0 m 0 ls []) := by
  obtain ⟨⟨hx, hb, hml, hown, hts⟩, hRf, hRl, hA, hN, hK⟩ := C0
  unfold q_X3_tellLetter at hf
  refine lv_aload_n hx hb dX3_tellLetter_0 rfl (lv_at hl 0 rfl) ?_
  refine lv_iload_n hx hb dX3_tellLetter_1 rfl (lv_at hl 1 rfl) ?_
  obtain ⟨o1, ho1, hf1⟩ := z_ib hf
  replace hf := hf1
  clear hf1
  refine z_Vi (As := [.int v1]) (rest := []) (w := (wX3 cI cZ cJ cA h0 a x7 x8 x12 x13 f0 f1 f2 f3 f4 f5 f6 f9 f10 f11)) (w1 := (wX3 cI cZ cJ cA h0 a x7 x8 x12 x13 f0 f1 f2 f3 f4 f5 f6 f9 f10 f11)) ⟨hx, hb, hml, hown, hts⟩ (k_X3_isStone l dC dI cI cZ cJ cA h0 a H.size N v1 x7 x8 x12 x13 f0 f1 f2 f3 f4 f5 f6 f9 f10 f11 o1 ho1) (cwV 1 hts gX3_tellLetter_X3_isStone rfl rfl rfl (by decide +kernel) ⟨Nat.le_trans (Nat.le_of_ble_eq_true rfl) hRf, Nat.le_trans (Nat.le_of_ble_eq_true rfl) hRl⟩) hK hP hD hS hA hN (ci := 3) rfl rfl rfl rfl hl.1 rfl (Nat.le_of_ble_eq_true rfl) dX3_tellLetter_2 (fun H locs hP hD hS => ?_)
  refine lv_if_eq (tgt := 27) hx hb dX3_tellLetter_5 (by decide) (fun c2 => ?_) (fun c2 => ?_)
  · replace hf := z_ip hf c2
    refine lv_iconst (v := (-1)) hx hb dX3_tellLetter_27 (by decide) ?_
    obtain rfl := Option.some.inj hf
    exact hret _ _ _ _ _ dX3_tellLetter_28 rfl hP hD hS
  · replace hf := z_im hf c2
    refine lv_iload_n hx hb dX3_tellLetter_8 rfl (lv_at hl 2 rfl) ?_
    refine lv_if_lt (tgt := 27) hx hb dX3_tellLetter_9 (by decide) (fun c3 => ?_) (fun c3 => ?_)
    · replace hf := z_ip hf c3
      refine lv_iconst (v := (-1)) hx hb dX3_tellLetter_27 (by decide) ?_
      obtain rfl := Option.some.inj hf
      exact hret _ _ _ _ _ dX3_tellLetter_28 rfl hP hD hS
    · replace hf := z_im hf c3
      refine lv_iload_n hx hb dX3_tellLetter_12 rfl (lv_at hl 2 rfl) ?_
      refine lv_bipush (v := 8) hx hb dX3_tellLetter_13 (by decide) ?_
      refine lv_icmp_ge (tgt := 27) hx hb dX3_tellLetter_15 (by decide) (fun c4 => ?_) (fun c4 => ?_)
      · replace hf := z_ip hf c4
        refine lv_iconst (v := (-1)) hx hb dX3_tellLetter_27 (by decide) ?_
        obtain rfl := Option.some.inj hf
        exact hret _ _ _ _ _ dX3_tellLetter_28 rfl hP hD hS
      · replace hf := z_im hf c4
        refine lv_aload_n hx hb dX3_tellLetter_18 rfl (lv_at hl 0 rfl) ?_
        refine lv_iload_n hx hb dX3_tellLetter_19 rfl (lv_at hl 1 rfl) ?_
        refine lv_iload_n hx hb dX3_tellLetter_20 rfl (lv_at hl 2 rfl) ?_
        obtain ⟨o5, ho5, hf1⟩ := z_ib hf
        replace hf := hf1
        clear hf1
        refine z_Vi (As := [.int v1, .int v2]) (rest := []) (w := (wX3 cI cZ cJ cA h0 a x7 x8 x12 x13 f0 f1 f2 f3 f4 f5 f6 f9 f10 f11)) (w1 := (wX3 cI cZ cJ cA h0 a x7 x8 x12 x13 f0 f1 f2 f3 f4 f5 f6 f9 f10 f11)) ⟨hx, hb, hml, hown, hts⟩ (k_X3_letterOf l dC dI cI cZ cJ cA h0 a H.size N v1 v2 x7 x8 x12 x13 f0 f1 f2 f3 f4 f5 f6 f9 f10 f11 o5 ho5) (cwV 2 hts gX3_tellLetter_X3_letterOf rfl rfl rfl (by decide +kernel) ⟨Nat.le_trans (Nat.le_of_ble_eq_true rfl) hRf, Nat.le_trans (Nat.le_of_ble_eq_true rfl) hRl⟩) hK hP hD hS hA hN (ci := 3) rfl rfl rfl rfl hl.1 rfl (Nat.le_of_ble_eq_true rfl) dX3_tellLetter_21 (fun H locs hP hD hS => ?_)
        refine lv_goto (tgt := 28) hx hb dX3_tellLetter_24 (by decide) ?_
        obtain rfl := Option.some.inj hf
        exact hret _ _ _ _ _ dX3_tellLetter_28 rfl hP hD hS
set_option maxHeartbeats 4000000 in
set_option maxRecDepth 100000 in
theorem k_X3_tellLetter (l : Launch) (dC : Nat → ClassId) (dI : Nat → Nat → Nat) (cI cZ cJ cA : ClassId) (h0 : Nat) (a : Nat → Nat) (sz : Nat) (N : Nat) (v1 : Int32) (v2 : Int32) (x7 : Int32) (x8 : Int32) (x12 : Int32) (x13 : Int32) (f0 : (Nat → Int32)) (f1 : (Nat → Int32)) (f2 : (Nat → Int32)) (f3 : (Nat → Int32)) (f4 : (Nat → Int32)) (f5 : (Nat → Int32)) (f6 : (Nat → Int32)) (f9 : (Nat → Int32)) (f10 : (Nat → Int32)) (f11 : (Nat → Int64)) (o : Int32) (hf : q_X3_tellLetter N v1 v2 x7 f3 f4 = some o) : Met l yX3_tellLetter wsX3_tellLetter ({ frames := 2, cells := 0, slots := 0, locals := 44 } : Room) (z_Pre dC dI (z_ty cI cZ cJ cA) [.ref h0, .int v1, .int v2] sz (wX3 cI cZ cJ cA h0 a x7 x8 x12 x13 f0 f1 f2 f3 f4 f5 f6 f9 f10 f11)) (z_Pi dC dI o (wX3 cI cZ cJ cA h0 a x7 x8 x12 x13 f0 f1 f2 f3 f4 f5 f6 f9 f10 f11) sz (wX3 cI cZ cJ cA h0 a x7 x8 x12 x13 f0 f1 f2 f3 f4 f5 f6 f9 f10 f11)) 0 0 (va_A (wX3 cI cZ cJ cA h0 a x7 x8 x12 x13 f0 f1 f2 f3 f4 f5 f6 f9 f10 f11) sz) := by
  refine Met.ofW (cc := cX3_tellLetter) (maxL := 3) (ret := (some .int)) (by decide) rfl ?_
  intro p e s m args below meth c s₁ B hml hv
  obtain ⟨rfl, hsz, hP, hK, hD0, hN⟩ := hv
  subst hsz
  have hl := lv_entry ([.ref h0, .int v1, .int v2]) (n := 3) (Nat.le_of_ble_eq_true rfl)
  rw [lg_entry_eq]
  refine b_X3_tellLetter N ⟨⟨B.exec, B.bytes, hml, findClass_of_methodNamed B.named, atoms_spec (ws := wsX3_tellLetter) B.pre⟩, Nat.le_refl _, Nat.le_refl _, fun q h => Or.inr h, hN, hK⟩ hf hP hD0.self va_S.rf hl (fun pc H locs ls r hd hr hP hD hS => ?_)
  subst hr
  exact W.iret B.exec B.bytes B.returns (fun t ht hW => ⟨⟨_, (), rfl, rfl, by rw [ht]; exact hP, hD⟩, hS.F ht⟩) hS.2.2 hd
def q_X3_setJoined (N : Nat) (v1 : Int32) (v2 : Int32) (v3 : Int32) (x7 : Int32) (x12 : Int32) (x13 : Int32) (f6 : (Nat → Int32)) : Option (Int32 × Int32 × Int32 × (Nat → Int32)) :=
  (Option.bind (q_X3_isStone N v1 x7) (fun o1 =>
  (if o1 = 0 then
   (some (0, x12, x13, f6))
  else
   (Option.bind (q_X3_isStone N v2 x7) (fun o3 =>
   (if o3 = 0 then
    (some (0, x12, x13, f6))
   else
    (if v1 = v2 then
     (some (0, x12, x13, f6))
    else
     (if v3 = 0 then
      (if z_in v1 6 then
      (Option.bind (some (((f6 (Int32.toNatClampNeg v1)) &&& (((1 : Int32) <<< (v2 &&& 31)) ^^^ (-1))) : Int32)) (fun n8 =>
      (if z_in v2 6 then
      (Option.bind (some ((((upd f6 (Int32.toNatClampNeg v1) n8) (Int32.toNatClampNeg v2)) &&& (((1 : Int32) <<< (v1 &&& 31)) ^^^ (-1))) : Int32)) (fun n10 =>
      (Option.bind (q_X3_forget N x12 x13) (fun o11 =>
      (some (1, o11.1, o11.2, (upd (upd f6 (Int32.toNatClampNeg v1) n8) (Int32.toNatClampNeg v2) n10)))))))
      else none)))
      else none)
     else
      (if z_in v1 6 then
      (Option.bind (some (((f6 (Int32.toNatClampNeg v1)) ||| ((1 : Int32) <<< (v2 &&& 31))) : Int32)) (fun n13 =>
      (if z_in v2 6 then
      (Option.bind (some ((((upd f6 (Int32.toNatClampNeg v1) n13) (Int32.toNatClampNeg v2)) ||| ((1 : Int32) <<< (v1 &&& 31))) : Int32)) (fun n15 =>
      (Option.bind (q_X3_forget N x12 x13) (fun o16 =>
      (some (1, o16.1, o16.2, (upd (upd f6 (Int32.toNatClampNeg v1) n13) (Int32.toNatClampNeg v2) n15)))))))
      else none)))
      else none)))))))))
set_option maxHeartbeats 4000000 in
set_option maxRecDepth 100000 in
theorem b_X3_setJoined {p : Program} {l : Launch} {e : Env} {R : Room} {s : State} {m : MethodId} {args : Array Value} {below : List Frame} {meth : Method} {c : Code} {Q : State → Prop} {A : Nat → Prop} {dC : Nat → ClassId} {dI : Nat → Nat → Nat} {cI cZ cJ cA : ClassId} {h0 : Nat} {a : Nat → Nat} (N : Nat) (C0 : z_Cx p s m args c cX3_setJoined 4 wsX3_setJoined RX3 R 1 21 A dC dI (z_ty cI cZ cJ cA)) {v1 : Int32} {v2 : Int32} {v3 : Int32} {x7 : Int32} {x8 : Int32} {x12 : Int32} {x13 : Int32} {f0 : (Nat → Int32)} {f1 : (Nat → Int32)} {f2 : (Nat → Int32)} {f3 : (Nat → Int32)} {f4 : (Nat → Int32)} {f5 : (Nat → Int32)} {f6 : (Nat → Int32)} {f9 : (Nat → Int32)} {f10 : (Nat → Int32)} {f11 : (Nat → Int64)} {o : (Int32 × Int32 × Int32 × (Nat → Int32))} {H : Heap} {locs : List Loc} {ls : Array Slot} (hf : q_X3_setJoined N v1 v2 v3 x7 x12 x13 f6 = some o) (hP : va_P (dC, dI) vwCl (wX3 cI cZ cJ cA h0 a x7 x8 x12 x13 f0 f1 f2 f3 f4 f5 f6 f9 f10 f11) H) (hD : va_D A (wX3 cI cZ cJ cA h0 a x7 x8 x12 x13 f0 f1 f2 f3 f4 f5 f6 f9 f10 f11)) (hS : va_S A s.heap H locs) (hl : lv_has ls 4 [(0, .ref h0), (1, .int v1), (2, .int v2), (3, .int v3)])
    (hret : ∀ (pc : Nat) (H : Heap) (locs : List Loc) (ls : Array Slot) (r : Int32), decode cX3_setJoined pc = .ok (.ireturn, 1) → r = o.1 → narrow .boolean (.int r) = .int r → va_P (dC, dI) vwCl (wX3 cI cZ cJ cA h0 a x7 x8 o.2.1 o.2.2.1 f0 f1 f2 f3 f4 f5 o.2.2.2 f9 f10 f11) H → va_D A (wX3 cI cZ cJ cA h0 a x7 x8 o.2.1 o.2.2.1 f0 f1 f2 f3 f4 f5 o.2.2.2 f9 f10 f11) → va_S A s.heap H locs → W p l e R s m args below meth c H locs 0 0 Q (F0 m pc ls [.int r])) :
    W p l e R s m args below meth c H locs 0 0 Q (F0 m 0 ls []) := by
  obtain ⟨⟨hx, hb, hml, hown, hts⟩, hRf, hRl, hA, hN, hK⟩ := C0
  unfold q_X3_setJoined at hf
  refine lv_aload_n hx hb dX3_setJoined_0 rfl (lv_at hl 0 rfl) ?_
  refine lv_iload_n hx hb dX3_setJoined_1 rfl (lv_at hl 1 rfl) ?_
  obtain ⟨o1, ho1, hf1⟩ := z_ib hf
  replace hf := hf1
  clear hf1
  refine z_Vi (As := [.int v1]) (rest := []) (w := (wX3 cI cZ cJ cA h0 a x7 x8 x12 x13 f0 f1 f2 f3 f4 f5 f6 f9 f10 f11)) (w1 := (wX3 cI cZ cJ cA h0 a x7 x8 x12 x13 f0 f1 f2 f3 f4 f5 f6 f9 f10 f11)) ⟨hx, hb, hml, hown, hts⟩ (k_X3_isStone l dC dI cI cZ cJ cA h0 a H.size N v1 x7 x8 x12 x13 f0 f1 f2 f3 f4 f5 f6 f9 f10 f11 o1 ho1) (cwV 1 hts gX3_setJoined_X3_isStone rfl rfl rfl (by decide +kernel) ⟨Nat.le_trans (Nat.le_of_ble_eq_true rfl) hRf, Nat.le_trans (Nat.le_of_ble_eq_true rfl) hRl⟩) hK hP hD hS hA hN (ci := 3) rfl rfl rfl rfl hl.1 rfl (Nat.le_of_ble_eq_true rfl) dX3_setJoined_2 (fun H locs hP hD hS => ?_)
  refine lv_if_eq (tgt := 21) hx hb dX3_setJoined_5 (by decide) (fun c2 => ?_) (fun c2 => ?_)
  · replace hf := z_ip hf c2
    refine lv_iconst (v := 0) hx hb dX3_setJoined_21 (by decide) ?_
    obtain rfl := Option.some.inj hf
    exact hret _ _ _ _ _ dX3_setJoined_22 rfl rfl hP hD hS
  · replace hf := z_im hf c2
    refine lv_aload_n hx hb dX3_setJoined_8 rfl (lv_at hl 0 rfl) ?_
    refine lv_iload_n hx hb dX3_setJoined_9 rfl (lv_at hl 2 rfl) ?_
    obtain ⟨o3, ho3, hf1⟩ := z_ib hf
    replace hf := hf1
    clear hf1
    refine z_Vi (As := [.int v2]) (rest := []) (w := (wX3 cI cZ cJ cA h0 a x7 x8 x12 x13 f0 f1 f2 f3 f4 f5 f6 f9 f10 f11)) (w1 := (wX3 cI cZ cJ cA h0 a x7 x8 x12 x13 f0 f1 f2 f3 f4 f5 f6 f9 f10 f11)) ⟨hx, hb, hml, hown, hts⟩ (k_X3_isStone l dC dI cI cZ cJ cA h0 a H.size N v2 x7 x8 x12 x13 f0 f1 f2 f3 f4 f5 f6 f9 f10 f11 o3 ho3) (cwV 1 hts gX3_setJoined_X3_isStone rfl rfl rfl (by decide +kernel) ⟨Nat.le_trans (Nat.le_of_ble_eq_true rfl) hRf, Nat.le_trans (Nat.le_of_ble_eq_true rfl) hRl⟩) hK hP hD hS hA hN (ci := 3) rfl rfl rfl rfl hl.1 rfl (Nat.le_of_ble_eq_true rfl) dX3_setJoined_10 (fun H locs hP hD hS => ?_)
    refine lv_if_eq (tgt := 21) hx hb dX3_setJoined_13 (by decide) (fun c4 => ?_) (fun c4 => ?_)
    · replace hf := z_ip hf c4
      refine lv_iconst (v := 0) hx hb dX3_setJoined_21 (by decide) ?_
      obtain rfl := Option.some.inj hf
      exact hret _ _ _ _ _ dX3_setJoined_22 rfl rfl hP hD hS
    · replace hf := z_im hf c4
      refine lv_iload_n hx hb dX3_setJoined_16 rfl (lv_at hl 1 rfl) ?_
      refine lv_iload_n hx hb dX3_setJoined_17 rfl (lv_at hl 2 rfl) ?_
      refine lv_icmp_ne (tgt := 23) hx hb dX3_setJoined_18 (by decide) (fun c5 => ?_) (fun c5 => ?_)
      · replace hf := z_im hf c5
        refine lv_aload_n hx hb dX3_setJoined_23 rfl (lv_at hl 0 rfl) ?_
        refine va_get (D := (dC, dI)) (ci := 3) (v := .ref (a 6)) (C := RX3) (T := TX3) (N := 14) hx hb hts (fun w hw => List.mem_cons_of_mem _ (List.mem_append_right _ hw)) hown hK hP 0 rfl rfl 6 (by decide) (hts (.fieldLink RX3 30 "OldStadium$Quarry" "joined" "[I") (List.mem_of_getElem? (i := 1) rfl)) (fun _ h9 => h9) rfl dX3_setJoined_24 ?_
        refine lv_iload_n hx hb dX3_setJoined_27 rfl (lv_at hl 1 rfl) ?_
        refine lv_iload_n hx hb dX3_setJoined_28 rfl (lv_at hl 3 rfl) ?_
        refine lv_if_eq (tgt := 45) hx hb dX3_setJoined_29 (by decide) (fun c6 => ?_) (fun c6 => ?_)
        · replace hf := z_ip hf c6
          refine lv_aload_n hx hb dX3_setJoined_45 rfl (lv_at hl 0 rfl) ?_
          refine va_get (D := (dC, dI)) (ci := 3) (v := .ref (a 6)) (C := RX3) (T := TX3) (N := 14) hx hb hts (fun w hw => List.mem_cons_of_mem _ (List.mem_append_right _ hw)) hown hK hP 0 rfl rfl 6 (by decide) (hts (.fieldLink RX3 30 "OldStadium$Quarry" "joined" "[I") (List.mem_of_getElem? (i := 1) rfl)) (fun _ h9 => h9) rfl dX3_setJoined_46 ?_
          refine lv_iload_n hx hb dX3_setJoined_49 rfl (lv_at hl 1 rfl) ?_
          have b7 := z_c1 hf
          replace hf := z_c2 hf
          refine va_iald hx hb hK hP 7 0 rfl rfl b7 dX3_setJoined_50 ?_
          refine lv_iconst (v := 1) hx hb dX3_setJoined_51 (by decide) ?_
          refine lv_iload_n hx hb dX3_setJoined_52 rfl (lv_at hl 2 rfl) ?_
          refine lv_ishl hx hb dX3_setJoined_53 ?_
          refine lv_iconst (v := (-1)) hx hb dX3_setJoined_54 (by decide) ?_
          refine lv_ixor hx hb dX3_setJoined_55 ?_
          refine lv_iand hx hb dX3_setJoined_56 ?_
          obtain ⟨n8, hn8, hf1⟩ := z_ib hf
          replace hf := hf1
          clear hf1
          refine lv_topi (fun y9 ey9 => ?_)
          obtain rfl : n8 = y9 := (Option.some.inj hn8).symm.trans ey9.symm
          refine va_iast hx hb hK hP hD hS 7 0 rfl rfl b7 dX3_setJoined_57 (fun H locs hP hD hS => ?_)
          replace hP : va_P (dC, dI) vwCl (wX3 cI cZ cJ cA h0 a x7 x8 x12 x13 f0 f1 f2 f3 f4 f5 (upd f6 (Int32.toNatClampNeg v1) n8) f9 f10 f11) H := hP
          replace hD : va_D A (wX3 cI cZ cJ cA h0 a x7 x8 x12 x13 f0 f1 f2 f3 f4 f5 (upd f6 (Int32.toNatClampNeg v1) n8) f9 f10 f11) := hD
          refine lv_aload_n hx hb dX3_setJoined_58 rfl (lv_at hl 0 rfl) ?_
          refine va_get (D := (dC, dI)) (ci := 3) (v := .ref (a 6)) (C := RX3) (T := TX3) (N := 14) hx hb hts (fun w hw => List.mem_cons_of_mem _ (List.mem_append_right _ hw)) hown hK hP 0 rfl rfl 6 (by decide) (hts (.fieldLink RX3 30 "OldStadium$Quarry" "joined" "[I") (List.mem_of_getElem? (i := 1) rfl)) (fun _ h9 => h9) rfl dX3_setJoined_59 ?_
          refine lv_iload_n hx hb dX3_setJoined_62 rfl (lv_at hl 2 rfl) ?_
          refine lv_iload_n hx hb dX3_setJoined_63 rfl (lv_at hl 3 rfl) ?_
          refine lv_if_eq (tgt := 80) hx hb dX3_setJoined_64 (by decide) (fun _ => ?_) (fun c0 => absurd c6 c0)
          refine lv_aload_n hx hb dX3_setJoined_80 rfl (lv_at hl 0 rfl) ?_
          refine va_get (D := (dC, dI)) (ci := 3) (v := .ref (a 6)) (C := RX3) (T := TX3) (N := 14) hx hb hts (fun w hw => List.mem_cons_of_mem _ (List.mem_append_right _ hw)) hown hK hP 0 rfl rfl 6 (by decide) (hts (.fieldLink RX3 30 "OldStadium$Quarry" "joined" "[I") (List.mem_of_getElem? (i := 1) rfl)) (fun _ h9 => h9) rfl dX3_setJoined_81 ?_
          refine lv_iload_n hx hb dX3_setJoined_84 rfl (lv_at hl 2 rfl) ?_
          have b9 := z_c1 hf
          replace hf := z_c2 hf
          refine va_iald hx hb hK hP 7 0 rfl rfl b9 dX3_setJoined_85 ?_
          refine lv_iconst (v := 1) hx hb dX3_setJoined_86 (by decide) ?_
          refine lv_iload_n hx hb dX3_setJoined_87 rfl (lv_at hl 1 rfl) ?_
          refine lv_ishl hx hb dX3_setJoined_88 ?_
          refine lv_iconst (v := (-1)) hx hb dX3_setJoined_89 (by decide) ?_
          refine lv_ixor hx hb dX3_setJoined_90 ?_
          refine lv_iand hx hb dX3_setJoined_91 ?_
          obtain ⟨n10, hn10, hf1⟩ := z_ib hf
          replace hf := hf1
          clear hf1
          refine lv_topi (fun y9 ey9 => ?_)
          obtain rfl : n10 = y9 := (Option.some.inj hn10).symm.trans ey9.symm
          refine va_iast hx hb hK hP hD hS 7 0 rfl rfl b9 dX3_setJoined_92 (fun H locs hP hD hS => ?_)
          replace hP : va_P (dC, dI) vwCl (wX3 cI cZ cJ cA h0 a x7 x8 x12 x13 f0 f1 f2 f3 f4 f5 (upd (upd f6 (Int32.toNatClampNeg v1) n8) (Int32.toNatClampNeg v2) n10) f9 f10 f11) H := hP
          replace hD : va_D A (wX3 cI cZ cJ cA h0 a x7 x8 x12 x13 f0 f1 f2 f3 f4 f5 (upd (upd f6 (Int32.toNatClampNeg v1) n8) (Int32.toNatClampNeg v2) n10) f9 f10 f11) := hD
          refine lv_aload_n hx hb dX3_setJoined_93 rfl (lv_at hl 0 rfl) ?_
          obtain ⟨o11, ho11, hf1⟩ := z_ib hf
          replace hf := hf1
          clear hf1
          refine z_Vv (As := []) (rest := []) (w := (wX3 cI cZ cJ cA h0 a x7 x8 x12 x13 f0 f1 f2 f3 f4 f5 (upd (upd f6 (Int32.toNatClampNeg v1) n8) (Int32.toNatClampNeg v2) n10) f9 f10 f11)) (w1 := (wX3 cI cZ cJ cA h0 a x7 x8 o11.1 o11.2 f0 f1 f2 f3 f4 f5 (upd (upd f6 (Int32.toNatClampNeg v1) n8) (Int32.toNatClampNeg v2) n10) f9 f10 f11)) ⟨hx, hb, hml, hown, hts⟩ (k_X3_forget l dC dI cI cZ cJ cA h0 a H.size N x7 x8 x12 x13 f0 f1 f2 f3 f4 f5 (upd (upd f6 (Int32.toNatClampNeg v1) n8) (Int32.toNatClampNeg v2) n10) f9 f10 f11 o11 ho11) (cwV 0 hts gX3_setJoined_X3_forget rfl rfl rfl (by decide +kernel) ⟨Nat.le_trans (Nat.le_of_ble_eq_true rfl) hRf, Nat.le_trans (Nat.le_of_ble_eq_true rfl) hRl⟩) hK hP hD hS hA hN (ci := 3) rfl rfl rfl rfl hl.1 rfl (Nat.le_of_ble_eq_true rfl) dX3_setJoined_94 (fun H locs hP hD hS => ?_)
          refine lv_iconst (v := 1) hx hb dX3_setJoined_97 (by decide) ?_
          obtain rfl := Option.some.inj hf
          exact hret _ _ _ _ _ dX3_setJoined_98 rfl rfl hP hD hS
        · replace hf := z_im hf c6
          refine lv_aload_n hx hb dX3_setJoined_32 rfl (lv_at hl 0 rfl) ?_
          refine va_get (D := (dC, dI)) (ci := 3) (v := .ref (a 6)) (C := RX3) (T := TX3) (N := 14) hx hb hts (fun w hw => List.mem_cons_of_mem _ (List.mem_append_right _ hw)) hown hK hP 0 rfl rfl 6 (by decide) (hts (.fieldLink RX3 30 "OldStadium$Quarry" "joined" "[I") (List.mem_of_getElem? (i := 1) rfl)) (fun _ h9 => h9) rfl dX3_setJoined_33 ?_
          refine lv_iload_n hx hb dX3_setJoined_36 rfl (lv_at hl 1 rfl) ?_
          have b12 := z_c1 hf
          replace hf := z_c2 hf
          refine va_iald hx hb hK hP 7 0 rfl rfl b12 dX3_setJoined_37 ?_
          refine lv_iconst (v := 1) hx hb dX3_setJoined_38 (by decide) ?_
          refine lv_iload_n hx hb dX3_setJoined_39 rfl (lv_at hl 2 rfl) ?_
          refine lv_ishl hx hb dX3_setJoined_40 ?_
          refine lv_ior hx hb dX3_setJoined_41 ?_
          refine lv_goto (tgt := 57) hx hb dX3_setJoined_42 (by decide) ?_
          obtain ⟨n13, hn13, hf1⟩ := z_ib hf
          replace hf := hf1
          clear hf1
          refine lv_topi (fun y9 ey9 => ?_)
          obtain rfl : n13 = y9 := (Option.some.inj hn13).symm.trans ey9.symm
          refine va_iast hx hb hK hP hD hS 7 0 rfl rfl b12 dX3_setJoined_57 (fun H locs hP hD hS => ?_)
          replace hP : va_P (dC, dI) vwCl (wX3 cI cZ cJ cA h0 a x7 x8 x12 x13 f0 f1 f2 f3 f4 f5 (upd f6 (Int32.toNatClampNeg v1) n13) f9 f10 f11) H := hP
          replace hD : va_D A (wX3 cI cZ cJ cA h0 a x7 x8 x12 x13 f0 f1 f2 f3 f4 f5 (upd f6 (Int32.toNatClampNeg v1) n13) f9 f10 f11) := hD
          refine lv_aload_n hx hb dX3_setJoined_58 rfl (lv_at hl 0 rfl) ?_
          refine va_get (D := (dC, dI)) (ci := 3) (v := .ref (a 6)) (C := RX3) (T := TX3) (N := 14) hx hb hts (fun w hw => List.mem_cons_of_mem _ (List.mem_append_right _ hw)) hown hK hP 0 rfl rfl 6 (by decide) (hts (.fieldLink RX3 30 "OldStadium$Quarry" "joined" "[I") (List.mem_of_getElem? (i := 1) rfl)) (fun _ h9 => h9) rfl dX3_setJoined_59 ?_
          refine lv_iload_n hx hb dX3_setJoined_62 rfl (lv_at hl 2 rfl) ?_
          refine lv_iload_n hx hb dX3_setJoined_63 rfl (lv_at hl 3 rfl) ?_
          refine lv_if_eq (tgt := 80) hx hb dX3_setJoined_64 (by decide) (fun c0 => absurd c0 c6) (fun _ => ?_)
          refine lv_aload_n hx hb dX3_setJoined_67 rfl (lv_at hl 0 rfl) ?_
          refine va_get (D := (dC, dI)) (ci := 3) (v := .ref (a 6)) (C := RX3) (T := TX3) (N := 14) hx hb hts (fun w hw => List.mem_cons_of_mem _ (List.mem_append_right _ hw)) hown hK hP 0 rfl rfl 6 (by decide) (hts (.fieldLink RX3 30 "OldStadium$Quarry" "joined" "[I") (List.mem_of_getElem? (i := 1) rfl)) (fun _ h9 => h9) rfl dX3_setJoined_68 ?_
          refine lv_iload_n hx hb dX3_setJoined_71 rfl (lv_at hl 2 rfl) ?_
          have b14 := z_c1 hf
          replace hf := z_c2 hf
          refine va_iald hx hb hK hP 7 0 rfl rfl b14 dX3_setJoined_72 ?_
          refine lv_iconst (v := 1) hx hb dX3_setJoined_73 (by decide) ?_
          refine lv_iload_n hx hb dX3_setJoined_74 rfl (lv_at hl 1 rfl) ?_
          refine lv_ishl hx hb dX3_setJoined_75 ?_
          refine lv_ior hx hb dX3_setJoined_76 ?_
          refine lv_goto (tgt := 92) hx hb dX3_setJoined_77 (by decide) ?_
          obtain ⟨n15, hn15, hf1⟩ := z_ib hf
          replace hf := hf1
          clear hf1
          refine lv_topi (fun y9 ey9 => ?_)
          obtain rfl : n15 = y9 := (Option.some.inj hn15).symm.trans ey9.symm
          refine va_iast hx hb hK hP hD hS 7 0 rfl rfl b14 dX3_setJoined_92 (fun H locs hP hD hS => ?_)
          replace hP : va_P (dC, dI) vwCl (wX3 cI cZ cJ cA h0 a x7 x8 x12 x13 f0 f1 f2 f3 f4 f5 (upd (upd f6 (Int32.toNatClampNeg v1) n13) (Int32.toNatClampNeg v2) n15) f9 f10 f11) H := hP
          replace hD : va_D A (wX3 cI cZ cJ cA h0 a x7 x8 x12 x13 f0 f1 f2 f3 f4 f5 (upd (upd f6 (Int32.toNatClampNeg v1) n13) (Int32.toNatClampNeg v2) n15) f9 f10 f11) := hD
          refine lv_aload_n hx hb dX3_setJoined_93 rfl (lv_at hl 0 rfl) ?_
          obtain ⟨o16, ho16, hf1⟩ := z_ib hf
          replace hf := hf1
          clear hf1
          refine z_Vv (As := []) (rest := []) (w := (wX3 cI cZ cJ cA h0 a x7 x8 x12 x13 f0 f1 f2 f3 f4 f5 (upd (upd f6 (Int32.toNatClampNeg v1) n13) (Int32.toNatClampNeg v2) n15) f9 f10 f11)) (w1 := (wX3 cI cZ cJ cA h0 a x7 x8 o16.1 o16.2 f0 f1 f2 f3 f4 f5 (upd (upd f6 (Int32.toNatClampNeg v1) n13) (Int32.toNatClampNeg v2) n15) f9 f10 f11)) ⟨hx, hb, hml, hown, hts⟩ (k_X3_forget l dC dI cI cZ cJ cA h0 a H.size N x7 x8 x12 x13 f0 f1 f2 f3 f4 f5 (upd (upd f6 (Int32.toNatClampNeg v1) n13) (Int32.toNatClampNeg v2) n15) f9 f10 f11 o16 ho16) (cwV 0 hts gX3_setJoined_X3_forget rfl rfl rfl (by decide +kernel) ⟨Nat.le_trans (Nat.le_of_ble_eq_true rfl) hRf, Nat.le_trans (Nat.le_of_ble_eq_true rfl) hRl⟩) hK hP hD hS hA hN (ci := 3) rfl rfl rfl rfl hl.1 rfl (Nat.le_of_ble_eq_true rfl) dX3_setJoined_94 (fun H locs hP hD hS => ?_)
          refine lv_iconst (v := 1) hx hb dX3_setJoined_97 (by decide) ?_
          obtain rfl := Option.some.inj hf
          exact hret _ _ _ _ _ dX3_setJoined_98 rfl rfl hP hD hS
      · replace hf := z_ip hf c5
        refine lv_iconst (v := 0) hx hb dX3_setJoined_21 (by decide) ?_
        obtain rfl := Option.some.inj hf
        exact hret _ _ _ _ _ dX3_setJoined_22 rfl rfl hP hD hS
set_option maxHeartbeats 4000000 in
set_option maxRecDepth 100000 in
theorem k_X3_setJoined (l : Launch) (dC : Nat → ClassId) (dI : Nat → Nat → Nat) (cI cZ cJ cA : ClassId) (h0 : Nat) (a : Nat → Nat) (sz : Nat) (N : Nat) (v1 : Int32) (v2 : Int32) (v3 : Int32) (x7 : Int32) (x8 : Int32) (x12 : Int32) (x13 : Int32) (f0 : (Nat → Int32)) (f1 : (Nat → Int32)) (f2 : (Nat → Int32)) (f3 : (Nat → Int32)) (f4 : (Nat → Int32)) (f5 : (Nat → Int32)) (f6 : (Nat → Int32)) (f9 : (Nat → Int32)) (f10 : (Nat → Int32)) (f11 : (Nat → Int64)) (o : (Int32 × Int32 × Int32 × (Nat → Int32))) (hf : q_X3_setJoined N v1 v2 v3 x7 x12 x13 f6 = some o) : Met l yX3_setJoined wsX3_setJoined ({ frames := 1, cells := 0, slots := 0, locals := 21 } : Room) (z_Pre dC dI (z_ty cI cZ cJ cA) [.ref h0, .int v1, .int v2, .int v3] sz (wX3 cI cZ cJ cA h0 a x7 x8 x12 x13 f0 f1 f2 f3 f4 f5 f6 f9 f10 f11)) (z_Pi dC dI o.1 (wX3 cI cZ cJ cA h0 a x7 x8 o.2.1 o.2.2.1 f0 f1 f2 f3 f4 f5 o.2.2.2 f9 f10 f11) sz (wX3 cI cZ cJ cA h0 a x7 x8 x12 x13 f0 f1 f2 f3 f4 f5 f6 f9 f10 f11)) 0 0 (va_A (wX3 cI cZ cJ cA h0 a x7 x8 x12 x13 f0 f1 f2 f3 f4 f5 f6 f9 f10 f11) sz) := by
  refine Met.ofW (cc := cX3_setJoined) (maxL := 4) (ret := (some .boolean)) (by decide) rfl ?_
  intro p e s m args below meth c s₁ B hml hv
  obtain ⟨rfl, hsz, hP, hK, hD0, hN⟩ := hv
  subst hsz
  have hl := lv_entry ([.ref h0, .int v1, .int v2, .int v3]) (n := 4) (Nat.le_of_ble_eq_true rfl)
  rw [lg_entry_eq]
  refine b_X3_setJoined N ⟨⟨B.exec, B.bytes, hml, findClass_of_methodNamed B.named, atoms_spec (ws := wsX3_setJoined) B.pre⟩, Nat.le_refl _, Nat.le_refl _, fun q h => Or.inr h, hN, hK⟩ hf hP hD0.self va_S.rf hl (fun pc H locs ls r hd hr hn hP hD hS => ?_)
  subst hr
  exact W.zret B.exec B.bytes B.returns hn (fun t ht hW => ⟨⟨_, (), rfl, rfl, by rw [ht]; exact hP, hD⟩, hS.F ht⟩) hS.2.2 hd
def q_X3_setSpan (N : Nat) (v1 : Int32) (x8 : Int32) (x12 : Int32) (x13 : Int32) : Option (Int32 × Int32 × Int32 × Int32) :=
  (if v1 < 0 then
   (some ((-1), x8, x12, x13))
  else
   (if v1 ≤ 40 then
    (Option.bind (q_X3_forget N x12 x13) (fun o3 =>
    (some (x8, v1, o3.1, o3.2))))
   else
    (some ((-1), x8, x12, x13))))
set_option maxHeartbeats 4000000 in
set_option maxRecDepth 100000 in
theorem b_X3_setSpan {p : Program} {l : Launch} {e : Env} {R : Room} {s : State} {m : MethodId} {args : Array Value} {below : List Frame} {meth : Method} {c : Code} {Q : State → Prop} {A : Nat → Prop} {dC : Nat → ClassId} {dI : Nat → Nat → Nat} {cI cZ cJ cA : ClassId} {h0 : Nat} {a : Nat → Nat} (N : Nat) (C0 : z_Cx p s m args c cX3_setSpan 3 wsX3_setSpan RX3 R 1 20 A dC dI (z_ty cI cZ cJ cA)) {v1 : Int32} {x7 : Int32} {x8 : Int32} {x12 : Int32} {x13 : Int32} {f0 : (Nat → Int32)} {f1 : (Nat → Int32)} {f2 : (Nat → Int32)} {f3 : (Nat → Int32)} {f4 : (Nat → Int32)} {f5 : (Nat → Int32)} {f6 : (Nat → Int32)} {f9 : (Nat → Int32)} {f10 : (Nat → Int32)} {f11 : (Nat → Int64)} {o : (Int32 × Int32 × Int32 × Int32)} {H : Heap} {locs : List Loc} {ls : Array Slot} (hf : q_X3_setSpan N v1 x8 x12 x13 = some o) (hP : va_P (dC, dI) vwCl (wX3 cI cZ cJ cA h0 a x7 x8 x12 x13 f0 f1 f2 f3 f4 f5 f6 f9 f10 f11) H) (hD : va_D A (wX3 cI cZ cJ cA h0 a x7 x8 x12 x13 f0 f1 f2 f3 f4 f5 f6 f9 f10 f11)) (hS : va_S A s.heap H locs) (hl : lv_has ls 3 [(0, .ref h0), (1, .int v1)])
    (hret : ∀ (pc : Nat) (H : Heap) (locs : List Loc) (ls : Array Slot) (r : Int32), decode cX3_setSpan pc = .ok (.ireturn, 1) → r = o.1 → va_P (dC, dI) vwCl (wX3 cI cZ cJ cA h0 a x7 o.2.1 o.2.2.1 o.2.2.2 f0 f1 f2 f3 f4 f5 f6 f9 f10 f11) H → va_D A (wX3 cI cZ cJ cA h0 a x7 o.2.1 o.2.2.1 o.2.2.2 f0 f1 f2 f3 f4 f5 f6 f9 f10 f11) → va_S A s.heap H locs → W p l e R s m args below meth c H locs 0 0 Q (F0 m pc ls [.int r])) :
    W p l e R s m args below meth c H locs 0 0 Q (F0 m 0 ls []) := by
  obtain ⟨⟨hx, hb, hml, hown, hts⟩, hRf, hRl, hA, hN, hK⟩ := C0
  unfold q_X3_setSpan at hf
  refine lv_iload_n hx hb dX3_setSpan_0 rfl (lv_at hl 1 rfl) ?_
  refine lv_if_lt (tgt := 10) hx hb dX3_setSpan_1 (by decide) (fun c1 => ?_) (fun c1 => ?_)
  · replace hf := z_ip hf c1
    refine lv_iconst (v := (-1)) hx hb dX3_setSpan_10 (by decide) ?_
    obtain rfl := Option.some.inj hf
    exact hret _ _ _ _ _ dX3_setSpan_11 rfl hP hD hS
  · replace hf := z_im hf c1
    refine lv_iload_n hx hb dX3_setSpan_4 rfl (lv_at hl 1 rfl) ?_
    refine lv_bipush (v := 40) hx hb dX3_setSpan_5 (by decide) ?_
    refine lv_icmp_le (tgt := 12) hx hb dX3_setSpan_7 (by decide) (fun c2 => ?_) (fun c2 => ?_)
    · replace hf := z_ip hf c2
      refine lv_aload_n hx hb dX3_setSpan_12 rfl (lv_at hl 0 rfl) ?_
      refine va_get (D := (dC, dI)) (ci := 3) (v := .int x8) (C := RX3) (T := TX3) (N := 14) hx hb hts (fun w hw => List.mem_cons_of_mem _ (List.mem_append_right _ hw)) hown hK hP 0 rfl rfl 8 (by decide) (hts (.fieldLink RX3 37 "OldStadium$Quarry" "span" "I") (List.mem_of_getElem? (i := 1) rfl)) (fun _ h9 => h9) rfl dX3_setSpan_13 ?_
      refine lv_istore_n (lv' := [(2, .int x8), (0, .ref h0), (1, .int v1)]) hx hb dX3_setSpan_16 rfl hl (by decide) rfl (fun ls hl => ?_)
      refine lv_aload_n hx hb dX3_setSpan_17 rfl (lv_at hl 1 rfl) ?_
      refine lv_iload_n hx hb dX3_setSpan_18 rfl (lv_at hl 2 rfl) ?_
      refine va_put (D := (dC, dI)) (ci := 3) (v := .int v1) (ty := .int) (C := RX3) (T := TX3) (N := 14) hx hb hts (fun w hw => List.mem_cons_of_mem _ (List.mem_append_right _ hw)) tyX3 tyX3_ok nmX3 hown hK hP hD hS 0 rfl rfl 8 (by decide) (hts (.fieldLink RX3 37 "OldStadium$Quarry" "span" "I") (List.mem_of_getElem? (i := 1) rfl)) (fun _ h9 => h9) rfl (by decide +kernel) rfl rfl (Nat.le_of_ble_eq_true rfl) dX3_setSpan_19 (fun H locs hP hD hS => ?_)
      replace hP : va_P (dC, dI) vwCl (wX3 cI cZ cJ cA h0 a x7 v1 x12 x13 f0 f1 f2 f3 f4 f5 f6 f9 f10 f11) H := hP
      replace hD : va_D A (wX3 cI cZ cJ cA h0 a x7 v1 x12 x13 f0 f1 f2 f3 f4 f5 f6 f9 f10 f11) := hD
      refine lv_aload_n hx hb dX3_setSpan_22 rfl (lv_at hl 1 rfl) ?_
      obtain ⟨o3, ho3, hf1⟩ := z_ib hf
      replace hf := hf1
      clear hf1
      refine z_Vv (As := []) (rest := []) (w := (wX3 cI cZ cJ cA h0 a x7 v1 x12 x13 f0 f1 f2 f3 f4 f5 f6 f9 f10 f11)) (w1 := (wX3 cI cZ cJ cA h0 a x7 v1 o3.1 o3.2 f0 f1 f2 f3 f4 f5 f6 f9 f10 f11)) ⟨hx, hb, hml, hown, hts⟩ (k_X3_forget l dC dI cI cZ cJ cA h0 a H.size N x7 v1 x12 x13 f0 f1 f2 f3 f4 f5 f6 f9 f10 f11 o3 ho3) (cwV 0 hts gX3_setSpan_X3_forget rfl rfl rfl (by decide +kernel) ⟨Nat.le_trans (Nat.le_of_ble_eq_true rfl) hRf, Nat.le_trans (Nat.le_of_ble_eq_true rfl) hRl⟩) hK hP hD hS hA hN (ci := 3) rfl rfl rfl rfl hl.1 rfl (Nat.le_of_ble_eq_true rfl) dX3_setSpan_23 (fun H locs hP hD hS => ?_)
      refine lv_iload_n hx hb dX3_setSpan_26 rfl (lv_at hl 0 rfl) ?_
      obtain rfl := Option.some.inj hf
      exact hret _ _ _ _ _ dX3_setSpan_27 rfl hP hD hS
    · replace hf := z_im hf c2
      refine lv_iconst (v := (-1)) hx hb dX3_setSpan_10 (by decide) ?_
      obtain rfl := Option.some.inj hf
      exact hret _ _ _ _ _ dX3_setSpan_11 rfl hP hD hS
set_option maxHeartbeats 4000000 in
set_option maxRecDepth 100000 in
theorem k_X3_setSpan (l : Launch) (dC : Nat → ClassId) (dI : Nat → Nat → Nat) (cI cZ cJ cA : ClassId) (h0 : Nat) (a : Nat → Nat) (sz : Nat) (N : Nat) (v1 : Int32) (x7 : Int32) (x8 : Int32) (x12 : Int32) (x13 : Int32) (f0 : (Nat → Int32)) (f1 : (Nat → Int32)) (f2 : (Nat → Int32)) (f3 : (Nat → Int32)) (f4 : (Nat → Int32)) (f5 : (Nat → Int32)) (f6 : (Nat → Int32)) (f9 : (Nat → Int32)) (f10 : (Nat → Int32)) (f11 : (Nat → Int64)) (o : (Int32 × Int32 × Int32 × Int32)) (hf : q_X3_setSpan N v1 x8 x12 x13 = some o) : Met l yX3_setSpan wsX3_setSpan ({ frames := 1, cells := 0, slots := 0, locals := 20 } : Room) (z_Pre dC dI (z_ty cI cZ cJ cA) [.ref h0, .int v1] sz (wX3 cI cZ cJ cA h0 a x7 x8 x12 x13 f0 f1 f2 f3 f4 f5 f6 f9 f10 f11)) (z_Pi dC dI o.1 (wX3 cI cZ cJ cA h0 a x7 o.2.1 o.2.2.1 o.2.2.2 f0 f1 f2 f3 f4 f5 f6 f9 f10 f11) sz (wX3 cI cZ cJ cA h0 a x7 x8 x12 x13 f0 f1 f2 f3 f4 f5 f6 f9 f10 f11)) 0 0 (va_A (wX3 cI cZ cJ cA h0 a x7 x8 x12 x13 f0 f1 f2 f3 f4 f5 f6 f9 f10 f11) sz) := by
  refine Met.ofW (cc := cX3_setSpan) (maxL := 3) (ret := (some .int)) (by decide) rfl ?_
  intro p e s m args below meth c s₁ B hml hv
  obtain ⟨rfl, hsz, hP, hK, hD0, hN⟩ := hv
  subst hsz
  have hl := lv_entry ([.ref h0, .int v1]) (n := 3) (Nat.le_of_ble_eq_true rfl)
  rw [lg_entry_eq]
  refine b_X3_setSpan N ⟨⟨B.exec, B.bytes, hml, findClass_of_methodNamed B.named, atoms_spec (ws := wsX3_setSpan) B.pre⟩, Nat.le_refl _, Nat.le_refl _, fun q h => Or.inr h, hN, hK⟩ hf hP hD0.self va_S.rf hl (fun pc H locs ls r hd hr hP hD hS => ?_)
  subst hr
  exact W.iret B.exec B.bytes B.returns (fun t ht hW => ⟨⟨_, (), rfl, rfl, by rw [ht]; exact hP, hD⟩, hS.F ht⟩) hS.2.2 hd
def q_X3_withoutBit (N : Nat) (v0 : Int32) (v1 : Int32) : Option Int32 :=
  (some ((v0 &&& (((1 : Int32) <<< (v1 &&& 31)) - 1)) ||| ((z_ushr v0 1) &&& ((((1 : Int32) <<< (v1 &&& 31)) - 1) ^^^ (-1)))))
set_option maxHeartbeats 4000000 in
set_option maxRecDepth 100000 in
theorem b_X3_withoutBit {p : Program} {l : Launch} {e : Env} {R : Room} {s : State} {m : MethodId} {args : Array Value} {below : List Frame} {meth : Method} {c : Code} {Q : State → Prop} {A : Nat → Prop} {dC : Nat → ClassId} {dI : Nat → Nat → Nat} {cI cZ cJ cA : ClassId} (N : Nat) (C0 : z_Cx p s m args c cX3_withoutBit 3 wsX3_withoutBit RX3 R 0 0 A dC dI (z_ty cI cZ cJ cA)) {v0 : Int32} {v1 : Int32} {o : Int32} {H : Heap} {locs : List Loc} {ls : Array Slot} (hf : q_X3_withoutBit N v0 v1 = some o) (hP : va_P (dC, dI) vwCl ([] : va_W) H) (hD : va_D A ([] : va_W)) (hS : va_S A s.heap H locs) (hl : lv_has ls 3 [(0, .int v0), (1, .int v1)])
    (hret : ∀ (pc : Nat) (H : Heap) (locs : List Loc) (ls : Array Slot) (r : Int32), decode cX3_withoutBit pc = .ok (.ireturn, 1) → r = o → va_P (dC, dI) vwCl ([] : va_W) H → va_D A ([] : va_W) → va_S A s.heap H locs → W p l e R s m args below meth c H locs 0 0 Q (F0 m pc ls [.int r])) :
    W p l e R s m args below meth c H locs 0 0 Q (F0 m 0 ls []) := by
  obtain ⟨⟨hx, hb, hml, hown, hts⟩, hRf, hRl, hA, hN, hK⟩ := C0
  unfold q_X3_withoutBit at hf
  refine lv_iconst (v := 1) hx hb dX3_withoutBit_0 (by decide) ?_
  refine lv_iload_n hx hb dX3_withoutBit_1 rfl (lv_at hl 1 rfl) ?_
  refine lv_ishl hx hb dX3_withoutBit_2 ?_
  refine lv_iconst (v := 1) hx hb dX3_withoutBit_3 (by decide) ?_
  refine lv_isub hx hb dX3_withoutBit_4 ?_
  refine lv_istore_n (lv' := [(2, .int (((1 : Int32) <<< (v1 &&& 31)) - 1)), (0, .int v0), (1, .int v1)]) hx hb dX3_withoutBit_5 rfl hl (by decide) rfl (fun ls hl => ?_)
  refine lv_iload_n hx hb dX3_withoutBit_6 rfl (lv_at hl 1 rfl) ?_
  refine lv_iload_n hx hb dX3_withoutBit_7 rfl (lv_at hl 0 rfl) ?_
  refine lv_iand hx hb dX3_withoutBit_8 ?_
  refine lv_iload_n hx hb dX3_withoutBit_9 rfl (lv_at hl 1 rfl) ?_
  refine lv_iconst (v := 1) hx hb dX3_withoutBit_10 (by decide) ?_
  refine z_iushr hx hb dX3_withoutBit_11 ?_
  refine lv_iload_n hx hb dX3_withoutBit_12 rfl (lv_at hl 0 rfl) ?_
  refine lv_iconst (v := (-1)) hx hb dX3_withoutBit_13 (by decide) ?_
  refine lv_ixor hx hb dX3_withoutBit_14 ?_
  refine lv_iand hx hb dX3_withoutBit_15 ?_
  refine lv_ior hx hb dX3_withoutBit_16 ?_
  obtain rfl := Option.some.inj hf
  exact hret _ _ _ _ _ dX3_withoutBit_17 rfl hP hD hS
set_option maxHeartbeats 4000000 in
set_option maxRecDepth 100000 in
theorem k_X3_withoutBit (l : Launch) (dC : Nat → ClassId) (dI : Nat → Nat → Nat) (cI cZ cJ cA : ClassId) (sz : Nat) (N : Nat) (v0 : Int32) (v1 : Int32) (o : Int32) (hf : q_X3_withoutBit N v0 v1 = some o) : Met l yX3_withoutBit wsX3_withoutBit ({ frames := 0, cells := 0, slots := 0, locals := 0 } : Room) (z_Pre dC dI (z_ty cI cZ cJ cA) [.int v0, .int v1] sz ([] : va_W)) (z_Pi dC dI o ([] : va_W) sz ([] : va_W)) 0 0 (va_A ([] : va_W) sz) := by
  refine Met.ofW (cc := cX3_withoutBit) (maxL := 3) (ret := (some .int)) (by decide) rfl ?_
  intro p e s m args below meth c s₁ B hml hv
  obtain ⟨rfl, hsz, hP, hK, hD0, hN⟩ := hv
  subst hsz
  have hl := lv_entry ([.int v0, .int v1]) (n := 3) (Nat.le_of_ble_eq_true rfl)
  rw [lg_entry_eq]
  refine b_X3_withoutBit N ⟨⟨B.exec, B.bytes, hml, findClass_of_methodNamed B.named, atoms_spec (ws := wsX3_withoutBit) B.pre⟩, Nat.le_refl _, Nat.le_refl _, fun q h => Or.inr h, hN, hK⟩ hf hP hD0.self va_S.rf hl (fun pc H locs ls r hd hr hP hD hS => ?_)
  subst hr
  exact W.iret B.exec B.bytes B.returns (fun t ht hW => ⟨⟨_, (), rfl, rfl, by rw [ht]; exact hP, hD⟩, hS.F ht⟩) hS.2.2 hd
def q_X3_breakUp_L12 (N : Nat) (x7 : Int32) : Nat → Int32 → (Nat → Int32) → (Nat → Int32) → (Nat → Int32) → (Nat → Int32) → (Nat → Int32) → (Nat → Int32) → (Nat → Int32) → Option ((Nat → Int32) × (Nat → Int32) × (Nat → Int32) × (Nat → Int32) × (Nat → Int32) × (Nat → Int32) × (Nat → Int32))
  | 0, _, _, _, _, _, _, _, _ => none
  | n + 1, v2, f0, f1, f2, f3, f4, f5, f6 =>
    (if x7 ≤ (v2 + 1) then
     (some (f0, f1, f2, f3, f4, f5, f6))
    else
     (if z_in (v2 + 1) 6 then
     (if z_in v2 6 then
     (q_X3_breakUp_L12 N x7 n (v2 + 1) (upd f0 (Int32.toNatClampNeg v2) (f0 (Int32.toNatClampNeg (v2 + 1)))) (upd f1 (Int32.toNatClampNeg v2) (f1 (Int32.toNatClampNeg (v2 + 1)))) (upd f2 (Int32.toNatClampNeg v2) (f2 (Int32.toNatClampNeg (v2 + 1)))) (upd f3 (Int32.toNatClampNeg v2) (f3 (Int32.toNatClampNeg (v2 + 1)))) (upd f4 (Int32.toNatClampNeg v2) (f4 (Int32.toNatClampNeg (v2 + 1)))) (upd f5 (Int32.toNatClampNeg v2) (f5 (Int32.toNatClampNeg (v2 + 1)))) (upd f6 (Int32.toNatClampNeg v2) (f6 (Int32.toNatClampNeg (v2 + 1)))))
     else none)
     else none))
set_option maxHeartbeats 4000000 in
set_option maxRecDepth 100000 in
theorem b_X3_breakUp_L12 {p : Program} {l : Launch} {e : Env} {R : Room} {s : State} {m : MethodId} {args : Array Value} {below : List Frame} {meth : Method} {c : Code} {Q : State → Prop} {A : Nat → Prop} {dC : Nat → ClassId} {dI : Nat → Nat → Nat} {cI cZ cJ cA : ClassId} {h0 : Nat} {a : Nat → Nat} (N : Nat) (C0 : z_Cx p s m args c cX3_breakUp 3 wsX3_breakUp RX3 R 1 22 A dC dI (z_ty cI cZ cJ cA)) : ∀ (n : Nat) {v1 : Int32} {v2 : Int32} {x7 : Int32} {x8 : Int32} {x12 : Int32} {x13 : Int32} {f0 : (Nat → Int32)} {f1 : (Nat → Int32)} {f2 : (Nat → Int32)} {f3 : (Nat → Int32)} {f4 : (Nat → Int32)} {f5 : (Nat → Int32)} {f6 : (Nat → Int32)} {f9 : (Nat → Int32)} {f10 : (Nat → Int32)} {f11 : (Nat → Int64)} {o : ((Nat → Int32) × (Nat → Int32) × (Nat → Int32) × (Nat → Int32) × (Nat → Int32) × (Nat → Int32) × (Nat → Int32))} {H : Heap} {locs : List Loc} {ls : Array Slot}, q_X3_breakUp_L12 N x7 n v2 f0 f1 f2 f3 f4 f5 f6 = some o → va_P (dC, dI) vwCl (wX3 cI cZ cJ cA h0 a x7 x8 x12 x13 f0 f1 f2 f3 f4 f5 f6 f9 f10 f11) H → va_D A (wX3 cI cZ cJ cA h0 a x7 x8 x12 x13 f0 f1 f2 f3 f4 f5 f6 f9 f10 f11) → va_S A s.heap H locs → lv_has ls 3 [(0, .ref h0), (1, .int v1), (2, .int v2)] →
    (∀ (H : Heap) (locs : List Loc) (ls : Array Slot), va_P (dC, dI) vwCl (wX3 cI cZ cJ cA h0 a x7 x8 x12 x13 o.1 o.2.1 o.2.2.1 o.2.2.2.1 o.2.2.2.2.1 o.2.2.2.2.2.1 o.2.2.2.2.2.2 f9 f10 f11) H → va_D A (wX3 cI cZ cJ cA h0 a x7 x8 x12 x13 o.1 o.2.1 o.2.2.1 o.2.2.2.1 o.2.2.2.2.1 o.2.2.2.2.2.1 o.2.2.2.2.2.2 f9 f10 f11) → va_S A s.heap H locs → lv_has ls 3 [(0, .ref h0), (1, .int v1)] → W p l e R s m args below meth c H locs 0 0 Q (F0 m 126 ls [])) →
    W p l e R s m args below meth c H locs 0 0 Q (F0 m 12 ls []) := by
  obtain ⟨⟨hx, hb, hml, hown, hts⟩, hRf, hRl, hA, hN, hK⟩ := C0
  intro n
  induction n with
  | zero =>
    intro v1 v2 x7 x8 x12 x13 f0 f1 f2 f3 f4 f5 f6 f9 f10 f11 o H locs ls hf
    cases hf
  | succ n ih =>
    intro v1 v2 x7 x8 x12 x13 f0 f1 f2 f3 f4 f5 f6 f9 f10 f11 o H locs ls hf hP hD hS hl hexit
    rw [q_X3_breakUp_L12] at hf
    refine lv_iload_n hx hb dX3_breakUp_12 rfl (lv_at hl 2 rfl) ?_
    refine lv_iconst (v := 1) hx hb dX3_breakUp_13 (by decide) ?_
    refine lv_iadd hx hb dX3_breakUp_14 ?_
    refine lv_aload_n hx hb dX3_breakUp_15 rfl (lv_at hl 0 rfl) ?_
    refine va_get (D := (dC, dI)) (ci := 3) (v := .int x7) (C := RX3) (T := TX3) (N := 14) hx hb hts (fun w hw => List.mem_cons_of_mem _ (List.mem_append_right _ hw)) hown hK hP 0 rfl rfl 7 (by decide) (hts (.fieldLink RX3 33 "OldStadium$Quarry" "stones" "I") (List.mem_of_getElem? (i := 1) rfl)) (fun _ h9 => h9) rfl dX3_breakUp_16 ?_
    refine lv_icmp_ge (tgt := 126) hx hb dX3_breakUp_19 (by decide) (fun c1 => ?_) (fun c1 => ?_)
    · replace hf := z_ip hf c1
      obtain rfl := Option.some.inj hf
      exact hexit _ _ _ hP hD hS (lv_sub hl [0, 1] rfl)
    · replace hf := z_im hf c1
      refine lv_aload_n hx hb dX3_breakUp_22 rfl (lv_at hl 0 rfl) ?_
      refine va_get (D := (dC, dI)) (ci := 3) (v := .ref (a 0)) (C := RX3) (T := TX3) (N := 14) hx hb hts (fun w hw => List.mem_cons_of_mem _ (List.mem_append_right _ hw)) hown hK hP 0 rfl rfl 0 (by decide) (hts (.fieldLink RX3 11 "OldStadium$Quarry" "event" "[I") (List.mem_of_getElem? (i := 2) rfl)) (fun _ h9 => h9) rfl dX3_breakUp_23 ?_
      refine lv_iload_n hx hb dX3_breakUp_26 rfl (lv_at hl 2 rfl) ?_
      refine lv_aload_n hx hb dX3_breakUp_27 rfl (lv_at hl 0 rfl) ?_
      refine va_get (D := (dC, dI)) (ci := 3) (v := .ref (a 0)) (C := RX3) (T := TX3) (N := 14) hx hb hts (fun w hw => List.mem_cons_of_mem _ (List.mem_append_right _ hw)) hown hK hP 0 rfl rfl 0 (by decide) (hts (.fieldLink RX3 11 "OldStadium$Quarry" "event" "[I") (List.mem_of_getElem? (i := 2) rfl)) (fun _ h9 => h9) rfl dX3_breakUp_28 ?_
      refine lv_iload_n hx hb dX3_breakUp_31 rfl (lv_at hl 2 rfl) ?_
      refine lv_iconst (v := 1) hx hb dX3_breakUp_32 (by decide) ?_
      refine lv_iadd hx hb dX3_breakUp_33 ?_
      have b2 := z_c1 hf
      replace hf := z_c2 hf
      refine va_iald hx hb hK hP 1 0 rfl rfl b2 dX3_breakUp_34 ?_
      have b3 := z_c1 hf
      replace hf := z_c2 hf
      refine va_iast hx hb hK hP hD hS 1 0 rfl rfl b3 dX3_breakUp_35 (fun H locs hP hD hS => ?_)
      replace hP : va_P (dC, dI) vwCl (wX3 cI cZ cJ cA h0 a x7 x8 x12 x13 (upd f0 (Int32.toNatClampNeg v2) (f0 (Int32.toNatClampNeg (v2 + 1)))) f1 f2 f3 f4 f5 f6 f9 f10 f11) H := hP
      replace hD : va_D A (wX3 cI cZ cJ cA h0 a x7 x8 x12 x13 (upd f0 (Int32.toNatClampNeg v2) (f0 (Int32.toNatClampNeg (v2 + 1)))) f1 f2 f3 f4 f5 f6 f9 f10 f11) := hD
      refine lv_aload_n hx hb dX3_breakUp_36 rfl (lv_at hl 0 rfl) ?_
      refine va_get (D := (dC, dI)) (ci := 3) (v := .ref (a 1)) (C := RX3) (T := TX3) (N := 14) hx hb hts (fun w hw => List.mem_cons_of_mem _ (List.mem_append_right _ hw)) hown hK hP 0 rfl rfl 1 (by decide) (hts (.fieldLink RX3 15 "OldStadium$Quarry" "from" "[I") (List.mem_of_getElem? (i := 3) rfl)) (fun _ h9 => h9) rfl dX3_breakUp_37 ?_
      refine lv_iload_n hx hb dX3_breakUp_40 rfl (lv_at hl 2 rfl) ?_
      refine lv_aload_n hx hb dX3_breakUp_41 rfl (lv_at hl 0 rfl) ?_
      refine va_get (D := (dC, dI)) (ci := 3) (v := .ref (a 1)) (C := RX3) (T := TX3) (N := 14) hx hb hts (fun w hw => List.mem_cons_of_mem _ (List.mem_append_right _ hw)) hown hK hP 0 rfl rfl 1 (by decide) (hts (.fieldLink RX3 15 "OldStadium$Quarry" "from" "[I") (List.mem_of_getElem? (i := 3) rfl)) (fun _ h9 => h9) rfl dX3_breakUp_42 ?_
      refine lv_iload_n hx hb dX3_breakUp_45 rfl (lv_at hl 2 rfl) ?_
      refine lv_iconst (v := 1) hx hb dX3_breakUp_46 (by decide) ?_
      refine lv_iadd hx hb dX3_breakUp_47 ?_
      refine va_iald hx hb hK hP 2 0 rfl rfl b2 dX3_breakUp_48 ?_
      refine va_iast hx hb hK hP hD hS 2 0 rfl rfl b3 dX3_breakUp_49 (fun H locs hP hD hS => ?_)
      replace hP : va_P (dC, dI) vwCl (wX3 cI cZ cJ cA h0 a x7 x8 x12 x13 (upd f0 (Int32.toNatClampNeg v2) (f0 (Int32.toNatClampNeg (v2 + 1)))) (upd f1 (Int32.toNatClampNeg v2) (f1 (Int32.toNatClampNeg (v2 + 1)))) f2 f3 f4 f5 f6 f9 f10 f11) H := hP
      replace hD : va_D A (wX3 cI cZ cJ cA h0 a x7 x8 x12 x13 (upd f0 (Int32.toNatClampNeg v2) (f0 (Int32.toNatClampNeg (v2 + 1)))) (upd f1 (Int32.toNatClampNeg v2) (f1 (Int32.toNatClampNeg (v2 + 1)))) f2 f3 f4 f5 f6 f9 f10 f11) := hD
      refine lv_aload_n hx hb dX3_breakUp_50 rfl (lv_at hl 0 rfl) ?_
      refine va_get (D := (dC, dI)) (ci := 3) (v := .ref (a 2)) (C := RX3) (T := TX3) (N := 14) hx hb hts (fun w hw => List.mem_cons_of_mem _ (List.mem_append_right _ hw)) hown hK hP 0 rfl rfl 2 (by decide) (hts (.fieldLink RX3 18 "OldStadium$Quarry" "to" "[I") (List.mem_of_getElem? (i := 4) rfl)) (fun _ h9 => h9) rfl dX3_breakUp_51 ?_
      refine lv_iload_n hx hb dX3_breakUp_54 rfl (lv_at hl 2 rfl) ?_
      refine lv_aload_n hx hb dX3_breakUp_55 rfl (lv_at hl 0 rfl) ?_
      refine va_get (D := (dC, dI)) (ci := 3) (v := .ref (a 2)) (C := RX3) (T := TX3) (N := 14) hx hb hts (fun w hw => List.mem_cons_of_mem _ (List.mem_append_right _ hw)) hown hK hP 0 rfl rfl 2 (by decide) (hts (.fieldLink RX3 18 "OldStadium$Quarry" "to" "[I") (List.mem_of_getElem? (i := 4) rfl)) (fun _ h9 => h9) rfl dX3_breakUp_56 ?_
      refine lv_iload_n hx hb dX3_breakUp_59 rfl (lv_at hl 2 rfl) ?_
      refine lv_iconst (v := 1) hx hb dX3_breakUp_60 (by decide) ?_
      refine lv_iadd hx hb dX3_breakUp_61 ?_
      refine va_iald hx hb hK hP 3 0 rfl rfl b2 dX3_breakUp_62 ?_
      refine va_iast hx hb hK hP hD hS 3 0 rfl rfl b3 dX3_breakUp_63 (fun H locs hP hD hS => ?_)
      replace hP : va_P (dC, dI) vwCl (wX3 cI cZ cJ cA h0 a x7 x8 x12 x13 (upd f0 (Int32.toNatClampNeg v2) (f0 (Int32.toNatClampNeg (v2 + 1)))) (upd f1 (Int32.toNatClampNeg v2) (f1 (Int32.toNatClampNeg (v2 + 1)))) (upd f2 (Int32.toNatClampNeg v2) (f2 (Int32.toNatClampNeg (v2 + 1)))) f3 f4 f5 f6 f9 f10 f11) H := hP
      replace hD : va_D A (wX3 cI cZ cJ cA h0 a x7 x8 x12 x13 (upd f0 (Int32.toNatClampNeg v2) (f0 (Int32.toNatClampNeg (v2 + 1)))) (upd f1 (Int32.toNatClampNeg v2) (f1 (Int32.toNatClampNeg (v2 + 1)))) (upd f2 (Int32.toNatClampNeg v2) (f2 (Int32.toNatClampNeg (v2 + 1)))) f3 f4 f5 f6 f9 f10 f11) := hD
      refine lv_aload_n hx hb dX3_breakUp_64 rfl (lv_at hl 0 rfl) ?_
      refine va_get (D := (dC, dI)) (ci := 3) (v := .ref (a 3)) (C := RX3) (T := TX3) (N := 14) hx hb hts (fun w hw => List.mem_cons_of_mem _ (List.mem_append_right _ hw)) hown hK hP 0 rfl rfl 3 (by decide) (hts (.fieldLink RX3 21 "OldStadium$Quarry" "firstLetters" "[I") (List.mem_of_getElem? (i := 5) rfl)) (fun _ h9 => h9) rfl dX3_breakUp_65 ?_
      refine lv_iload_n hx hb dX3_breakUp_68 rfl (lv_at hl 2 rfl) ?_
      refine lv_aload_n hx hb dX3_breakUp_69 rfl (lv_at hl 0 rfl) ?_
      refine va_get (D := (dC, dI)) (ci := 3) (v := .ref (a 3)) (C := RX3) (T := TX3) (N := 14) hx hb hts (fun w hw => List.mem_cons_of_mem _ (List.mem_append_right _ hw)) hown hK hP 0 rfl rfl 3 (by decide) (hts (.fieldLink RX3 21 "OldStadium$Quarry" "firstLetters" "[I") (List.mem_of_getElem? (i := 5) rfl)) (fun _ h9 => h9) rfl dX3_breakUp_70 ?_
      refine lv_iload_n hx hb dX3_breakUp_73 rfl (lv_at hl 2 rfl) ?_
      refine lv_iconst (v := 1) hx hb dX3_breakUp_74 (by decide) ?_
      refine lv_iadd hx hb dX3_breakUp_75 ?_
      refine va_iald hx hb hK hP 4 0 rfl rfl b2 dX3_breakUp_76 ?_
      refine va_iast hx hb hK hP hD hS 4 0 rfl rfl b3 dX3_breakUp_77 (fun H locs hP hD hS => ?_)
      replace hP : va_P (dC, dI) vwCl (wX3 cI cZ cJ cA h0 a x7 x8 x12 x13 (upd f0 (Int32.toNatClampNeg v2) (f0 (Int32.toNatClampNeg (v2 + 1)))) (upd f1 (Int32.toNatClampNeg v2) (f1 (Int32.toNatClampNeg (v2 + 1)))) (upd f2 (Int32.toNatClampNeg v2) (f2 (Int32.toNatClampNeg (v2 + 1)))) (upd f3 (Int32.toNatClampNeg v2) (f3 (Int32.toNatClampNeg (v2 + 1)))) f4 f5 f6 f9 f10 f11) H := hP
      replace hD : va_D A (wX3 cI cZ cJ cA h0 a x7 x8 x12 x13 (upd f0 (Int32.toNatClampNeg v2) (f0 (Int32.toNatClampNeg (v2 + 1)))) (upd f1 (Int32.toNatClampNeg v2) (f1 (Int32.toNatClampNeg (v2 + 1)))) (upd f2 (Int32.toNatClampNeg v2) (f2 (Int32.toNatClampNeg (v2 + 1)))) (upd f3 (Int32.toNatClampNeg v2) (f3 (Int32.toNatClampNeg (v2 + 1)))) f4 f5 f6 f9 f10 f11) := hD
      refine lv_aload_n hx hb dX3_breakUp_78 rfl (lv_at hl 0 rfl) ?_
      refine va_get (D := (dC, dI)) (ci := 3) (v := .ref (a 4)) (C := RX3) (T := TX3) (N := 14) hx hb hts (fun w hw => List.mem_cons_of_mem _ (List.mem_append_right _ hw)) hown hK hP 0 rfl rfl 4 (by decide) (hts (.fieldLink RX3 24 "OldStadium$Quarry" "lastLetters" "[I") (List.mem_of_getElem? (i := 6) rfl)) (fun _ h9 => h9) rfl dX3_breakUp_79 ?_
      refine lv_iload_n hx hb dX3_breakUp_82 rfl (lv_at hl 2 rfl) ?_
      refine lv_aload_n hx hb dX3_breakUp_83 rfl (lv_at hl 0 rfl) ?_
      refine va_get (D := (dC, dI)) (ci := 3) (v := .ref (a 4)) (C := RX3) (T := TX3) (N := 14) hx hb hts (fun w hw => List.mem_cons_of_mem _ (List.mem_append_right _ hw)) hown hK hP 0 rfl rfl 4 (by decide) (hts (.fieldLink RX3 24 "OldStadium$Quarry" "lastLetters" "[I") (List.mem_of_getElem? (i := 6) rfl)) (fun _ h9 => h9) rfl dX3_breakUp_84 ?_
      refine lv_iload_n hx hb dX3_breakUp_87 rfl (lv_at hl 2 rfl) ?_
      refine lv_iconst (v := 1) hx hb dX3_breakUp_88 (by decide) ?_
      refine lv_iadd hx hb dX3_breakUp_89 ?_
      refine va_iald hx hb hK hP 5 0 rfl rfl b2 dX3_breakUp_90 ?_
      refine va_iast hx hb hK hP hD hS 5 0 rfl rfl b3 dX3_breakUp_91 (fun H locs hP hD hS => ?_)
      replace hP : va_P (dC, dI) vwCl (wX3 cI cZ cJ cA h0 a x7 x8 x12 x13 (upd f0 (Int32.toNatClampNeg v2) (f0 (Int32.toNatClampNeg (v2 + 1)))) (upd f1 (Int32.toNatClampNeg v2) (f1 (Int32.toNatClampNeg (v2 + 1)))) (upd f2 (Int32.toNatClampNeg v2) (f2 (Int32.toNatClampNeg (v2 + 1)))) (upd f3 (Int32.toNatClampNeg v2) (f3 (Int32.toNatClampNeg (v2 + 1)))) (upd f4 (Int32.toNatClampNeg v2) (f4 (Int32.toNatClampNeg (v2 + 1)))) f5 f6 f9 f10 f11) H := hP
      replace hD : va_D A (wX3 cI cZ cJ cA h0 a x7 x8 x12 x13 (upd f0 (Int32.toNatClampNeg v2) (f0 (Int32.toNatClampNeg (v2 + 1)))) (upd f1 (Int32.toNatClampNeg v2) (f1 (Int32.toNatClampNeg (v2 + 1)))) (upd f2 (Int32.toNatClampNeg v2) (f2 (Int32.toNatClampNeg (v2 + 1)))) (upd f3 (Int32.toNatClampNeg v2) (f3 (Int32.toNatClampNeg (v2 + 1)))) (upd f4 (Int32.toNatClampNeg v2) (f4 (Int32.toNatClampNeg (v2 + 1)))) f5 f6 f9 f10 f11) := hD
      refine lv_aload_n hx hb dX3_breakUp_92 rfl (lv_at hl 0 rfl) ?_
      refine va_get (D := (dC, dI)) (ci := 3) (v := .ref (a 5)) (C := RX3) (T := TX3) (N := 14) hx hb hts (fun w hw => List.mem_cons_of_mem _ (List.mem_append_right _ hw)) hown hK hP 0 rfl rfl 5 (by decide) (hts (.fieldLink RX3 27 "OldStadium$Quarry" "town" "[I") (List.mem_of_getElem? (i := 7) rfl)) (fun _ h9 => h9) rfl dX3_breakUp_93 ?_
      refine lv_iload_n hx hb dX3_breakUp_96 rfl (lv_at hl 2 rfl) ?_
      refine lv_aload_n hx hb dX3_breakUp_97 rfl (lv_at hl 0 rfl) ?_
      refine va_get (D := (dC, dI)) (ci := 3) (v := .ref (a 5)) (C := RX3) (T := TX3) (N := 14) hx hb hts (fun w hw => List.mem_cons_of_mem _ (List.mem_append_right _ hw)) hown hK hP 0 rfl rfl 5 (by decide) (hts (.fieldLink RX3 27 "OldStadium$Quarry" "town" "[I") (List.mem_of_getElem? (i := 7) rfl)) (fun _ h9 => h9) rfl dX3_breakUp_98 ?_
      refine lv_iload_n hx hb dX3_breakUp_101 rfl (lv_at hl 2 rfl) ?_
      refine lv_iconst (v := 1) hx hb dX3_breakUp_102 (by decide) ?_
      refine lv_iadd hx hb dX3_breakUp_103 ?_
      refine va_iald hx hb hK hP 6 0 rfl rfl b2 dX3_breakUp_104 ?_
      refine va_iast hx hb hK hP hD hS 6 0 rfl rfl b3 dX3_breakUp_105 (fun H locs hP hD hS => ?_)
      replace hP : va_P (dC, dI) vwCl (wX3 cI cZ cJ cA h0 a x7 x8 x12 x13 (upd f0 (Int32.toNatClampNeg v2) (f0 (Int32.toNatClampNeg (v2 + 1)))) (upd f1 (Int32.toNatClampNeg v2) (f1 (Int32.toNatClampNeg (v2 + 1)))) (upd f2 (Int32.toNatClampNeg v2) (f2 (Int32.toNatClampNeg (v2 + 1)))) (upd f3 (Int32.toNatClampNeg v2) (f3 (Int32.toNatClampNeg (v2 + 1)))) (upd f4 (Int32.toNatClampNeg v2) (f4 (Int32.toNatClampNeg (v2 + 1)))) (upd f5 (Int32.toNatClampNeg v2) (f5 (Int32.toNatClampNeg (v2 + 1)))) f6 f9 f10 f11) H := hP
      replace hD : va_D A (wX3 cI cZ cJ cA h0 a x7 x8 x12 x13 (upd f0 (Int32.toNatClampNeg v2) (f0 (Int32.toNatClampNeg (v2 + 1)))) (upd f1 (Int32.toNatClampNeg v2) (f1 (Int32.toNatClampNeg (v2 + 1)))) (upd f2 (Int32.toNatClampNeg v2) (f2 (Int32.toNatClampNeg (v2 + 1)))) (upd f3 (Int32.toNatClampNeg v2) (f3 (Int32.toNatClampNeg (v2 + 1)))) (upd f4 (Int32.toNatClampNeg v2) (f4 (Int32.toNatClampNeg (v2 + 1)))) (upd f5 (Int32.toNatClampNeg v2) (f5 (Int32.toNatClampNeg (v2 + 1)))) f6 f9 f10 f11) := hD
      refine lv_aload_n hx hb dX3_breakUp_106 rfl (lv_at hl 0 rfl) ?_
      refine va_get (D := (dC, dI)) (ci := 3) (v := .ref (a 6)) (C := RX3) (T := TX3) (N := 14) hx hb hts (fun w hw => List.mem_cons_of_mem _ (List.mem_append_right _ hw)) hown hK hP 0 rfl rfl 6 (by decide) (hts (.fieldLink RX3 30 "OldStadium$Quarry" "joined" "[I") (List.mem_of_getElem? (i := 8) rfl)) (fun _ h9 => h9) rfl dX3_breakUp_107 ?_
      refine lv_iload_n hx hb dX3_breakUp_110 rfl (lv_at hl 2 rfl) ?_
      refine lv_aload_n hx hb dX3_breakUp_111 rfl (lv_at hl 0 rfl) ?_
      refine va_get (D := (dC, dI)) (ci := 3) (v := .ref (a 6)) (C := RX3) (T := TX3) (N := 14) hx hb hts (fun w hw => List.mem_cons_of_mem _ (List.mem_append_right _ hw)) hown hK hP 0 rfl rfl 6 (by decide) (hts (.fieldLink RX3 30 "OldStadium$Quarry" "joined" "[I") (List.mem_of_getElem? (i := 8) rfl)) (fun _ h9 => h9) rfl dX3_breakUp_112 ?_
      refine lv_iload_n hx hb dX3_breakUp_115 rfl (lv_at hl 2 rfl) ?_
      refine lv_iconst (v := 1) hx hb dX3_breakUp_116 (by decide) ?_
      refine lv_iadd hx hb dX3_breakUp_117 ?_
      refine va_iald hx hb hK hP 7 0 rfl rfl b2 dX3_breakUp_118 ?_
      refine va_iast hx hb hK hP hD hS 7 0 rfl rfl b3 dX3_breakUp_119 (fun H locs hP hD hS => ?_)
      replace hP : va_P (dC, dI) vwCl (wX3 cI cZ cJ cA h0 a x7 x8 x12 x13 (upd f0 (Int32.toNatClampNeg v2) (f0 (Int32.toNatClampNeg (v2 + 1)))) (upd f1 (Int32.toNatClampNeg v2) (f1 (Int32.toNatClampNeg (v2 + 1)))) (upd f2 (Int32.toNatClampNeg v2) (f2 (Int32.toNatClampNeg (v2 + 1)))) (upd f3 (Int32.toNatClampNeg v2) (f3 (Int32.toNatClampNeg (v2 + 1)))) (upd f4 (Int32.toNatClampNeg v2) (f4 (Int32.toNatClampNeg (v2 + 1)))) (upd f5 (Int32.toNatClampNeg v2) (f5 (Int32.toNatClampNeg (v2 + 1)))) (upd f6 (Int32.toNatClampNeg v2) (f6 (Int32.toNatClampNeg (v2 + 1)))) f9 f10 f11) H := hP
      replace hD : va_D A (wX3 cI cZ cJ cA h0 a x7 x8 x12 x13 (upd f0 (Int32.toNatClampNeg v2) (f0 (Int32.toNatClampNeg (v2 + 1)))) (upd f1 (Int32.toNatClampNeg v2) (f1 (Int32.toNatClampNeg (v2 + 1)))) (upd f2 (Int32.toNatClampNeg v2) (f2 (Int32.toNatClampNeg (v2 + 1)))) (upd f3 (Int32.toNatClampNeg v2) (f3 (Int32.toNatClampNeg (v2 + 1)))) (upd f4 (Int32.toNatClampNeg v2) (f4 (Int32.toNatClampNeg (v2 + 1)))) (upd f5 (Int32.toNatClampNeg v2) (f5 (Int32.toNatClampNeg (v2 + 1)))) (upd f6 (Int32.toNatClampNeg v2) (f6 (Int32.toNatClampNeg (v2 + 1)))) f9 f10 f11) := hD
      refine lv_iinc (v := (v2 + 1)) (lv' := [(2, .int (v2 + 1)), (0, .ref h0), (1, .int v1)]) hx hb dX3_breakUp_120 hl (k := 2) rfl rfl (by decide) rfl (fun ls hl => ?_)
      refine lv_goto (tgt := 12) hx hb dX3_breakUp_123 (by decide) ?_
      exact ih hf hP hD hS (lv_sub hl [1, 2, 0] rfl) hexit
def q_X3_breakUp_L138 (N : Nat) (v1 : Int32) (x7 : Int32) : Nat → Int32 → (Nat → Int32) → Option (Nat → Int32)
  | 0, _, _ => none
  | n + 1, v2, f6 =>
    (if x7 ≤ v2 then
     (some f6)
    else
     (if z_in v2 6 then
     (Option.bind (q_X3_withoutBit N (f6 (Int32.toNatClampNeg v2)) v1) (fun o3 =>
     (q_X3_breakUp_L138 N v1 x7 n (v2 + 1) (upd f6 (Int32.toNatClampNeg v2) o3))))
     else none))
set_option maxHeartbeats 4000000 in
set_option maxRecDepth 100000 in
theorem b_X3_breakUp_L138 {p : Program} {l : Launch} {e : Env} {R : Room} {s : State} {m : MethodId} {args : Array Value} {below : List Frame} {meth : Method} {c : Code} {Q : State → Prop} {A : Nat → Prop} {dC : Nat → ClassId} {dI : Nat → Nat → Nat} {cI cZ cJ cA : ClassId} {h0 : Nat} {a : Nat → Nat} (N : Nat) (C0 : z_Cx p s m args c cX3_breakUp 3 wsX3_breakUp RX3 R 1 22 A dC dI (z_ty cI cZ cJ cA)) : ∀ (n : Nat) {v1 : Int32} {v2 : Int32} {x7 : Int32} {x8 : Int32} {x12 : Int32} {x13 : Int32} {f0 : (Nat → Int32)} {f1 : (Nat → Int32)} {f2 : (Nat → Int32)} {f3 : (Nat → Int32)} {f4 : (Nat → Int32)} {f5 : (Nat → Int32)} {f6 : (Nat → Int32)} {f9 : (Nat → Int32)} {f10 : (Nat → Int32)} {f11 : (Nat → Int64)} {o : (Nat → Int32)} {H : Heap} {locs : List Loc} {ls : Array Slot}, q_X3_breakUp_L138 N v1 x7 n v2 f6 = some o → va_P (dC, dI) vwCl (wX3 cI cZ cJ cA h0 a x7 x8 x12 x13 f0 f1 f2 f3 f4 f5 f6 f9 f10 f11) H → va_D A (wX3 cI cZ cJ cA h0 a x7 x8 x12 x13 f0 f1 f2 f3 f4 f5 f6 f9 f10 f11) → va_S A s.heap H locs → lv_has ls 3 [(0, .ref h0), (1, .int v1), (2, .int v2)] →
    (∀ (H : Heap) (locs : List Loc) (ls : Array Slot), va_P (dC, dI) vwCl (wX3 cI cZ cJ cA h0 a x7 x8 x12 x13 f0 f1 f2 f3 f4 f5 o f9 f10 f11) H → va_D A (wX3 cI cZ cJ cA h0 a x7 x8 x12 x13 f0 f1 f2 f3 f4 f5 o f9 f10 f11) → va_S A s.heap H locs → lv_has ls 3 [(0, .ref h0)] → W p l e R s m args below meth c H locs 0 0 Q (F0 m 168 ls [])) →
    W p l e R s m args below meth c H locs 0 0 Q (F0 m 138 ls []) := by
  obtain ⟨⟨hx, hb, hml, hown, hts⟩, hRf, hRl, hA, hN, hK⟩ := C0
  intro n
  induction n with
  | zero =>
    intro v1 v2 x7 x8 x12 x13 f0 f1 f2 f3 f4 f5 f6 f9 f10 f11 o H locs ls hf
    cases hf
  | succ n ih =>
    intro v1 v2 x7 x8 x12 x13 f0 f1 f2 f3 f4 f5 f6 f9 f10 f11 o H locs ls hf hP hD hS hl hexit
    rw [q_X3_breakUp_L138] at hf
    refine lv_iload_n hx hb dX3_breakUp_138 rfl (lv_at hl 2 rfl) ?_
    refine lv_aload_n hx hb dX3_breakUp_139 rfl (lv_at hl 0 rfl) ?_
    refine va_get (D := (dC, dI)) (ci := 3) (v := .int x7) (C := RX3) (T := TX3) (N := 14) hx hb hts (fun w hw => List.mem_cons_of_mem _ (List.mem_append_right _ hw)) hown hK hP 0 rfl rfl 7 (by decide) (hts (.fieldLink RX3 33 "OldStadium$Quarry" "stones" "I") (List.mem_of_getElem? (i := 1) rfl)) (fun _ h9 => h9) rfl dX3_breakUp_140 ?_
    refine lv_icmp_ge (tgt := 168) hx hb dX3_breakUp_143 (by decide) (fun c1 => ?_) (fun c1 => ?_)
    · replace hf := z_ip hf c1
      obtain rfl := Option.some.inj hf
      exact hexit _ _ _ hP hD hS (lv_sub hl [0] rfl)
    · replace hf := z_im hf c1
      refine lv_aload_n hx hb dX3_breakUp_146 rfl (lv_at hl 0 rfl) ?_
      refine va_get (D := (dC, dI)) (ci := 3) (v := .ref (a 6)) (C := RX3) (T := TX3) (N := 14) hx hb hts (fun w hw => List.mem_cons_of_mem _ (List.mem_append_right _ hw)) hown hK hP 0 rfl rfl 6 (by decide) (hts (.fieldLink RX3 30 "OldStadium$Quarry" "joined" "[I") (List.mem_of_getElem? (i := 8) rfl)) (fun _ h9 => h9) rfl dX3_breakUp_147 ?_
      refine lv_iload_n hx hb dX3_breakUp_150 rfl (lv_at hl 2 rfl) ?_
      refine lv_aload_n hx hb dX3_breakUp_151 rfl (lv_at hl 0 rfl) ?_
      refine va_get (D := (dC, dI)) (ci := 3) (v := .ref (a 6)) (C := RX3) (T := TX3) (N := 14) hx hb hts (fun w hw => List.mem_cons_of_mem _ (List.mem_append_right _ hw)) hown hK hP 0 rfl rfl 6 (by decide) (hts (.fieldLink RX3 30 "OldStadium$Quarry" "joined" "[I") (List.mem_of_getElem? (i := 8) rfl)) (fun _ h9 => h9) rfl dX3_breakUp_152 ?_
      refine lv_iload_n hx hb dX3_breakUp_155 rfl (lv_at hl 2 rfl) ?_
      have b2 := z_c1 hf
      replace hf := z_c2 hf
      refine va_iald hx hb hK hP 7 0 rfl rfl b2 dX3_breakUp_156 ?_
      refine lv_iload_n hx hb dX3_breakUp_157 rfl (lv_at hl 1 rfl) ?_
      obtain ⟨o3, ho3, hf1⟩ := z_ib hf
      replace hf := hf1
      clear hf1
      refine z_S0 (As := [.int (f6 (Int32.toNatClampNeg v2)), .int v1]) (rest := [.int v2, .ref (a 6)]) ⟨hx, hb, hml, hown, hts⟩ (k_X3_withoutBit l dC dI cI cZ cJ cA H.size N (f6 (Int32.toNatClampNeg v2)) v1 o3 ho3) (va_cwS 2 hts gX3_breakUp_X3_withoutBit rfl rfl rfl (by decide +kernel) ⟨Nat.le_trans (Nat.le_of_ble_eq_true rfl) hRf, Nat.le_trans (Nat.le_of_ble_eq_true rfl) hRl⟩) hK hP hS hA hN rfl hl.1 rfl (Nat.le_of_ble_eq_true rfl) dX3_breakUp_158 (fun H locs hP hS => ?_)
      refine va_iast hx hb hK hP hD hS 7 0 rfl rfl b2 dX3_breakUp_161 (fun H locs hP hD hS => ?_)
      replace hP : va_P (dC, dI) vwCl (wX3 cI cZ cJ cA h0 a x7 x8 x12 x13 f0 f1 f2 f3 f4 f5 (upd f6 (Int32.toNatClampNeg v2) o3) f9 f10 f11) H := hP
      replace hD : va_D A (wX3 cI cZ cJ cA h0 a x7 x8 x12 x13 f0 f1 f2 f3 f4 f5 (upd f6 (Int32.toNatClampNeg v2) o3) f9 f10 f11) := hD
      refine lv_iinc (v := (v2 + 1)) (lv' := [(2, .int (v2 + 1)), (0, .ref h0), (1, .int v1)]) hx hb dX3_breakUp_162 hl (k := 2) rfl rfl (by decide) rfl (fun ls hl => ?_)
      refine lv_goto (tgt := 138) hx hb dX3_breakUp_165 (by decide) ?_
      exact ih hf hP hD hS (lv_sub hl [1, 2, 0] rfl) hexit
def q_X3_breakUp (N : Nat) (v1 : Int32) (x7 : Int32) (x12 : Int32) (x13 : Int32) (f0 : (Nat → Int32)) (f1 : (Nat → Int32)) (f2 : (Nat → Int32)) (f3 : (Nat → Int32)) (f4 : (Nat → Int32)) (f5 : (Nat → Int32)) (f6 : (Nat → Int32)) : Option (Int32 × Int32 × Int32 × Int32 × (Nat → Int32) × (Nat → Int32) × (Nat → Int32) × (Nat → Int32) × (Nat → Int32) × (Nat → Int32) × (Nat → Int32)) :=
  (Option.bind (q_X3_isStone N v1 x7) (fun o1 =>
  (if o1 = 0 then
   (some ((-1), x7, x12, x13, f0, f1, f2, f3, f4, f5, f6))
  else
   (Option.bind (q_X3_breakUp_L12 N x7 N v1 f0 f1 f2 f3 f4 f5 f6) (fun t3 =>
   (Option.bind (q_X3_breakUp_L138 N v1 (x7 - 1) N 0 t3.2.2.2.2.2.2) (fun t4 =>
   (Option.bind (q_X3_forget N x12 x13) (fun o5 =>
   (some ((x7 - 1), (x7 - 1), o5.1, o5.2, t3.1, t3.2.1, t3.2.2.1, t3.2.2.2.1, t3.2.2.2.2.1, t3.2.2.2.2.2.1, t4)))))))))))
set_option maxHeartbeats 4000000 in
set_option maxRecDepth 100000 in
theorem b_X3_breakUp {p : Program} {l : Launch} {e : Env} {R : Room} {s : State} {m : MethodId} {args : Array Value} {below : List Frame} {meth : Method} {c : Code} {Q : State → Prop} {A : Nat → Prop} {dC : Nat → ClassId} {dI : Nat → Nat → Nat} {cI cZ cJ cA : ClassId} {h0 : Nat} {a : Nat → Nat} (N : Nat) (C0 : z_Cx p s m args c cX3_breakUp 3 wsX3_breakUp RX3 R 1 22 A dC dI (z_ty cI cZ cJ cA)) {v1 : Int32} {x7 : Int32} {x8 : Int32} {x12 : Int32} {x13 : Int32} {f0 : (Nat → Int32)} {f1 : (Nat → Int32)} {f2 : (Nat → Int32)} {f3 : (Nat → Int32)} {f4 : (Nat → Int32)} {f5 : (Nat → Int32)} {f6 : (Nat → Int32)} {f9 : (Nat → Int32)} {f10 : (Nat → Int32)} {f11 : (Nat → Int64)} {o : (Int32 × Int32 × Int32 × Int32 × (Nat → Int32) × (Nat → Int32) × (Nat → Int32) × (Nat → Int32) × (Nat → Int32) × (Nat → Int32) × (Nat → Int32))} {H : Heap} {locs : List Loc} {ls : Array Slot} (hf : q_X3_breakUp N v1 x7 x12 x13 f0 f1 f2 f3 f4 f5 f6 = some o) (hP : va_P (dC, dI) vwCl (wX3 cI cZ cJ cA h0 a x7 x8 x12 x13 f0 f1 f2 f3 f4 f5 f6 f9 f10 f11) H) (hD : va_D A (wX3 cI cZ cJ cA h0 a x7 x8 x12 x13 f0 f1 f2 f3 f4 f5 f6 f9 f10 f11)) (hS : va_S A s.heap H locs) (hl : lv_has ls 3 [(0, .ref h0), (1, .int v1)])
    (hret : ∀ (pc : Nat) (H : Heap) (locs : List Loc) (ls : Array Slot) (r : Int32), decode cX3_breakUp pc = .ok (.ireturn, 1) → r = o.1 → va_P (dC, dI) vwCl (wX3 cI cZ cJ cA h0 a o.2.1 x8 o.2.2.1 o.2.2.2.1 o.2.2.2.2.1 o.2.2.2.2.2.1 o.2.2.2.2.2.2.1 o.2.2.2.2.2.2.2.1 o.2.2.2.2.2.2.2.2.1 o.2.2.2.2.2.2.2.2.2.1 o.2.2.2.2.2.2.2.2.2.2 f9 f10 f11) H → va_D A (wX3 cI cZ cJ cA h0 a o.2.1 x8 o.2.2.1 o.2.2.2.1 o.2.2.2.2.1 o.2.2.2.2.2.1 o.2.2.2.2.2.2.1 o.2.2.2.2.2.2.2.1 o.2.2.2.2.2.2.2.2.1 o.2.2.2.2.2.2.2.2.2.1 o.2.2.2.2.2.2.2.2.2.2 f9 f10 f11) → va_S A s.heap H locs → W p l e R s m args below meth c H locs 0 0 Q (F0 m pc ls [.int r])) :
    W p l e R s m args below meth c H locs 0 0 Q (F0 m 0 ls []) := by
  obtain ⟨⟨hx, hb, hml, hown, hts⟩, hRf, hRl, hA, hN, hK⟩ := C0
  unfold q_X3_breakUp at hf
  refine lv_aload_n hx hb dX3_breakUp_0 rfl (lv_at hl 0 rfl) ?_
  refine lv_iload_n hx hb dX3_breakUp_1 rfl (lv_at hl 1 rfl) ?_
  obtain ⟨o1, ho1, hf1⟩ := z_ib hf
  replace hf := hf1
  clear hf1
  refine z_Vi (As := [.int v1]) (rest := []) (w := (wX3 cI cZ cJ cA h0 a x7 x8 x12 x13 f0 f1 f2 f3 f4 f5 f6 f9 f10 f11)) (w1 := (wX3 cI cZ cJ cA h0 a x7 x8 x12 x13 f0 f1 f2 f3 f4 f5 f6 f9 f10 f11)) ⟨hx, hb, hml, hown, hts⟩ (k_X3_isStone l dC dI cI cZ cJ cA h0 a H.size N v1 x7 x8 x12 x13 f0 f1 f2 f3 f4 f5 f6 f9 f10 f11 o1 ho1) (cwV 1 hts gX3_breakUp_X3_isStone rfl rfl rfl (by decide +kernel) ⟨Nat.le_trans (Nat.le_of_ble_eq_true rfl) hRf, Nat.le_trans (Nat.le_of_ble_eq_true rfl) hRl⟩) hK hP hD hS hA hN (ci := 3) rfl rfl rfl rfl hl.1 rfl (Nat.le_of_ble_eq_true rfl) dX3_breakUp_2 (fun H locs hP hD hS => ?_)
  refine lv_if_ne (tgt := 10) hx hb dX3_breakUp_5 (by decide) (fun c2 => ?_) (fun c2 => ?_)
  · replace hf := z_im hf c2
    refine lv_iload_n hx hb dX3_breakUp_10 rfl (lv_at hl 1 rfl) ?_
    refine lv_istore_n (lv' := [(2, .int v1), (0, .ref h0), (1, .int v1)]) hx hb dX3_breakUp_11 rfl hl (by decide) rfl (fun ls hl => ?_)
    obtain ⟨t3, ht3, hf1⟩ := z_ib hf
    replace hf := hf1
    clear hf1
    refine b_X3_breakUp_L12 N ⟨⟨hx, hb, hml, hown, hts⟩, hRf, hRl, hA, hN, hK⟩ N ht3 hP hD hS (lv_sub hl [1, 2, 0] rfl) (fun H locs ls hP hD hS hl => ?_)
    refine lv_aload_n hx hb dX3_breakUp_126 rfl (lv_at hl 0 rfl) ?_
    refine lv_dup hx hb dX3_breakUp_127 rfl ?_
    refine va_get (D := (dC, dI)) (ci := 3) (v := .int x7) (C := RX3) (T := TX3) (N := 14) hx hb hts (fun w hw => List.mem_cons_of_mem _ (List.mem_append_right _ hw)) hown hK hP 0 rfl rfl 7 (by decide) (hts (.fieldLink RX3 33 "OldStadium$Quarry" "stones" "I") (List.mem_of_getElem? (i := 1) rfl)) (fun _ h9 => h9) rfl dX3_breakUp_128 ?_
    refine lv_iconst (v := 1) hx hb dX3_breakUp_131 (by decide) ?_
    refine lv_isub hx hb dX3_breakUp_132 ?_
    refine va_put (D := (dC, dI)) (ci := 3) (v := .int (x7 - 1)) (ty := .int) (C := RX3) (T := TX3) (N := 14) hx hb hts (fun w hw => List.mem_cons_of_mem _ (List.mem_append_right _ hw)) tyX3 tyX3_ok nmX3 hown hK hP hD hS 0 rfl rfl 7 (by decide) (hts (.fieldLink RX3 33 "OldStadium$Quarry" "stones" "I") (List.mem_of_getElem? (i := 1) rfl)) (fun _ h9 => h9) rfl (by decide +kernel) rfl rfl (Nat.le_of_ble_eq_true rfl) dX3_breakUp_133 (fun H locs hP hD hS => ?_)
    replace hP : va_P (dC, dI) vwCl (wX3 cI cZ cJ cA h0 a (x7 - 1) x8 x12 x13 t3.1 t3.2.1 t3.2.2.1 t3.2.2.2.1 t3.2.2.2.2.1 t3.2.2.2.2.2.1 t3.2.2.2.2.2.2 f9 f10 f11) H := hP
    replace hD : va_D A (wX3 cI cZ cJ cA h0 a (x7 - 1) x8 x12 x13 t3.1 t3.2.1 t3.2.2.1 t3.2.2.2.1 t3.2.2.2.2.1 t3.2.2.2.2.2.1 t3.2.2.2.2.2.2 f9 f10 f11) := hD
    refine lv_iconst (v := 0) hx hb dX3_breakUp_136 (by decide) ?_
    refine lv_istore_n (lv' := [(2, .int 0), (0, .ref h0), (1, .int v1)]) hx hb dX3_breakUp_137 rfl hl (by decide) rfl (fun ls hl => ?_)
    obtain ⟨t4, ht4, hf1⟩ := z_ib hf
    replace hf := hf1
    clear hf1
    refine b_X3_breakUp_L138 N ⟨⟨hx, hb, hml, hown, hts⟩, hRf, hRl, hA, hN, hK⟩ N ht4 hP hD hS (lv_sub hl [1, 2, 0] rfl) (fun H locs ls hP hD hS hl => ?_)
    refine lv_aload_n hx hb dX3_breakUp_168 rfl (lv_at hl 0 rfl) ?_
    obtain ⟨o5, ho5, hf1⟩ := z_ib hf
    replace hf := hf1
    clear hf1
    refine z_Vv (As := []) (rest := []) (w := (wX3 cI cZ cJ cA h0 a (x7 - 1) x8 x12 x13 t3.1 t3.2.1 t3.2.2.1 t3.2.2.2.1 t3.2.2.2.2.1 t3.2.2.2.2.2.1 t4 f9 f10 f11)) (w1 := (wX3 cI cZ cJ cA h0 a (x7 - 1) x8 o5.1 o5.2 t3.1 t3.2.1 t3.2.2.1 t3.2.2.2.1 t3.2.2.2.2.1 t3.2.2.2.2.2.1 t4 f9 f10 f11)) ⟨hx, hb, hml, hown, hts⟩ (k_X3_forget l dC dI cI cZ cJ cA h0 a H.size N (x7 - 1) x8 x12 x13 t3.1 t3.2.1 t3.2.2.1 t3.2.2.2.1 t3.2.2.2.2.1 t3.2.2.2.2.2.1 t4 f9 f10 f11 o5 ho5) (cwV 0 hts gX3_breakUp_X3_forget rfl rfl rfl (by decide +kernel) ⟨Nat.le_trans (Nat.le_of_ble_eq_true rfl) hRf, Nat.le_trans (Nat.le_of_ble_eq_true rfl) hRl⟩) hK hP hD hS hA hN (ci := 3) rfl rfl rfl rfl hl.1 rfl (Nat.le_of_ble_eq_true rfl) dX3_breakUp_169 (fun H locs hP hD hS => ?_)
    refine lv_aload_n hx hb dX3_breakUp_172 rfl (lv_at hl 0 rfl) ?_
    refine va_get (D := (dC, dI)) (ci := 3) (v := .int (x7 - 1)) (C := RX3) (T := TX3) (N := 14) hx hb hts (fun w hw => List.mem_cons_of_mem _ (List.mem_append_right _ hw)) hown hK hP 0 rfl rfl 7 (by decide) (hts (.fieldLink RX3 33 "OldStadium$Quarry" "stones" "I") (List.mem_of_getElem? (i := 1) rfl)) (fun _ h9 => h9) rfl dX3_breakUp_173 ?_
    obtain rfl := Option.some.inj hf
    exact hret _ _ _ _ _ dX3_breakUp_176 rfl hP hD hS
  · replace hf := z_ip hf c2
    refine lv_iconst (v := (-1)) hx hb dX3_breakUp_8 (by decide) ?_
    obtain rfl := Option.some.inj hf
    exact hret _ _ _ _ _ dX3_breakUp_9 rfl hP hD hS
set_option maxHeartbeats 4000000 in
set_option maxRecDepth 100000 in
theorem k_X3_breakUp (l : Launch) (dC : Nat → ClassId) (dI : Nat → Nat → Nat) (cI cZ cJ cA : ClassId) (h0 : Nat) (a : Nat → Nat) (sz : Nat) (N : Nat) (v1 : Int32) (x7 : Int32) (x8 : Int32) (x12 : Int32) (x13 : Int32) (f0 : (Nat → Int32)) (f1 : (Nat → Int32)) (f2 : (Nat → Int32)) (f3 : (Nat → Int32)) (f4 : (Nat → Int32)) (f5 : (Nat → Int32)) (f6 : (Nat → Int32)) (f9 : (Nat → Int32)) (f10 : (Nat → Int32)) (f11 : (Nat → Int64)) (o : (Int32 × Int32 × Int32 × Int32 × (Nat → Int32) × (Nat → Int32) × (Nat → Int32) × (Nat → Int32) × (Nat → Int32) × (Nat → Int32) × (Nat → Int32))) (hf : q_X3_breakUp N v1 x7 x12 x13 f0 f1 f2 f3 f4 f5 f6 = some o) : Met l yX3_breakUp wsX3_breakUp ({ frames := 1, cells := 0, slots := 0, locals := 22 } : Room) (z_Pre dC dI (z_ty cI cZ cJ cA) [.ref h0, .int v1] sz (wX3 cI cZ cJ cA h0 a x7 x8 x12 x13 f0 f1 f2 f3 f4 f5 f6 f9 f10 f11)) (z_Pi dC dI o.1 (wX3 cI cZ cJ cA h0 a o.2.1 x8 o.2.2.1 o.2.2.2.1 o.2.2.2.2.1 o.2.2.2.2.2.1 o.2.2.2.2.2.2.1 o.2.2.2.2.2.2.2.1 o.2.2.2.2.2.2.2.2.1 o.2.2.2.2.2.2.2.2.2.1 o.2.2.2.2.2.2.2.2.2.2 f9 f10 f11) sz (wX3 cI cZ cJ cA h0 a x7 x8 x12 x13 f0 f1 f2 f3 f4 f5 f6 f9 f10 f11)) 0 0 (va_A (wX3 cI cZ cJ cA h0 a x7 x8 x12 x13 f0 f1 f2 f3 f4 f5 f6 f9 f10 f11) sz) := by
  refine Met.ofW (cc := cX3_breakUp) (maxL := 3) (ret := (some .int)) (by decide) rfl ?_
  intro p e s m args below meth c s₁ B hml hv
  obtain ⟨rfl, hsz, hP, hK, hD0, hN⟩ := hv
  subst hsz
  have hl := lv_entry ([.ref h0, .int v1]) (n := 3) (Nat.le_of_ble_eq_true rfl)
  rw [lg_entry_eq]
  refine b_X3_breakUp N ⟨⟨B.exec, B.bytes, hml, findClass_of_methodNamed B.named, atoms_spec (ws := wsX3_breakUp) B.pre⟩, Nat.le_refl _, Nat.le_refl _, fun q h => Or.inr h, hN, hK⟩ hf hP hD0.self va_S.rf hl (fun pc H locs ls r hd hr hP hD hS => ?_)
  subst hr
  exact W.iret B.exec B.bytes B.returns (fun t ht hW => ⟨⟨_, (), rfl, rfl, by rw [ht]; exact hP, hD⟩, hS.F ht⟩) hS.2.2 hd
def q_X3_isAgreeing_L39 (N : Nat) (v1 : Int32) (v2 : Int32) (f3 : (Nat → Int32)) (f4 : (Nat → Int32)) : Nat → Int32 → Option (Sum Int32 Unit)
  | 0, _ => none
  | n + 1, v3 =>
    (if 8 ≤ v3 then
     (some (Sum.inr ()))
    else
     (Option.bind (q_X3_letterOf N v1 v3 f3 f4) (fun o2 =>
     (Option.bind (q_X3_letterOf N v2 v3 f3 f4) (fun o3 =>
     (if o2 = 0 then
      (q_X3_isAgreeing_L39 N v1 v2 f3 f4 n (v3 + 1))
     else
      (if o3 = 0 then
       (q_X3_isAgreeing_L39 N v1 v2 f3 f4 n (v3 + 1))
      else
       (if o2 = o3 then
        (q_X3_isAgreeing_L39 N v1 v2 f3 f4 n (v3 + 1))
       else
        (some (Sum.inl 0))))))))))
set_option maxHeartbeats 4000000 in
set_option maxRecDepth 100000 in
theorem b_X3_isAgreeing_L39 {p : Program} {l : Launch} {e : Env} {R : Room} {s : State} {m : MethodId} {args : Array Value} {below : List Frame} {meth : Method} {c : Code} {Q : State → Prop} {A : Nat → Prop} {dC : Nat → ClassId} {dI : Nat → Nat → Nat} {cI cZ cJ cA : ClassId} {h0 : Nat} {a : Nat → Nat} (N : Nat) (C0 : z_Cx p s m args c cX3_isAgreeing 6 wsX3_isAgreeing RX3 R 2 44 A dC dI (z_ty cI cZ cJ cA)) : ∀ (n : Nat) {v1 : Int32} {v2 : Int32} {v3 : Int32} {x7 : Int32} {x8 : Int32} {x12 : Int32} {x13 : Int32} {f0 : (Nat → Int32)} {f1 : (Nat → Int32)} {f2 : (Nat → Int32)} {f3 : (Nat → Int32)} {f4 : (Nat → Int32)} {f5 : (Nat → Int32)} {f6 : (Nat → Int32)} {f9 : (Nat → Int32)} {f10 : (Nat → Int32)} {f11 : (Nat → Int64)} {o : (Sum Int32 Unit)} {H : Heap} {locs : List Loc} {ls : Array Slot}, q_X3_isAgreeing_L39 N v1 v2 f3 f4 n v3 = some o → va_P (dC, dI) vwCl (wX3 cI cZ cJ cA h0 a x7 x8 x12 x13 f0 f1 f2 f3 f4 f5 f6 f9 f10 f11) H → va_D A (wX3 cI cZ cJ cA h0 a x7 x8 x12 x13 f0 f1 f2 f3 f4 f5 f6 f9 f10 f11) → va_S A s.heap H locs → lv_has ls 6 [(0, .ref h0), (1, .int v1), (2, .int v2), (3, .int v3)] →
    (∀ (t : Int32), o = Sum.inl t → ∀ (pc : Nat) (H : Heap) (locs : List Loc) (ls : Array Slot) (r : Int32), decode cX3_isAgreeing pc = .ok (.ireturn, 1) → r = t → narrow .boolean (.int r) = .int r → va_P (dC, dI) vwCl (wX3 cI cZ cJ cA h0 a x7 x8 x12 x13 f0 f1 f2 f3 f4 f5 f6 f9 f10 f11) H → va_D A (wX3 cI cZ cJ cA h0 a x7 x8 x12 x13 f0 f1 f2 f3 f4 f5 f6 f9 f10 f11) → va_S A s.heap H locs → W p l e R s m args below meth c H locs 0 0 Q (F0 m pc ls [.int r])) →
    (∀ (t : Unit) (H : Heap) (locs : List Loc) (ls : Array Slot), o = Sum.inr t → va_P (dC, dI) vwCl (wX3 cI cZ cJ cA h0 a x7 x8 x12 x13 f0 f1 f2 f3 f4 f5 f6 f9 f10 f11) H → va_D A (wX3 cI cZ cJ cA h0 a x7 x8 x12 x13 f0 f1 f2 f3 f4 f5 f6 f9 f10 f11) → va_S A s.heap H locs → lv_has ls 6 [] → W p l e R s m args below meth c H locs 0 0 Q (F0 m 86 ls [])) →
    W p l e R s m args below meth c H locs 0 0 Q (F0 m 39 ls []) := by
  obtain ⟨⟨hx, hb, hml, hown, hts⟩, hRf, hRl, hA, hN, hK⟩ := C0
  intro n
  induction n with
  | zero =>
    intro v1 v2 v3 x7 x8 x12 x13 f0 f1 f2 f3 f4 f5 f6 f9 f10 f11 o H locs ls hf
    cases hf
  | succ n ih =>
    intro v1 v2 v3 x7 x8 x12 x13 f0 f1 f2 f3 f4 f5 f6 f9 f10 f11 o H locs ls hf hP hD hS hl hret hexit
    rw [q_X3_isAgreeing_L39] at hf
    refine lv_iload_n hx hb dX3_isAgreeing_39 rfl (lv_at hl 3 rfl) ?_
    refine lv_bipush (v := 8) hx hb dX3_isAgreeing_40 (by decide) ?_
    refine lv_icmp_ge (tgt := 86) hx hb dX3_isAgreeing_42 (by decide) (fun c1 => ?_) (fun c1 => ?_)
    · replace hf := z_ip hf c1
      obtain rfl := Option.some.inj hf
      exact hexit _ _ _ _ rfl hP hD hS (lv_sub hl [] rfl)
    · replace hf := z_im hf c1
      refine lv_aload_n hx hb dX3_isAgreeing_45 rfl (lv_at hl 0 rfl) ?_
      refine lv_iload_n hx hb dX3_isAgreeing_46 rfl (lv_at hl 1 rfl) ?_
      refine lv_iload_n hx hb dX3_isAgreeing_47 rfl (lv_at hl 3 rfl) ?_
      obtain ⟨o2, ho2, hf1⟩ := z_ib hf
      replace hf := hf1
      clear hf1
      refine z_Vi (As := [.int v1, .int v3]) (rest := []) (w := (wX3 cI cZ cJ cA h0 a x7 x8 x12 x13 f0 f1 f2 f3 f4 f5 f6 f9 f10 f11)) (w1 := (wX3 cI cZ cJ cA h0 a x7 x8 x12 x13 f0 f1 f2 f3 f4 f5 f6 f9 f10 f11)) ⟨hx, hb, hml, hown, hts⟩ (k_X3_letterOf l dC dI cI cZ cJ cA h0 a H.size N v1 v3 x7 x8 x12 x13 f0 f1 f2 f3 f4 f5 f6 f9 f10 f11 o2 ho2) (cwV 2 hts gX3_isAgreeing_X3_letterOf rfl rfl rfl (by decide +kernel) ⟨Nat.le_trans (Nat.le_of_ble_eq_true rfl) hRf, Nat.le_trans (Nat.le_of_ble_eq_true rfl) hRl⟩) hK hP hD hS hA hN (ci := 3) rfl rfl rfl rfl hl.1 rfl (Nat.le_of_ble_eq_true rfl) dX3_isAgreeing_48 (fun H locs hP hD hS => ?_)
      refine lv_istore (lv' := [(4, .int o2), (0, .ref h0), (1, .int v1), (2, .int v2), (3, .int v3)]) hx hb dX3_isAgreeing_51 hl (by decide) rfl (fun ls hl => ?_)
      refine lv_aload_n hx hb dX3_isAgreeing_53 rfl (lv_at hl 1 rfl) ?_
      refine lv_iload_n hx hb dX3_isAgreeing_54 rfl (lv_at hl 3 rfl) ?_
      refine lv_iload_n hx hb dX3_isAgreeing_55 rfl (lv_at hl 4 rfl) ?_
      obtain ⟨o3, ho3, hf1⟩ := z_ib hf
      replace hf := hf1
      clear hf1
      refine z_Vi (As := [.int v2, .int v3]) (rest := []) (w := (wX3 cI cZ cJ cA h0 a x7 x8 x12 x13 f0 f1 f2 f3 f4 f5 f6 f9 f10 f11)) (w1 := (wX3 cI cZ cJ cA h0 a x7 x8 x12 x13 f0 f1 f2 f3 f4 f5 f6 f9 f10 f11)) ⟨hx, hb, hml, hown, hts⟩ (k_X3_letterOf l dC dI cI cZ cJ cA h0 a H.size N v2 v3 x7 x8 x12 x13 f0 f1 f2 f3 f4 f5 f6 f9 f10 f11 o3 ho3) (cwV 2 hts gX3_isAgreeing_X3_letterOf rfl rfl rfl (by decide +kernel) ⟨Nat.le_trans (Nat.le_of_ble_eq_true rfl) hRf, Nat.le_trans (Nat.le_of_ble_eq_true rfl) hRl⟩) hK hP hD hS hA hN (ci := 3) rfl rfl rfl rfl hl.1 rfl (Nat.le_of_ble_eq_true rfl) dX3_isAgreeing_56 (fun H locs hP hD hS => ?_)
      refine lv_istore (lv' := [(5, .int o3), (4, .int o2), (0, .ref h0), (1, .int v1), (2, .int v2), (3, .int v3)]) hx hb dX3_isAgreeing_59 hl (by decide) rfl (fun ls hl => ?_)
      refine lv_iload hx hb dX3_isAgreeing_61 (lv_at hl 1 rfl) ?_
      refine lv_if_eq (tgt := 80) hx hb dX3_isAgreeing_63 (by decide) (fun c4 => ?_) (fun c4 => ?_)
      · replace hf := z_ip hf c4
        refine lv_iinc (v := (v3 + 1)) (lv' := [(3, .int (v3 + 1)), (5, .int o3), (4, .int o2), (0, .ref h0), (1, .int v1), (2, .int v2)]) hx hb dX3_isAgreeing_80 hl (k := 5) rfl rfl (by decide) rfl (fun ls hl => ?_)
        refine lv_goto (tgt := 39) hx hb dX3_isAgreeing_83 (by decide) ?_
        exact ih hf hP hD hS (lv_sub hl [3, 4, 5, 0] rfl) hret hexit
      · replace hf := z_im hf c4
        refine lv_iload hx hb dX3_isAgreeing_66 (lv_at hl 0 rfl) ?_
        refine lv_if_eq (tgt := 80) hx hb dX3_isAgreeing_68 (by decide) (fun c5 => ?_) (fun c5 => ?_)
        · replace hf := z_ip hf c5
          refine lv_iinc (v := (v3 + 1)) (lv' := [(3, .int (v3 + 1)), (5, .int o3), (4, .int o2), (0, .ref h0), (1, .int v1), (2, .int v2)]) hx hb dX3_isAgreeing_80 hl (k := 5) rfl rfl (by decide) rfl (fun ls hl => ?_)
          refine lv_goto (tgt := 39) hx hb dX3_isAgreeing_83 (by decide) ?_
          exact ih hf hP hD hS (lv_sub hl [3, 4, 5, 0] rfl) hret hexit
        · replace hf := z_im hf c5
          refine lv_iload hx hb dX3_isAgreeing_71 (lv_at hl 1 rfl) ?_
          refine lv_iload hx hb dX3_isAgreeing_73 (lv_at hl 0 rfl) ?_
          refine lv_icmp_eq (tgt := 80) hx hb dX3_isAgreeing_75 (by decide) (fun c6 => ?_) (fun c6 => ?_)
          · replace hf := z_ip hf c6
            refine lv_iinc (v := (v3 + 1)) (lv' := [(3, .int (v3 + 1)), (5, .int o3), (4, .int o2), (0, .ref h0), (1, .int v1), (2, .int v2)]) hx hb dX3_isAgreeing_80 hl (k := 5) rfl rfl (by decide) rfl (fun ls hl => ?_)
            refine lv_goto (tgt := 39) hx hb dX3_isAgreeing_83 (by decide) ?_
            exact ih hf hP hD hS (lv_sub hl [3, 4, 5, 0] rfl) hret hexit
          · replace hf := z_im hf c6
            refine lv_iconst (v := 0) hx hb dX3_isAgreeing_78 (by decide) ?_
            obtain rfl := Option.some.inj hf
            exact hret _ rfl _ _ _ _ _ dX3_isAgreeing_79 rfl rfl hP hD hS
def q_X3_isAgreeing (N : Nat) (v1 : Int32) (v2 : Int32) (f3 : (Nat → Int32)) (f4 : (Nat → Int32)) (f5 : (Nat → Int32)) : Option Int32 :=
  (if z_in v1 6 then
  (if (f5 (Int32.toNatClampNeg v1)) = (-1) then
   (Option.bind (q_X3_isAgreeing_L39 N v1 v2 f3 f4 N 0) (Sum.elim (fun r5 => (some r5)) (fun s4 =>
   (some 1))))
  else
   (if z_in v2 6 then
   (if (f5 (Int32.toNatClampNeg v2)) = (-1) then
    (Option.bind (q_X3_isAgreeing_L39 N v1 v2 f3 f4 N 0) (Sum.elim (fun r10 => (some r10)) (fun s9 =>
    (some 1))))
   else
    (if (f5 (Int32.toNatClampNeg v1)) = (f5 (Int32.toNatClampNeg v2)) then
     (Option.bind (q_X3_isAgreeing_L39 N v1 v2 f3 f4 N 0) (Sum.elim (fun r14 => (some r14)) (fun s13 =>
     (some 1))))
    else
     (some 0)))
   else none))
  else none)
set_option maxHeartbeats 4000000 in
set_option maxRecDepth 100000 in
theorem b_X3_isAgreeing {p : Program} {l : Launch} {e : Env} {R : Room} {s : State} {m : MethodId} {args : Array Value} {below : List Frame} {meth : Method} {c : Code} {Q : State → Prop} {A : Nat → Prop} {dC : Nat → ClassId} {dI : Nat → Nat → Nat} {cI cZ cJ cA : ClassId} {h0 : Nat} {a : Nat → Nat} (N : Nat) (C0 : z_Cx p s m args c cX3_isAgreeing 6 wsX3_isAgreeing RX3 R 2 44 A dC dI (z_ty cI cZ cJ cA)) {v1 : Int32} {v2 : Int32} {x7 : Int32} {x8 : Int32} {x12 : Int32} {x13 : Int32} {f0 : (Nat → Int32)} {f1 : (Nat → Int32)} {f2 : (Nat → Int32)} {f3 : (Nat → Int32)} {f4 : (Nat → Int32)} {f5 : (Nat → Int32)} {f6 : (Nat → Int32)} {f9 : (Nat → Int32)} {f10 : (Nat → Int32)} {f11 : (Nat → Int64)} {o : Int32} {H : Heap} {locs : List Loc} {ls : Array Slot} (hf : q_X3_isAgreeing N v1 v2 f3 f4 f5 = some o) (hP : va_P (dC, dI) vwCl (wX3 cI cZ cJ cA h0 a x7 x8 x12 x13 f0 f1 f2 f3 f4 f5 f6 f9 f10 f11) H) (hD : va_D A (wX3 cI cZ cJ cA h0 a x7 x8 x12 x13 f0 f1 f2 f3 f4 f5 f6 f9 f10 f11)) (hS : va_S A s.heap H locs) (hl : lv_has ls 6 [(0, .ref h0), (1, .int v1), (2, .int v2)])
    (hret : ∀ (pc : Nat) (H : Heap) (locs : List Loc) (ls : Array Slot) (r : Int32), decode cX3_isAgreeing pc = .ok (.ireturn, 1) → r = o → narrow .boolean (.int r) = .int r → va_P (dC, dI) vwCl (wX3 cI cZ cJ cA h0 a x7 x8 x12 x13 f0 f1 f2 f3 f4 f5 f6 f9 f10 f11) H → va_D A (wX3 cI cZ cJ cA h0 a x7 x8 x12 x13 f0 f1 f2 f3 f4 f5 f6 f9 f10 f11) → va_S A s.heap H locs → W p l e R s m args below meth c H locs 0 0 Q (F0 m pc ls [.int r])) :
    W p l e R s m args below meth c H locs 0 0 Q (F0 m 0 ls []) := by
  obtain ⟨⟨hx, hb, hml, hown, hts⟩, hRf, hRl, hA, hN, hK⟩ := C0
  unfold q_X3_isAgreeing at hf
  refine lv_aload_n hx hb dX3_isAgreeing_0 rfl (lv_at hl 0 rfl) ?_
  refine va_get (D := (dC, dI)) (ci := 3) (v := .ref (a 5)) (C := RX3) (T := TX3) (N := 14) hx hb hts (fun w hw => List.mem_cons_of_mem _ (List.mem_append_right _ hw)) hown hK hP 0 rfl rfl 5 (by decide) (hts (.fieldLink RX3 27 "OldStadium$Quarry" "town" "[I") (List.mem_of_getElem? (i := 1) rfl)) (fun _ h9 => h9) rfl dX3_isAgreeing_1 ?_
  refine lv_iload_n hx hb dX3_isAgreeing_4 rfl (lv_at hl 1 rfl) ?_
  have b1 := z_c1 hf
  replace hf := z_c2 hf
  refine va_iald hx hb hK hP 6 0 rfl rfl b1 dX3_isAgreeing_5 ?_
  refine lv_iconst (v := (-1)) hx hb dX3_isAgreeing_6 (by decide) ?_
  refine lv_icmp_eq (tgt := 37) hx hb dX3_isAgreeing_7 (by decide) (fun c2 => ?_) (fun c2 => ?_)
  · replace hf := z_ip hf c2
    refine lv_iconst (v := 0) hx hb dX3_isAgreeing_37 (by decide) ?_
    refine lv_istore_n (lv' := [(3, .int 0), (0, .ref h0), (1, .int v1), (2, .int v2)]) hx hb dX3_isAgreeing_38 rfl hl (by decide) rfl (fun ls hl => ?_)
    obtain ⟨t3, ht3, hf1⟩ := z_ib hf
    replace hf := hf1
    clear hf1
    refine b_X3_isAgreeing_L39 N ⟨⟨hx, hb, hml, hown, hts⟩, hRf, hRl, hA, hN, hK⟩ N ht3 hP hD hS (lv_sub hl [1, 2, 3, 0] rfl) (fun r5 e1 pc H locs ls r0 hd hr hn hP hD hS => ?_) (fun s4 H locs ls e1 hP hD hS hl => ?_)
    · subst e1
      have hf := z_sl hf
      obtain rfl := Option.some.inj hf
      exact hret pc H locs ls r0 hd hr hn hP hD hS
    subst e1
    replace hf := z_sr hf
    refine lv_iconst (v := 1) hx hb dX3_isAgreeing_86 (by decide) ?_
    obtain rfl := Option.some.inj hf
    exact hret _ _ _ _ _ dX3_isAgreeing_87 rfl rfl hP hD hS
  · replace hf := z_im hf c2
    refine lv_aload_n hx hb dX3_isAgreeing_10 rfl (lv_at hl 0 rfl) ?_
    refine va_get (D := (dC, dI)) (ci := 3) (v := .ref (a 5)) (C := RX3) (T := TX3) (N := 14) hx hb hts (fun w hw => List.mem_cons_of_mem _ (List.mem_append_right _ hw)) hown hK hP 0 rfl rfl 5 (by decide) (hts (.fieldLink RX3 27 "OldStadium$Quarry" "town" "[I") (List.mem_of_getElem? (i := 1) rfl)) (fun _ h9 => h9) rfl dX3_isAgreeing_11 ?_
    refine lv_iload_n hx hb dX3_isAgreeing_14 rfl (lv_at hl 2 rfl) ?_
    have b6 := z_c1 hf
    replace hf := z_c2 hf
    refine va_iald hx hb hK hP 6 0 rfl rfl b6 dX3_isAgreeing_15 ?_
    refine lv_iconst (v := (-1)) hx hb dX3_isAgreeing_16 (by decide) ?_
    refine lv_icmp_eq (tgt := 37) hx hb dX3_isAgreeing_17 (by decide) (fun c7 => ?_) (fun c7 => ?_)
    · replace hf := z_ip hf c7
      refine lv_iconst (v := 0) hx hb dX3_isAgreeing_37 (by decide) ?_
      refine lv_istore_n (lv' := [(3, .int 0), (0, .ref h0), (1, .int v1), (2, .int v2)]) hx hb dX3_isAgreeing_38 rfl hl (by decide) rfl (fun ls hl => ?_)
      obtain ⟨t8, ht8, hf1⟩ := z_ib hf
      replace hf := hf1
      clear hf1
      refine b_X3_isAgreeing_L39 N ⟨⟨hx, hb, hml, hown, hts⟩, hRf, hRl, hA, hN, hK⟩ N ht8 hP hD hS (lv_sub hl [1, 2, 3, 0] rfl) (fun r10 e1 pc H locs ls r0 hd hr hn hP hD hS => ?_) (fun s9 H locs ls e1 hP hD hS hl => ?_)
      · subst e1
        have hf := z_sl hf
        obtain rfl := Option.some.inj hf
        exact hret pc H locs ls r0 hd hr hn hP hD hS
      subst e1
      replace hf := z_sr hf
      refine lv_iconst (v := 1) hx hb dX3_isAgreeing_86 (by decide) ?_
      obtain rfl := Option.some.inj hf
      exact hret _ _ _ _ _ dX3_isAgreeing_87 rfl rfl hP hD hS
    · replace hf := z_im hf c7
      refine lv_aload_n hx hb dX3_isAgreeing_20 rfl (lv_at hl 0 rfl) ?_
      refine va_get (D := (dC, dI)) (ci := 3) (v := .ref (a 5)) (C := RX3) (T := TX3) (N := 14) hx hb hts (fun w hw => List.mem_cons_of_mem _ (List.mem_append_right _ hw)) hown hK hP 0 rfl rfl 5 (by decide) (hts (.fieldLink RX3 27 "OldStadium$Quarry" "town" "[I") (List.mem_of_getElem? (i := 1) rfl)) (fun _ h9 => h9) rfl dX3_isAgreeing_21 ?_
      refine lv_iload_n hx hb dX3_isAgreeing_24 rfl (lv_at hl 1 rfl) ?_
      refine va_iald hx hb hK hP 6 0 rfl rfl b1 dX3_isAgreeing_25 ?_
      refine lv_aload_n hx hb dX3_isAgreeing_26 rfl (lv_at hl 0 rfl) ?_
      refine va_get (D := (dC, dI)) (ci := 3) (v := .ref (a 5)) (C := RX3) (T := TX3) (N := 14) hx hb hts (fun w hw => List.mem_cons_of_mem _ (List.mem_append_right _ hw)) hown hK hP 0 rfl rfl 5 (by decide) (hts (.fieldLink RX3 27 "OldStadium$Quarry" "town" "[I") (List.mem_of_getElem? (i := 1) rfl)) (fun _ h9 => h9) rfl dX3_isAgreeing_27 ?_
      refine lv_iload_n hx hb dX3_isAgreeing_30 rfl (lv_at hl 2 rfl) ?_
      refine va_iald hx hb hK hP 6 0 rfl rfl b6 dX3_isAgreeing_31 ?_
      refine lv_icmp_eq (tgt := 37) hx hb dX3_isAgreeing_32 (by decide) (fun c11 => ?_) (fun c11 => ?_)
      · replace hf := z_ip hf c11
        refine lv_iconst (v := 0) hx hb dX3_isAgreeing_37 (by decide) ?_
        refine lv_istore_n (lv' := [(3, .int 0), (0, .ref h0), (1, .int v1), (2, .int v2)]) hx hb dX3_isAgreeing_38 rfl hl (by decide) rfl (fun ls hl => ?_)
        obtain ⟨t12, ht12, hf1⟩ := z_ib hf
        replace hf := hf1
        clear hf1
        refine b_X3_isAgreeing_L39 N ⟨⟨hx, hb, hml, hown, hts⟩, hRf, hRl, hA, hN, hK⟩ N ht12 hP hD hS (lv_sub hl [1, 2, 3, 0] rfl) (fun r14 e1 pc H locs ls r0 hd hr hn hP hD hS => ?_) (fun s13 H locs ls e1 hP hD hS hl => ?_)
        · subst e1
          have hf := z_sl hf
          obtain rfl := Option.some.inj hf
          exact hret pc H locs ls r0 hd hr hn hP hD hS
        subst e1
        replace hf := z_sr hf
        refine lv_iconst (v := 1) hx hb dX3_isAgreeing_86 (by decide) ?_
        obtain rfl := Option.some.inj hf
        exact hret _ _ _ _ _ dX3_isAgreeing_87 rfl rfl hP hD hS
      · replace hf := z_im hf c11
        refine lv_iconst (v := 0) hx hb dX3_isAgreeing_35 (by decide) ?_
        obtain rfl := Option.some.inj hf
        exact hret _ _ _ _ _ dX3_isAgreeing_36 rfl rfl hP hD hS
set_option maxHeartbeats 4000000 in
set_option maxRecDepth 100000 in
theorem k_X3_isAgreeing (l : Launch) (dC : Nat → ClassId) (dI : Nat → Nat → Nat) (cI cZ cJ cA : ClassId) (h0 : Nat) (a : Nat → Nat) (sz : Nat) (N : Nat) (v1 : Int32) (v2 : Int32) (x7 : Int32) (x8 : Int32) (x12 : Int32) (x13 : Int32) (f0 : (Nat → Int32)) (f1 : (Nat → Int32)) (f2 : (Nat → Int32)) (f3 : (Nat → Int32)) (f4 : (Nat → Int32)) (f5 : (Nat → Int32)) (f6 : (Nat → Int32)) (f9 : (Nat → Int32)) (f10 : (Nat → Int32)) (f11 : (Nat → Int64)) (o : Int32) (hf : q_X3_isAgreeing N v1 v2 f3 f4 f5 = some o) : Met l yX3_isAgreeing wsX3_isAgreeing ({ frames := 2, cells := 0, slots := 0, locals := 44 } : Room) (z_Pre dC dI (z_ty cI cZ cJ cA) [.ref h0, .int v1, .int v2] sz (wX3 cI cZ cJ cA h0 a x7 x8 x12 x13 f0 f1 f2 f3 f4 f5 f6 f9 f10 f11)) (z_Pi dC dI o (wX3 cI cZ cJ cA h0 a x7 x8 x12 x13 f0 f1 f2 f3 f4 f5 f6 f9 f10 f11) sz (wX3 cI cZ cJ cA h0 a x7 x8 x12 x13 f0 f1 f2 f3 f4 f5 f6 f9 f10 f11)) 0 0 (va_A (wX3 cI cZ cJ cA h0 a x7 x8 x12 x13 f0 f1 f2 f3 f4 f5 f6 f9 f10 f11) sz) := by
  refine Met.ofW (cc := cX3_isAgreeing) (maxL := 6) (ret := (some .boolean)) (by decide) rfl ?_
  intro p e s m args below meth c s₁ B hml hv
  obtain ⟨rfl, hsz, hP, hK, hD0, hN⟩ := hv
  subst hsz
  have hl := lv_entry ([.ref h0, .int v1, .int v2]) (n := 6) (Nat.le_of_ble_eq_true rfl)
  rw [lg_entry_eq]
  refine b_X3_isAgreeing N ⟨⟨B.exec, B.bytes, hml, findClass_of_methodNamed B.named, atoms_spec (ws := wsX3_isAgreeing) B.pre⟩, Nat.le_refl _, Nat.le_refl _, fun q h => Or.inr h, hN, hK⟩ hf hP hD0.self va_S.rf hl (fun pc H locs ls r hd hr hn hP hD hS => ?_)
  subst hr
  exact W.zret B.exec B.bytes B.returns hn (fun t ht hW => ⟨⟨_, (), rfl, rfl, by rw [ht]; exact hP, hD⟩, hS.F ht⟩) hS.2.2 hd
def q_X3_tellAgreeing (N : Nat) (v1 : Int32) (v2 : Int32) (x7 : Int32) (f3 : (Nat → Int32)) (f4 : (Nat → Int32)) (f5 : (Nat → Int32)) : Option Int32 :=
  (Option.bind (q_X3_isStone N v1 x7) (fun o1 =>
  (if o1 = 0 then
   (some (-1))
  else
   (Option.bind (q_X3_isStone N v2 x7) (fun o3 =>
   (if o3 = 0 then
    (some (-1))
   else
    (Option.bind (q_X3_isAgreeing N v1 v2 f3 f4 f5) (fun o5 =>
    (if o5 = 0 then
     (some 0)
    else
     (some 1))))))))))
set_option maxHeartbeats 4000000 in
set_option maxRecDepth 100000 in
theorem b_X3_tellAgreeing {p : Program} {l : Launch} {e : Env} {R : Room} {s : State} {m : MethodId} {args : Array Value} {below : List Frame} {meth : Method} {c : Code} {Q : State → Prop} {A : Nat → Prop} {dC : Nat → ClassId} {dI : Nat → Nat → Nat} {cI cZ cJ cA : ClassId} {h0 : Nat} {a : Nat → Nat} (N : Nat) (C0 : z_Cx p s m args c cX3_tellAgreeing 3 wsX3_tellAgreeing RX3 R 3 69 A dC dI (z_ty cI cZ cJ cA)) {v1 : Int32} {v2 : Int32} {x7 : Int32} {x8 : Int32} {x12 : Int32} {x13 : Int32} {f0 : (Nat → Int32)} {f1 : (Nat → Int32)} {f2 : (Nat → Int32)} {f3 : (Nat → Int32)} {f4 : (Nat → Int32)} {f5 : (Nat → Int32)} {f6 : (Nat → Int32)} {f9 : (Nat → Int32)} {f10 : (Nat → Int32)} {f11 : (Nat → Int64)} {o : Int32} {H : Heap} {locs : List Loc} {ls : Array Slot} (hf : q_X3_tellAgreeing N v1 v2 x7 f3 f4 f5 = some o) (hP : va_P (dC, dI) vwCl (wX3 cI cZ cJ cA h0 a x7 x8 x12 x13 f0 f1 f2 f3 f4 f5 f6 f9 f10 f11) H) (hD : va_D A (wX3 cI cZ cJ cA h0 a x7 x8 x12 x13 f0 f1 f2 f3 f4 f5 f6 f9 f10 f11)) (hS : va_S A s.heap H locs) (hl : lv_has ls 3 [(0, .ref h0), (1, .int v1), (2, .int v2)])
    (hret : ∀ (pc : Nat) (H : Heap) (locs : List Loc) (ls : Array Slot) (r : Int32), decode cX3_tellAgreeing pc = .ok (.ireturn, 1) → r = o → va_P (dC, dI) vwCl (wX3 cI cZ cJ cA h0 a x7 x8 x12 x13 f0 f1 f2 f3 f4 f5 f6 f9 f10 f11) H → va_D A (wX3 cI cZ cJ cA h0 a x7 x8 x12 x13 f0 f1 f2 f3 f4 f5 f6 f9 f10 f11) → va_S A s.heap H locs → W p l e R s m args below meth c H locs 0 0 Q (F0 m pc ls [.int r])) :
    W p l e R s m args below meth c H locs 0 0 Q (F0 m 0 ls []) := by
  obtain ⟨⟨hx, hb, hml, hown, hts⟩, hRf, hRl, hA, hN, hK⟩ := C0
  unfold q_X3_tellAgreeing at hf
  refine lv_aload_n hx hb dX3_tellAgreeing_0 rfl (lv_at hl 0 rfl) ?_
  refine lv_iload_n hx hb dX3_tellAgreeing_1 rfl (lv_at hl 1 rfl) ?_
  obtain ⟨o1, ho1, hf1⟩ := z_ib hf
  replace hf := hf1
  clear hf1
  refine z_Vi (As := [.int v1]) (rest := []) (w := (wX3 cI cZ cJ cA h0 a x7 x8 x12 x13 f0 f1 f2 f3 f4 f5 f6 f9 f10 f11)) (w1 := (wX3 cI cZ cJ cA h0 a x7 x8 x12 x13 f0 f1 f2 f3 f4 f5 f6 f9 f10 f11)) ⟨hx, hb, hml, hown, hts⟩ (k_X3_isStone l dC dI cI cZ cJ cA h0 a H.size N v1 x7 x8 x12 x13 f0 f1 f2 f3 f4 f5 f6 f9 f10 f11 o1 ho1) (cwV 1 hts gX3_tellAgreeing_X3_isStone rfl rfl rfl (by decide +kernel) ⟨Nat.le_trans (Nat.le_of_ble_eq_true rfl) hRf, Nat.le_trans (Nat.le_of_ble_eq_true rfl) hRl⟩) hK hP hD hS hA hN (ci := 3) rfl rfl rfl rfl hl.1 rfl (Nat.le_of_ble_eq_true rfl) dX3_tellAgreeing_2 (fun H locs hP hD hS => ?_)
  refine lv_if_eq (tgt := 16) hx hb dX3_tellAgreeing_5 (by decide) (fun c2 => ?_) (fun c2 => ?_)
  · replace hf := z_ip hf c2
    refine lv_iconst (v := (-1)) hx hb dX3_tellAgreeing_16 (by decide) ?_
    obtain rfl := Option.some.inj hf
    exact hret _ _ _ _ _ dX3_tellAgreeing_17 rfl hP hD hS
  · replace hf := z_im hf c2
    refine lv_aload_n hx hb dX3_tellAgreeing_8 rfl (lv_at hl 0 rfl) ?_
    refine lv_iload_n hx hb dX3_tellAgreeing_9 rfl (lv_at hl 2 rfl) ?_
    obtain ⟨o3, ho3, hf1⟩ := z_ib hf
    replace hf := hf1
    clear hf1
    refine z_Vi (As := [.int v2]) (rest := []) (w := (wX3 cI cZ cJ cA h0 a x7 x8 x12 x13 f0 f1 f2 f3 f4 f5 f6 f9 f10 f11)) (w1 := (wX3 cI cZ cJ cA h0 a x7 x8 x12 x13 f0 f1 f2 f3 f4 f5 f6 f9 f10 f11)) ⟨hx, hb, hml, hown, hts⟩ (k_X3_isStone l dC dI cI cZ cJ cA h0 a H.size N v2 x7 x8 x12 x13 f0 f1 f2 f3 f4 f5 f6 f9 f10 f11 o3 ho3) (cwV 1 hts gX3_tellAgreeing_X3_isStone rfl rfl rfl (by decide +kernel) ⟨Nat.le_trans (Nat.le_of_ble_eq_true rfl) hRf, Nat.le_trans (Nat.le_of_ble_eq_true rfl) hRl⟩) hK hP hD hS hA hN (ci := 3) rfl rfl rfl rfl hl.1 rfl (Nat.le_of_ble_eq_true rfl) dX3_tellAgreeing_10 (fun H locs hP hD hS => ?_)
    refine lv_if_ne (tgt := 18) hx hb dX3_tellAgreeing_13 (by decide) (fun c4 => ?_) (fun c4 => ?_)
    · replace hf := z_im hf c4
      refine lv_aload_n hx hb dX3_tellAgreeing_18 rfl (lv_at hl 0 rfl) ?_
      refine lv_iload_n hx hb dX3_tellAgreeing_19 rfl (lv_at hl 1 rfl) ?_
      refine lv_iload_n hx hb dX3_tellAgreeing_20 rfl (lv_at hl 2 rfl) ?_
      obtain ⟨o5, ho5, hf1⟩ := z_ib hf
      replace hf := hf1
      clear hf1
      refine z_Vi (As := [.int v1, .int v2]) (rest := []) (w := (wX3 cI cZ cJ cA h0 a x7 x8 x12 x13 f0 f1 f2 f3 f4 f5 f6 f9 f10 f11)) (w1 := (wX3 cI cZ cJ cA h0 a x7 x8 x12 x13 f0 f1 f2 f3 f4 f5 f6 f9 f10 f11)) ⟨hx, hb, hml, hown, hts⟩ (k_X3_isAgreeing l dC dI cI cZ cJ cA h0 a H.size N v1 v2 x7 x8 x12 x13 f0 f1 f2 f3 f4 f5 f6 f9 f10 f11 o5 ho5) (cwV 2 hts gX3_tellAgreeing_X3_isAgreeing rfl rfl rfl (by decide +kernel) ⟨Nat.le_trans (Nat.le_of_ble_eq_true rfl) hRf, Nat.le_trans (Nat.le_of_ble_eq_true rfl) hRl⟩) hK hP hD hS hA hN (ci := 3) rfl rfl rfl rfl hl.1 rfl (Nat.le_of_ble_eq_true rfl) dX3_tellAgreeing_21 (fun H locs hP hD hS => ?_)
      refine lv_if_eq (tgt := 31) hx hb dX3_tellAgreeing_24 (by decide) (fun c6 => ?_) (fun c6 => ?_)
      · replace hf := z_ip hf c6
        refine lv_iconst (v := 0) hx hb dX3_tellAgreeing_31 (by decide) ?_
        obtain rfl := Option.some.inj hf
        exact hret _ _ _ _ _ dX3_tellAgreeing_32 rfl hP hD hS
      · replace hf := z_im hf c6
        refine lv_iconst (v := 1) hx hb dX3_tellAgreeing_27 (by decide) ?_
        refine lv_goto (tgt := 32) hx hb dX3_tellAgreeing_28 (by decide) ?_
        obtain rfl := Option.some.inj hf
        exact hret _ _ _ _ _ dX3_tellAgreeing_32 rfl hP hD hS
    · replace hf := z_ip hf c4
      refine lv_iconst (v := (-1)) hx hb dX3_tellAgreeing_16 (by decide) ?_
      obtain rfl := Option.some.inj hf
      exact hret _ _ _ _ _ dX3_tellAgreeing_17 rfl hP hD hS
set_option maxHeartbeats 4000000 in
set_option maxRecDepth 100000 in
theorem k_X3_tellAgreeing (l : Launch) (dC : Nat → ClassId) (dI : Nat → Nat → Nat) (cI cZ cJ cA : ClassId) (h0 : Nat) (a : Nat → Nat) (sz : Nat) (N : Nat) (v1 : Int32) (v2 : Int32) (x7 : Int32) (x8 : Int32) (x12 : Int32) (x13 : Int32) (f0 : (Nat → Int32)) (f1 : (Nat → Int32)) (f2 : (Nat → Int32)) (f3 : (Nat → Int32)) (f4 : (Nat → Int32)) (f5 : (Nat → Int32)) (f6 : (Nat → Int32)) (f9 : (Nat → Int32)) (f10 : (Nat → Int32)) (f11 : (Nat → Int64)) (o : Int32) (hf : q_X3_tellAgreeing N v1 v2 x7 f3 f4 f5 = some o) : Met l yX3_tellAgreeing wsX3_tellAgreeing ({ frames := 3, cells := 0, slots := 0, locals := 69 } : Room) (z_Pre dC dI (z_ty cI cZ cJ cA) [.ref h0, .int v1, .int v2] sz (wX3 cI cZ cJ cA h0 a x7 x8 x12 x13 f0 f1 f2 f3 f4 f5 f6 f9 f10 f11)) (z_Pi dC dI o (wX3 cI cZ cJ cA h0 a x7 x8 x12 x13 f0 f1 f2 f3 f4 f5 f6 f9 f10 f11) sz (wX3 cI cZ cJ cA h0 a x7 x8 x12 x13 f0 f1 f2 f3 f4 f5 f6 f9 f10 f11)) 0 0 (va_A (wX3 cI cZ cJ cA h0 a x7 x8 x12 x13 f0 f1 f2 f3 f4 f5 f6 f9 f10 f11) sz) := by
  refine Met.ofW (cc := cX3_tellAgreeing) (maxL := 3) (ret := (some .int)) (by decide) rfl ?_
  intro p e s m args below meth c s₁ B hml hv
  obtain ⟨rfl, hsz, hP, hK, hD0, hN⟩ := hv
  subst hsz
  have hl := lv_entry ([.ref h0, .int v1, .int v2]) (n := 3) (Nat.le_of_ble_eq_true rfl)
  rw [lg_entry_eq]
  refine b_X3_tellAgreeing N ⟨⟨B.exec, B.bytes, hml, findClass_of_methodNamed B.named, atoms_spec (ws := wsX3_tellAgreeing) B.pre⟩, Nat.le_refl _, Nat.le_refl _, fun q h => Or.inr h, hN, hK⟩ hf hP hD0.self va_S.rf hl (fun pc H locs ls r hd hr hP hD hS => ?_)
  subst hr
  exact W.iret B.exec B.bytes B.returns (fun t ht hW => ⟨⟨_, (), rfl, rfl, by rw [ht]; exact hP, hD⟩, hS.F ht⟩) hS.2.2 hd
def q_X3_findUnlike_L19 (N : Nat) (v1 : Int32) (x7 : Int32) (f3 : (Nat → Int32)) (f4 : (Nat → Int32)) (f5 : (Nat → Int32)) : Nat → Int32 → (Nat → Int32) → Option (Nat → Int32)
  | 0, _, _ => none
  | n + 1, v2, f9 =>
    (if x7 ≤ v2 then
     (some f9)
    else
     (Option.bind (q_X3_isAgreeing N v1 v2 f3 f4 f5) (fun o2 =>
     (if o2 = 0 then
      (if z_in v1 6 then
      (Option.bind (some (((f9 (Int32.toNatClampNeg v1)) ||| ((1 : Int32) <<< (v2 &&& 31))) : Int32)) (fun n5 =>
      (q_X3_findUnlike_L19 N v1 x7 f3 f4 f5 n (v2 + 1) (upd f9 (Int32.toNatClampNeg v1) n5))))
      else none)
     else
      (q_X3_findUnlike_L19 N v1 x7 f3 f4 f5 n (v2 + 1) f9)))))
set_option maxHeartbeats 4000000 in
set_option maxRecDepth 100000 in
theorem b_X3_findUnlike_L19 {p : Program} {l : Launch} {e : Env} {R : Room} {s : State} {m : MethodId} {args : Array Value} {below : List Frame} {meth : Method} {c : Code} {Q : State → Prop} {A : Nat → Prop} {dC : Nat → ClassId} {dI : Nat → Nat → Nat} {cI cZ cJ cA : ClassId} {h0 : Nat} {a : Nat → Nat} (N : Nat) (C0 : z_Cx p s m args c cX3_findUnlike 3 wsX3_findUnlike RX3 R 3 69 A dC dI (z_ty cI cZ cJ cA)) : ∀ (n : Nat) {v1 : Int32} {v2 : Int32} {x7 : Int32} {x8 : Int32} {x12 : Int32} {x13 : Int32} {f0 : (Nat → Int32)} {f1 : (Nat → Int32)} {f2 : (Nat → Int32)} {f3 : (Nat → Int32)} {f4 : (Nat → Int32)} {f5 : (Nat → Int32)} {f6 : (Nat → Int32)} {f9 : (Nat → Int32)} {f10 : (Nat → Int32)} {f11 : (Nat → Int64)} {o : (Nat → Int32)} {H : Heap} {locs : List Loc} {ls : Array Slot}, q_X3_findUnlike_L19 N v1 x7 f3 f4 f5 n v2 f9 = some o → va_P (dC, dI) vwCl (wX3 cI cZ cJ cA h0 a x7 x8 x12 x13 f0 f1 f2 f3 f4 f5 f6 f9 f10 f11) H → va_D A (wX3 cI cZ cJ cA h0 a x7 x8 x12 x13 f0 f1 f2 f3 f4 f5 f6 f9 f10 f11) → va_S A s.heap H locs → lv_has ls 3 [(0, .ref h0), (1, .int v1), (2, .int v2)] →
    (∀ (H : Heap) (locs : List Loc) (ls : Array Slot), va_P (dC, dI) vwCl (wX3 cI cZ cJ cA h0 a x7 x8 x12 x13 f0 f1 f2 f3 f4 f5 f6 o f10 f11) H → va_D A (wX3 cI cZ cJ cA h0 a x7 x8 x12 x13 f0 f1 f2 f3 f4 f5 f6 o f10 f11) → va_S A s.heap H locs → lv_has ls 3 [(0, .ref h0), (1, .int v1)] → W p l e R s m args below meth c H locs 0 0 Q (F0 m 54 ls [])) →
    W p l e R s m args below meth c H locs 0 0 Q (F0 m 19 ls []) := by
  obtain ⟨⟨hx, hb, hml, hown, hts⟩, hRf, hRl, hA, hN, hK⟩ := C0
  intro n
  induction n with
  | zero =>
    intro v1 v2 x7 x8 x12 x13 f0 f1 f2 f3 f4 f5 f6 f9 f10 f11 o H locs ls hf
    cases hf
  | succ n ih =>
    intro v1 v2 x7 x8 x12 x13 f0 f1 f2 f3 f4 f5 f6 f9 f10 f11 o H locs ls hf hP hD hS hl hexit
    rw [q_X3_findUnlike_L19] at hf
    refine lv_iload_n hx hb dX3_findUnlike_19 rfl (lv_at hl 2 rfl) ?_
    refine lv_aload_n hx hb dX3_findUnlike_20 rfl (lv_at hl 0 rfl) ?_
    refine va_get (D := (dC, dI)) (ci := 3) (v := .int x7) (C := RX3) (T := TX3) (N := 14) hx hb hts (fun w hw => List.mem_cons_of_mem _ (List.mem_append_right _ hw)) hown hK hP 0 rfl rfl 7 (by decide) (hts (.fieldLink RX3 33 "OldStadium$Quarry" "stones" "I") (List.mem_of_getElem? (i := 1) rfl)) (fun _ h9 => h9) rfl dX3_findUnlike_21 ?_
    refine lv_icmp_ge (tgt := 54) hx hb dX3_findUnlike_24 (by decide) (fun c1 => ?_) (fun c1 => ?_)
    · replace hf := z_ip hf c1
      obtain rfl := Option.some.inj hf
      exact hexit _ _ _ hP hD hS (lv_sub hl [0, 1] rfl)
    · replace hf := z_im hf c1
      refine lv_aload_n hx hb dX3_findUnlike_27 rfl (lv_at hl 0 rfl) ?_
      refine lv_iload_n hx hb dX3_findUnlike_28 rfl (lv_at hl 1 rfl) ?_
      refine lv_iload_n hx hb dX3_findUnlike_29 rfl (lv_at hl 2 rfl) ?_
      obtain ⟨o2, ho2, hf1⟩ := z_ib hf
      replace hf := hf1
      clear hf1
      refine z_Vi (As := [.int v1, .int v2]) (rest := []) (w := (wX3 cI cZ cJ cA h0 a x7 x8 x12 x13 f0 f1 f2 f3 f4 f5 f6 f9 f10 f11)) (w1 := (wX3 cI cZ cJ cA h0 a x7 x8 x12 x13 f0 f1 f2 f3 f4 f5 f6 f9 f10 f11)) ⟨hx, hb, hml, hown, hts⟩ (k_X3_isAgreeing l dC dI cI cZ cJ cA h0 a H.size N v1 v2 x7 x8 x12 x13 f0 f1 f2 f3 f4 f5 f6 f9 f10 f11 o2 ho2) (cwV 2 hts gX3_findUnlike_X3_isAgreeing rfl rfl rfl (by decide +kernel) ⟨Nat.le_trans (Nat.le_of_ble_eq_true rfl) hRf, Nat.le_trans (Nat.le_of_ble_eq_true rfl) hRl⟩) hK hP hD hS hA hN (ci := 3) rfl rfl rfl rfl hl.1 rfl (Nat.le_of_ble_eq_true rfl) dX3_findUnlike_30 (fun H locs hP hD hS => ?_)
      refine lv_if_ne (tgt := 48) hx hb dX3_findUnlike_33 (by decide) (fun c3 => ?_) (fun c3 => ?_)
      · replace hf := z_im hf c3
        refine lv_iinc (v := (v2 + 1)) (lv' := [(2, .int (v2 + 1)), (0, .ref h0), (1, .int v1)]) hx hb dX3_findUnlike_48 hl (k := 2) rfl rfl (by decide) rfl (fun ls hl => ?_)
        refine lv_goto (tgt := 19) hx hb dX3_findUnlike_51 (by decide) ?_
        exact ih hf hP hD hS (lv_sub hl [1, 2, 0] rfl) hexit
      · replace hf := z_ip hf c3
        refine lv_aload_n hx hb dX3_findUnlike_36 rfl (lv_at hl 0 rfl) ?_
        refine va_get (D := (dC, dI)) (ci := 3) (v := .ref (a 9)) (C := RX3) (T := TX3) (N := 14) hx hb hts (fun w hw => List.mem_cons_of_mem _ (List.mem_append_right _ hw)) hown hK hP 0 rfl rfl 9 (by decide) (hts (.fieldLink RX3 40 "OldStadium$Quarry" "unlike" "[I") (List.mem_of_getElem? (i := 2) rfl)) (fun _ h9 => h9) rfl dX3_findUnlike_37 ?_
        refine lv_iload_n hx hb dX3_findUnlike_40 rfl (lv_at hl 1 rfl) ?_
        refine lv_dup2_11 hx hb dX3_findUnlike_41 rfl rfl ?_
        have b4 := z_c1 hf
        replace hf := z_c2 hf
        refine va_iald hx hb hK hP 8 0 rfl rfl b4 dX3_findUnlike_42 ?_
        refine lv_iconst (v := 1) hx hb dX3_findUnlike_43 (by decide) ?_
        refine lv_iload_n hx hb dX3_findUnlike_44 rfl (lv_at hl 2 rfl) ?_
        refine lv_ishl hx hb dX3_findUnlike_45 ?_
        refine lv_ior hx hb dX3_findUnlike_46 ?_
        obtain ⟨n5, hn5, hf1⟩ := z_ib hf
        replace hf := hf1
        clear hf1
        refine lv_topi (fun y9 ey9 => ?_)
        obtain rfl : n5 = y9 := (Option.some.inj hn5).symm.trans ey9.symm
        refine va_iast hx hb hK hP hD hS 8 0 rfl rfl b4 dX3_findUnlike_47 (fun H locs hP hD hS => ?_)
        replace hP : va_P (dC, dI) vwCl (wX3 cI cZ cJ cA h0 a x7 x8 x12 x13 f0 f1 f2 f3 f4 f5 f6 (upd f9 (Int32.toNatClampNeg v1) n5) f10 f11) H := hP
        replace hD : va_D A (wX3 cI cZ cJ cA h0 a x7 x8 x12 x13 f0 f1 f2 f3 f4 f5 f6 (upd f9 (Int32.toNatClampNeg v1) n5) f10 f11) := hD
        refine lv_iinc (v := (v2 + 1)) (lv' := [(2, .int (v2 + 1)), (0, .ref h0), (1, .int v1)]) hx hb dX3_findUnlike_48 hl (k := 2) rfl rfl (by decide) rfl (fun ls hl => ?_)
        refine lv_goto (tgt := 19) hx hb dX3_findUnlike_51 (by decide) ?_
        exact ih hf hP hD hS (lv_sub hl [1, 2, 0] rfl) hexit
def q_X3_findUnlike_L2 (N : Nat) (x7 : Int32) (f3 : (Nat → Int32)) (f4 : (Nat → Int32)) (f5 : (Nat → Int32)) : Nat → Int32 → (Nat → Int32) → Option (Nat → Int32)
  | 0, _, _ => none
  | n + 1, v1, f9 =>
    (if x7 ≤ v1 then
     (some f9)
    else
     (if z_in v1 6 then
     (Option.bind (q_X3_findUnlike_L19 N v1 x7 f3 f4 f5 N 0 (upd f9 (Int32.toNatClampNeg v1) 0)) (fun t3 =>
     (q_X3_findUnlike_L2 N x7 f3 f4 f5 n (v1 + 1) t3)))
     else none))
set_option maxHeartbeats 4000000 in
set_option maxRecDepth 100000 in
theorem b_X3_findUnlike_L2 {p : Program} {l : Launch} {e : Env} {R : Room} {s : State} {m : MethodId} {args : Array Value} {below : List Frame} {meth : Method} {c : Code} {Q : State → Prop} {A : Nat → Prop} {dC : Nat → ClassId} {dI : Nat → Nat → Nat} {cI cZ cJ cA : ClassId} {h0 : Nat} {a : Nat → Nat} (N : Nat) (C0 : z_Cx p s m args c cX3_findUnlike 3 wsX3_findUnlike RX3 R 3 69 A dC dI (z_ty cI cZ cJ cA)) : ∀ (n : Nat) {v1 : Int32} {x7 : Int32} {x8 : Int32} {x12 : Int32} {x13 : Int32} {f0 : (Nat → Int32)} {f1 : (Nat → Int32)} {f2 : (Nat → Int32)} {f3 : (Nat → Int32)} {f4 : (Nat → Int32)} {f5 : (Nat → Int32)} {f6 : (Nat → Int32)} {f9 : (Nat → Int32)} {f10 : (Nat → Int32)} {f11 : (Nat → Int64)} {o : (Nat → Int32)} {H : Heap} {locs : List Loc} {ls : Array Slot}, q_X3_findUnlike_L2 N x7 f3 f4 f5 n v1 f9 = some o → va_P (dC, dI) vwCl (wX3 cI cZ cJ cA h0 a x7 x8 x12 x13 f0 f1 f2 f3 f4 f5 f6 f9 f10 f11) H → va_D A (wX3 cI cZ cJ cA h0 a x7 x8 x12 x13 f0 f1 f2 f3 f4 f5 f6 f9 f10 f11) → va_S A s.heap H locs → lv_has ls 3 [(0, .ref h0), (1, .int v1)] →
    (∀ (H : Heap) (locs : List Loc) (ls : Array Slot), va_P (dC, dI) vwCl (wX3 cI cZ cJ cA h0 a x7 x8 x12 x13 f0 f1 f2 f3 f4 f5 f6 o f10 f11) H → va_D A (wX3 cI cZ cJ cA h0 a x7 x8 x12 x13 f0 f1 f2 f3 f4 f5 f6 o f10 f11) → va_S A s.heap H locs → lv_has ls 3 [] → W p l e R s m args below meth c H locs 0 0 Q (F0 m 60 ls [])) →
    W p l e R s m args below meth c H locs 0 0 Q (F0 m 2 ls []) := by
  obtain ⟨⟨hx, hb, hml, hown, hts⟩, hRf, hRl, hA, hN, hK⟩ := C0
  intro n
  induction n with
  | zero =>
    intro v1 x7 x8 x12 x13 f0 f1 f2 f3 f4 f5 f6 f9 f10 f11 o H locs ls hf
    cases hf
  | succ n ih =>
    intro v1 x7 x8 x12 x13 f0 f1 f2 f3 f4 f5 f6 f9 f10 f11 o H locs ls hf hP hD hS hl hexit
    rw [q_X3_findUnlike_L2] at hf
    refine lv_iload_n hx hb dX3_findUnlike_2 rfl (lv_at hl 1 rfl) ?_
    refine lv_aload_n hx hb dX3_findUnlike_3 rfl (lv_at hl 0 rfl) ?_
    refine va_get (D := (dC, dI)) (ci := 3) (v := .int x7) (C := RX3) (T := TX3) (N := 14) hx hb hts (fun w hw => List.mem_cons_of_mem _ (List.mem_append_right _ hw)) hown hK hP 0 rfl rfl 7 (by decide) (hts (.fieldLink RX3 33 "OldStadium$Quarry" "stones" "I") (List.mem_of_getElem? (i := 1) rfl)) (fun _ h9 => h9) rfl dX3_findUnlike_4 ?_
    refine lv_icmp_ge (tgt := 60) hx hb dX3_findUnlike_7 (by decide) (fun c1 => ?_) (fun c1 => ?_)
    · replace hf := z_ip hf c1
      obtain rfl := Option.some.inj hf
      exact hexit _ _ _ hP hD hS (lv_sub hl [] rfl)
    · replace hf := z_im hf c1
      refine lv_aload_n hx hb dX3_findUnlike_10 rfl (lv_at hl 0 rfl) ?_
      refine va_get (D := (dC, dI)) (ci := 3) (v := .ref (a 9)) (C := RX3) (T := TX3) (N := 14) hx hb hts (fun w hw => List.mem_cons_of_mem _ (List.mem_append_right _ hw)) hown hK hP 0 rfl rfl 9 (by decide) (hts (.fieldLink RX3 40 "OldStadium$Quarry" "unlike" "[I") (List.mem_of_getElem? (i := 2) rfl)) (fun _ h9 => h9) rfl dX3_findUnlike_11 ?_
      refine lv_iload_n hx hb dX3_findUnlike_14 rfl (lv_at hl 1 rfl) ?_
      refine lv_iconst (v := 0) hx hb dX3_findUnlike_15 (by decide) ?_
      have b2 := z_c1 hf
      replace hf := z_c2 hf
      refine va_iast hx hb hK hP hD hS 8 0 rfl rfl b2 dX3_findUnlike_16 (fun H locs hP hD hS => ?_)
      replace hP : va_P (dC, dI) vwCl (wX3 cI cZ cJ cA h0 a x7 x8 x12 x13 f0 f1 f2 f3 f4 f5 f6 (upd f9 (Int32.toNatClampNeg v1) 0) f10 f11) H := hP
      replace hD : va_D A (wX3 cI cZ cJ cA h0 a x7 x8 x12 x13 f0 f1 f2 f3 f4 f5 f6 (upd f9 (Int32.toNatClampNeg v1) 0) f10 f11) := hD
      refine lv_iconst (v := 0) hx hb dX3_findUnlike_17 (by decide) ?_
      refine lv_istore_n (lv' := [(2, .int 0), (0, .ref h0), (1, .int v1)]) hx hb dX3_findUnlike_18 rfl hl (by decide) rfl (fun ls hl => ?_)
      obtain ⟨t3, ht3, hf1⟩ := z_ib hf
      replace hf := hf1
      clear hf1
      refine b_X3_findUnlike_L19 N ⟨⟨hx, hb, hml, hown, hts⟩, hRf, hRl, hA, hN, hK⟩ N ht3 hP hD hS (lv_sub hl [1, 2, 0] rfl) (fun H locs ls hP hD hS hl => ?_)
      refine lv_iinc (v := (v1 + 1)) (lv' := [(1, .int (v1 + 1)), (0, .ref h0)]) hx hb dX3_findUnlike_54 hl (k := 1) rfl rfl (by decide) rfl (fun ls hl => ?_)
      refine lv_goto (tgt := 2) hx hb dX3_findUnlike_57 (by decide) ?_
      exact ih hf hP hD hS (lv_sub hl [1, 0] rfl) hexit
def q_X3_findUnlike (N : Nat) (x7 : Int32) (f3 : (Nat → Int32)) (f4 : (Nat → Int32)) (f5 : (Nat → Int32)) (f9 : (Nat → Int32)) : Option (Nat → Int32) :=
  (Option.bind (q_X3_findUnlike_L2 N x7 f3 f4 f5 N 0 f9) (fun t1 =>
  (some t1)))
set_option maxHeartbeats 4000000 in
set_option maxRecDepth 100000 in
theorem b_X3_findUnlike {p : Program} {l : Launch} {e : Env} {R : Room} {s : State} {m : MethodId} {args : Array Value} {below : List Frame} {meth : Method} {c : Code} {Q : State → Prop} {A : Nat → Prop} {dC : Nat → ClassId} {dI : Nat → Nat → Nat} {cI cZ cJ cA : ClassId} {h0 : Nat} {a : Nat → Nat} (N : Nat) (C0 : z_Cx p s m args c cX3_findUnlike 3 wsX3_findUnlike RX3 R 3 69 A dC dI (z_ty cI cZ cJ cA)) {x7 : Int32} {x8 : Int32} {x12 : Int32} {x13 : Int32} {f0 : (Nat → Int32)} {f1 : (Nat → Int32)} {f2 : (Nat → Int32)} {f3 : (Nat → Int32)} {f4 : (Nat → Int32)} {f5 : (Nat → Int32)} {f6 : (Nat → Int32)} {f9 : (Nat → Int32)} {f10 : (Nat → Int32)} {f11 : (Nat → Int64)} {o : (Nat → Int32)} {H : Heap} {locs : List Loc} {ls : Array Slot} (hf : q_X3_findUnlike N x7 f3 f4 f5 f9 = some o) (hP : va_P (dC, dI) vwCl (wX3 cI cZ cJ cA h0 a x7 x8 x12 x13 f0 f1 f2 f3 f4 f5 f6 f9 f10 f11) H) (hD : va_D A (wX3 cI cZ cJ cA h0 a x7 x8 x12 x13 f0 f1 f2 f3 f4 f5 f6 f9 f10 f11)) (hS : va_S A s.heap H locs) (hl : lv_has ls 3 [(0, .ref h0)])
    (hret : ∀ (pc : Nat) (H : Heap) (locs : List Loc) (ls : Array Slot), decode cX3_findUnlike pc = .ok (.return_, 1) → va_P (dC, dI) vwCl (wX3 cI cZ cJ cA h0 a x7 x8 x12 x13 f0 f1 f2 f3 f4 f5 f6 o f10 f11) H → va_D A (wX3 cI cZ cJ cA h0 a x7 x8 x12 x13 f0 f1 f2 f3 f4 f5 f6 o f10 f11) → va_S A s.heap H locs → W p l e R s m args below meth c H locs 0 0 Q (F0 m pc ls [])) :
    W p l e R s m args below meth c H locs 0 0 Q (F0 m 0 ls []) := by
  obtain ⟨⟨hx, hb, hml, hown, hts⟩, hRf, hRl, hA, hN, hK⟩ := C0
  unfold q_X3_findUnlike at hf
  refine lv_iconst (v := 0) hx hb dX3_findUnlike_0 (by decide) ?_
  refine lv_istore_n (lv' := [(1, .int 0), (0, .ref h0)]) hx hb dX3_findUnlike_1 rfl hl (by decide) rfl (fun ls hl => ?_)
  obtain ⟨t1, ht1, hf1⟩ := z_ib hf
  replace hf := hf1
  clear hf1
  refine b_X3_findUnlike_L2 N ⟨⟨hx, hb, hml, hown, hts⟩, hRf, hRl, hA, hN, hK⟩ N ht1 hP hD hS (lv_sub hl [1, 0] rfl) (fun H locs ls hP hD hS hl => ?_)
  obtain rfl := Option.some.inj hf
  exact hret _ _ _ _ dX3_findUnlike_60 hP hD hS
set_option maxHeartbeats 4000000 in
set_option maxRecDepth 100000 in
theorem k_X3_findUnlike (l : Launch) (dC : Nat → ClassId) (dI : Nat → Nat → Nat) (cI cZ cJ cA : ClassId) (h0 : Nat) (a : Nat → Nat) (sz : Nat) (N : Nat) (x7 : Int32) (x8 : Int32) (x12 : Int32) (x13 : Int32) (f0 : (Nat → Int32)) (f1 : (Nat → Int32)) (f2 : (Nat → Int32)) (f3 : (Nat → Int32)) (f4 : (Nat → Int32)) (f5 : (Nat → Int32)) (f6 : (Nat → Int32)) (f9 : (Nat → Int32)) (f10 : (Nat → Int32)) (f11 : (Nat → Int64)) (o : (Nat → Int32)) (hf : q_X3_findUnlike N x7 f3 f4 f5 f9 = some o) : Met l yX3_findUnlike wsX3_findUnlike ({ frames := 3, cells := 0, slots := 0, locals := 69 } : Room) (z_Pre dC dI (z_ty cI cZ cJ cA) [.ref h0] sz (wX3 cI cZ cJ cA h0 a x7 x8 x12 x13 f0 f1 f2 f3 f4 f5 f6 f9 f10 f11)) (z_Pv dC dI (wX3 cI cZ cJ cA h0 a x7 x8 x12 x13 f0 f1 f2 f3 f4 f5 f6 o f10 f11) sz (wX3 cI cZ cJ cA h0 a x7 x8 x12 x13 f0 f1 f2 f3 f4 f5 f6 f9 f10 f11)) 0 0 (va_A (wX3 cI cZ cJ cA h0 a x7 x8 x12 x13 f0 f1 f2 f3 f4 f5 f6 f9 f10 f11) sz) := by
  refine Met.ofW (cc := cX3_findUnlike) (maxL := 3) (ret := none) (by decide) rfl ?_
  intro p e s m args below meth c s₁ B hml hv
  obtain ⟨rfl, hsz, hP, hK, hD0, hN⟩ := hv
  subst hsz
  have hl := lv_entry ([.ref h0]) (n := 3) (Nat.le_of_ble_eq_true rfl)
  rw [lg_entry_eq]
  refine b_X3_findUnlike N ⟨⟨B.exec, B.bytes, hml, findClass_of_methodNamed B.named, atoms_spec (ws := wsX3_findUnlike) B.pre⟩, Nat.le_refl _, Nat.le_refl _, fun q h => Or.inr h, hN, hK⟩ hf hP hD0.self va_S.rf hl (fun pc H locs ls hd hP hD hS => ?_)
  exact W.vret B.exec B.bytes B.returns (fun t ht hW => ⟨⟨(), rfl, trivial, by rw [ht]; exact hP, hD⟩, hS.F ht⟩) hS.2.2 hd
def q_X3_goTogether (N : Nat) (v1 : Int32) (v2 : Int32) (x8 : Int32) (f0 : (Nat → Int32)) (f6 : (Nat → Int32)) (f9 : (Nat → Int32)) (f10 : (Nat → Int32)) : Option Int32 :=
  (if z_in v1 6 then
  (Option.bind (q_X4_hasBit N (f9 (Int32.toNatClampNeg v1)) v2) (fun o2 =>
  (if o2 = 0 then
   (Option.bind (q_X4_hasBit N (f6 (Int32.toNatClampNeg v1)) v2) (fun o9 =>
   (if o9 = 0 then
    (some 1)
   else
    (if z_in v2 6 then
    (if (z_abs ((f10 (Int32.toNatClampNeg v1)) - (f10 (Int32.toNatClampNeg v2)))) ≤ x8 then
     (some 1)
    else
     (some 0))
    else none))))
  else
   (Option.bind (q_X4_hasBit N (f6 (Int32.toNatClampNeg v1)) v2) (fun o4 =>
   (if o4 = 0 then
    (if z_in v2 6 then
    (if (f0 (Int32.toNatClampNeg v1)) = (f0 (Int32.toNatClampNeg v2)) then
     (if (f10 (Int32.toNatClampNeg v1)) = (f10 (Int32.toNatClampNeg v2)) then
      (some 0)
     else
      (some 1))
    else
     (some 1))
    else none)
   else
    (some 0)))))))
  else none)
set_option maxHeartbeats 4000000 in
set_option maxRecDepth 100000 in
theorem b_X3_goTogether {p : Program} {l : Launch} {e : Env} {R : Room} {s : State} {m : MethodId} {args : Array Value} {below : List Frame} {meth : Method} {c : Code} {Q : State → Prop} {A : Nat → Prop} {dC : Nat → ClassId} {dI : Nat → Nat → Nat} {cI cZ cJ cA : ClassId} {h0 : Nat} {a : Nat → Nat} (N : Nat) (C0 : z_Cx p s m args c cX3_goTogether 4 wsX3_goTogether RX3 R 1 21 A dC dI (z_ty cI cZ cJ cA)) {v1 : Int32} {v2 : Int32} {x7 : Int32} {x8 : Int32} {x12 : Int32} {x13 : Int32} {f0 : (Nat → Int32)} {f1 : (Nat → Int32)} {f2 : (Nat → Int32)} {f3 : (Nat → Int32)} {f4 : (Nat → Int32)} {f5 : (Nat → Int32)} {f6 : (Nat → Int32)} {f9 : (Nat → Int32)} {f10 : (Nat → Int32)} {f11 : (Nat → Int64)} {o : Int32} {H : Heap} {locs : List Loc} {ls : Array Slot} (hf : q_X3_goTogether N v1 v2 x8 f0 f6 f9 f10 = some o) (hP : va_P (dC, dI) vwCl (wX3 cI cZ cJ cA h0 a x7 x8 x12 x13 f0 f1 f2 f3 f4 f5 f6 f9 f10 f11) H) (hD : va_D A (wX3 cI cZ cJ cA h0 a x7 x8 x12 x13 f0 f1 f2 f3 f4 f5 f6 f9 f10 f11)) (hS : va_S A s.heap H locs) (hl : lv_has ls 4 [(0, .ref h0), (1, .int v1), (2, .int v2)])
    (hret : ∀ (pc : Nat) (H : Heap) (locs : List Loc) (ls : Array Slot) (r : Int32), decode cX3_goTogether pc = .ok (.ireturn, 1) → r = o → narrow .boolean (.int r) = .int r → va_P (dC, dI) vwCl (wX3 cI cZ cJ cA h0 a x7 x8 x12 x13 f0 f1 f2 f3 f4 f5 f6 f9 f10 f11) H → va_D A (wX3 cI cZ cJ cA h0 a x7 x8 x12 x13 f0 f1 f2 f3 f4 f5 f6 f9 f10 f11) → va_S A s.heap H locs → W p l e R s m args below meth c H locs 0 0 Q (F0 m pc ls [.int r])) :
    W p l e R s m args below meth c H locs 0 0 Q (F0 m 0 ls []) := by
  obtain ⟨⟨hx, hb, hml, hown, hts⟩, hRf, hRl, hA, hN, hK⟩ := C0
  unfold q_X3_goTogether at hf
  refine lv_aload_n hx hb dX3_goTogether_0 rfl (lv_at hl 0 rfl) ?_
  refine va_get (D := (dC, dI)) (ci := 3) (v := .ref (a 9)) (C := RX3) (T := TX3) (N := 14) hx hb hts (fun w hw => List.mem_cons_of_mem _ (List.mem_append_right _ hw)) hown hK hP 0 rfl rfl 9 (by decide) (hts (.fieldLink RX3 40 "OldStadium$Quarry" "unlike" "[I") (List.mem_of_getElem? (i := 1) rfl)) (fun _ h9 => h9) rfl dX3_goTogether_1 ?_
  refine lv_iload_n hx hb dX3_goTogether_4 rfl (lv_at hl 1 rfl) ?_
  have b1 := z_c1 hf
  replace hf := z_c2 hf
  refine va_iald hx hb hK hP 8 0 rfl rfl b1 dX3_goTogether_5 ?_
  refine lv_iload_n hx hb dX3_goTogether_6 rfl (lv_at hl 2 rfl) ?_
  obtain ⟨o2, ho2, hf1⟩ := z_ib hf
  replace hf := hf1
  clear hf1
  refine z_SN0 (As := [.int (f9 (Int32.toNatClampNeg v1)), .int v2]) (rest := []) ⟨hx, hb, hml, hown, hts⟩ (k_X4_hasBit l dC dI cI cZ cJ cA H.size N (f9 (Int32.toNatClampNeg v1)) v2 o2 ho2) ⟨va_cnB 2 hts gX3_goTogether_X4_hasBit_n86 rfl rfl rfl (hN _ (List.mem_of_getElem? (i := 9) rfl)) (hts (.initialized RX4) (List.mem_of_getElem? (i := 11) rfl)) (by decide +kernel) ⟨Nat.le_trans (Nat.le_of_ble_eq_true rfl) hRf, Nat.le_trans (Nat.le_of_ble_eq_true rfl) hRl⟩, (hts (.static yX4_hasBit) (List.mem_of_getElem? (i := 10) rfl)), trivial⟩ hK hP hS hA hN rfl hl.1 rfl (Nat.le_of_ble_eq_true rfl) dX3_goTogether_7 (fun H locs hP hS => ?_)
  refine lv_if_ne (tgt := 17) hx hb dX3_goTogether_10 (by decide) (fun c3 => ?_) (fun c3 => ?_)
  · replace hf := z_im hf c3
    refine lv_iconst (v := 0) hx hb dX3_goTogether_17 (by decide) ?_
    refine lv_istore_n (lv' := [(3, .int 0), (0, .ref h0), (1, .int v1), (2, .int v2)]) hx hb dX3_goTogether_18 rfl hl (by decide) rfl (fun ls hl => ?_)
    refine lv_aload_n hx hb dX3_goTogether_19 rfl (lv_at hl 1 rfl) ?_
    refine va_get (D := (dC, dI)) (ci := 3) (v := .ref (a 6)) (C := RX3) (T := TX3) (N := 14) hx hb hts (fun w hw => List.mem_cons_of_mem _ (List.mem_append_right _ hw)) hown hK hP 0 rfl rfl 6 (by decide) (hts (.fieldLink RX3 30 "OldStadium$Quarry" "joined" "[I") (List.mem_of_getElem? (i := 2) rfl)) (fun _ h9 => h9) rfl dX3_goTogether_20 ?_
    refine lv_iload_n hx hb dX3_goTogether_23 rfl (lv_at hl 2 rfl) ?_
    refine va_iald hx hb hK hP 7 0 rfl rfl b1 dX3_goTogether_24 ?_
    refine lv_iload_n hx hb dX3_goTogether_25 rfl (lv_at hl 3 rfl) ?_
    obtain ⟨o4, ho4, hf1⟩ := z_ib hf
    replace hf := hf1
    clear hf1
    refine z_SN0 (As := [.int (f6 (Int32.toNatClampNeg v1)), .int v2]) (rest := []) ⟨hx, hb, hml, hown, hts⟩ (k_X4_hasBit l dC dI cI cZ cJ cA H.size N (f6 (Int32.toNatClampNeg v1)) v2 o4 ho4) ⟨va_cnB 2 hts gX3_goTogether_X4_hasBit_n86 rfl rfl rfl (hN _ (List.mem_of_getElem? (i := 9) rfl)) (hts (.initialized RX4) (List.mem_of_getElem? (i := 11) rfl)) (by decide +kernel) ⟨Nat.le_trans (Nat.le_of_ble_eq_true rfl) hRf, Nat.le_trans (Nat.le_of_ble_eq_true rfl) hRl⟩, (hts (.static yX4_hasBit) (List.mem_of_getElem? (i := 10) rfl)), trivial⟩ hK hP hS hA hN rfl hl.1 rfl (Nat.le_of_ble_eq_true rfl) dX3_goTogether_26 (fun H locs hP hS => ?_)
    refine lv_if_eq (tgt := 61) hx hb dX3_goTogether_29 (by decide) (fun c5 => ?_) (fun c5 => ?_)
    · replace hf := z_ip hf c5
      refine lv_iload_n hx hb dX3_goTogether_61 rfl (lv_at hl 0 rfl) ?_
      refine lv_if_ne (tgt := 95) hx hb dX3_goTogether_62 (by decide) (fun c0 => absurd c0 (by decide)) (fun _ => ?_)
      refine lv_aload_n hx hb dX3_goTogether_65 rfl (lv_at hl 1 rfl) ?_
      refine va_get (D := (dC, dI)) (ci := 3) (v := .ref (a 0)) (C := RX3) (T := TX3) (N := 14) hx hb hts (fun w hw => List.mem_cons_of_mem _ (List.mem_append_right _ hw)) hown hK hP 0 rfl rfl 0 (by decide) (hts (.fieldLink RX3 11 "OldStadium$Quarry" "event" "[I") (List.mem_of_getElem? (i := 9) rfl)) (fun _ h9 => h9) rfl dX3_goTogether_66 ?_
      refine lv_iload_n hx hb dX3_goTogether_69 rfl (lv_at hl 2 rfl) ?_
      refine va_iald hx hb hK hP 1 0 rfl rfl b1 dX3_goTogether_70 ?_
      refine lv_aload_n hx hb dX3_goTogether_71 rfl (lv_at hl 1 rfl) ?_
      refine va_get (D := (dC, dI)) (ci := 3) (v := .ref (a 0)) (C := RX3) (T := TX3) (N := 14) hx hb hts (fun w hw => List.mem_cons_of_mem _ (List.mem_append_right _ hw)) hown hK hP 0 rfl rfl 0 (by decide) (hts (.fieldLink RX3 11 "OldStadium$Quarry" "event" "[I") (List.mem_of_getElem? (i := 9) rfl)) (fun _ h9 => h9) rfl dX3_goTogether_72 ?_
      refine lv_iload_n hx hb dX3_goTogether_75 rfl (lv_at hl 3 rfl) ?_
      have b6 := z_c1 hf
      replace hf := z_c2 hf
      refine va_iald hx hb hK hP 1 0 rfl rfl b6 dX3_goTogether_76 ?_
      refine lv_icmp_ne (tgt := 95) hx hb dX3_goTogether_77 (by decide) (fun c7 => ?_) (fun c7 => ?_)
      · replace hf := z_im hf c7
        refine lv_iconst (v := 1) hx hb dX3_goTogether_95 (by decide) ?_
        refine lv_goto (tgt := 100) hx hb dX3_goTogether_96 (by decide) ?_
        obtain rfl := Option.some.inj hf
        exact hret _ _ _ _ _ dX3_goTogether_100 rfl rfl hP hD hS
      · replace hf := z_ip hf c7
        refine lv_aload_n hx hb dX3_goTogether_80 rfl (lv_at hl 1 rfl) ?_
        refine va_get (D := (dC, dI)) (ci := 3) (v := .ref (a 10)) (C := RX3) (T := TX3) (N := 14) hx hb hts (fun w hw => List.mem_cons_of_mem _ (List.mem_append_right _ hw)) hown hK hP 0 rfl rfl 10 (by decide) (hts (.fieldLink RX3 43 "OldStadium$Quarry" "yea\x72" "[I") (List.mem_of_getElem? (i := 3) rfl)) (fun _ h9 => h9) rfl dX3_goTogether_81 ?_
        refine lv_iload_n hx hb dX3_goTogether_84 rfl (lv_at hl 2 rfl) ?_
        refine va_iald hx hb hK hP 9 0 rfl rfl b1 dX3_goTogether_85 ?_
        refine lv_aload_n hx hb dX3_goTogether_86 rfl (lv_at hl 1 rfl) ?_
        refine va_get (D := (dC, dI)) (ci := 3) (v := .ref (a 10)) (C := RX3) (T := TX3) (N := 14) hx hb hts (fun w hw => List.mem_cons_of_mem _ (List.mem_append_right _ hw)) hown hK hP 0 rfl rfl 10 (by decide) (hts (.fieldLink RX3 43 "OldStadium$Quarry" "yea\x72" "[I") (List.mem_of_getElem? (i := 3) rfl)) (fun _ h9 => h9) rfl dX3_goTogether_87 ?_
        refine lv_iload_n hx hb dX3_goTogether_90 rfl (lv_at hl 3 rfl) ?_
        refine va_iald hx hb hK hP 9 0 rfl rfl b6 dX3_goTogether_91 ?_
        refine lv_icmp_eq (tgt := 99) hx hb dX3_goTogether_92 (by decide) (fun c8 => ?_) (fun c8 => ?_)
        · replace hf := z_ip hf c8
          refine lv_iconst (v := 0) hx hb dX3_goTogether_99 (by decide) ?_
          obtain rfl := Option.some.inj hf
          exact hret _ _ _ _ _ dX3_goTogether_100 rfl rfl hP hD hS
        · replace hf := z_im hf c8
          refine lv_iconst (v := 1) hx hb dX3_goTogether_95 (by decide) ?_
          refine lv_goto (tgt := 100) hx hb dX3_goTogether_96 (by decide) ?_
          obtain rfl := Option.some.inj hf
          exact hret _ _ _ _ _ dX3_goTogether_100 rfl rfl hP hD hS
    · replace hf := z_im hf c5
      refine lv_iload_n hx hb dX3_goTogether_32 rfl (lv_at hl 0 rfl) ?_
      refine lv_if_eq (tgt := 59) hx hb dX3_goTogether_33 (by decide) (fun _ => ?_) (fun c0 => absurd c0 (by decide))
      refine lv_iconst (v := 0) hx hb dX3_goTogether_59 (by decide) ?_
      obtain rfl := Option.some.inj hf
      exact hret _ _ _ _ _ dX3_goTogether_60 rfl rfl hP hD hS
  · replace hf := z_ip hf c3
    refine lv_iconst (v := 1) hx hb dX3_goTogether_13 (by decide) ?_
    refine lv_goto (tgt := 18) hx hb dX3_goTogether_14 (by decide) ?_
    refine lv_istore_n (lv' := [(3, .int 1), (0, .ref h0), (1, .int v1), (2, .int v2)]) hx hb dX3_goTogether_18 rfl hl (by decide) rfl (fun ls hl => ?_)
    refine lv_aload_n hx hb dX3_goTogether_19 rfl (lv_at hl 1 rfl) ?_
    refine va_get (D := (dC, dI)) (ci := 3) (v := .ref (a 6)) (C := RX3) (T := TX3) (N := 14) hx hb hts (fun w hw => List.mem_cons_of_mem _ (List.mem_append_right _ hw)) hown hK hP 0 rfl rfl 6 (by decide) (hts (.fieldLink RX3 30 "OldStadium$Quarry" "joined" "[I") (List.mem_of_getElem? (i := 2) rfl)) (fun _ h9 => h9) rfl dX3_goTogether_20 ?_
    refine lv_iload_n hx hb dX3_goTogether_23 rfl (lv_at hl 2 rfl) ?_
    refine va_iald hx hb hK hP 7 0 rfl rfl b1 dX3_goTogether_24 ?_
    refine lv_iload_n hx hb dX3_goTogether_25 rfl (lv_at hl 3 rfl) ?_
    obtain ⟨o9, ho9, hf1⟩ := z_ib hf
    replace hf := hf1
    clear hf1
    refine z_SN0 (As := [.int (f6 (Int32.toNatClampNeg v1)), .int v2]) (rest := []) ⟨hx, hb, hml, hown, hts⟩ (k_X4_hasBit l dC dI cI cZ cJ cA H.size N (f6 (Int32.toNatClampNeg v1)) v2 o9 ho9) ⟨va_cnB 2 hts gX3_goTogether_X4_hasBit_n86 rfl rfl rfl (hN _ (List.mem_of_getElem? (i := 9) rfl)) (hts (.initialized RX4) (List.mem_of_getElem? (i := 11) rfl)) (by decide +kernel) ⟨Nat.le_trans (Nat.le_of_ble_eq_true rfl) hRf, Nat.le_trans (Nat.le_of_ble_eq_true rfl) hRl⟩, (hts (.static yX4_hasBit) (List.mem_of_getElem? (i := 10) rfl)), trivial⟩ hK hP hS hA hN rfl hl.1 rfl (Nat.le_of_ble_eq_true rfl) dX3_goTogether_26 (fun H locs hP hS => ?_)
    refine lv_if_eq (tgt := 61) hx hb dX3_goTogether_29 (by decide) (fun c10 => ?_) (fun c10 => ?_)
    · replace hf := z_ip hf c10
      refine lv_iload_n hx hb dX3_goTogether_61 rfl (lv_at hl 0 rfl) ?_
      refine lv_if_ne (tgt := 95) hx hb dX3_goTogether_62 (by decide) (fun _ => ?_) (fun c0 => absurd c0 (by decide))
      refine lv_iconst (v := 1) hx hb dX3_goTogether_95 (by decide) ?_
      refine lv_goto (tgt := 100) hx hb dX3_goTogether_96 (by decide) ?_
      obtain rfl := Option.some.inj hf
      exact hret _ _ _ _ _ dX3_goTogether_100 rfl rfl hP hD hS
    · replace hf := z_im hf c10
      refine lv_iload_n hx hb dX3_goTogether_32 rfl (lv_at hl 0 rfl) ?_
      refine lv_if_eq (tgt := 59) hx hb dX3_goTogether_33 (by decide) (fun c0 => absurd c0 (by decide)) (fun _ => ?_)
      refine lv_aload_n hx hb dX3_goTogether_36 rfl (lv_at hl 1 rfl) ?_
      refine va_get (D := (dC, dI)) (ci := 3) (v := .ref (a 10)) (C := RX3) (T := TX3) (N := 14) hx hb hts (fun w hw => List.mem_cons_of_mem _ (List.mem_append_right _ hw)) hown hK hP 0 rfl rfl 10 (by decide) (hts (.fieldLink RX3 43 "OldStadium$Quarry" "yea\x72" "[I") (List.mem_of_getElem? (i := 3) rfl)) (fun _ h9 => h9) rfl dX3_goTogether_37 ?_
      refine lv_iload_n hx hb dX3_goTogether_40 rfl (lv_at hl 2 rfl) ?_
      refine va_iald hx hb hK hP 9 0 rfl rfl b1 dX3_goTogether_41 ?_
      refine lv_aload_n hx hb dX3_goTogether_42 rfl (lv_at hl 1 rfl) ?_
      refine va_get (D := (dC, dI)) (ci := 3) (v := .ref (a 10)) (C := RX3) (T := TX3) (N := 14) hx hb hts (fun w hw => List.mem_cons_of_mem _ (List.mem_append_right _ hw)) hown hK hP 0 rfl rfl 10 (by decide) (hts (.fieldLink RX3 43 "OldStadium$Quarry" "yea\x72" "[I") (List.mem_of_getElem? (i := 3) rfl)) (fun _ h9 => h9) rfl dX3_goTogether_43 ?_
      refine lv_iload_n hx hb dX3_goTogether_46 rfl (lv_at hl 3 rfl) ?_
      have b11 := z_c1 hf
      replace hf := z_c2 hf
      refine va_iald hx hb hK hP 9 0 rfl rfl b11 dX3_goTogether_47 ?_
      refine lv_isub hx hb dX3_goTogether_48 ?_
      refine z_mabs hx hb (hml.trans hl.1.symm) hown (hts (.methodLink RX3 92 Lib.Math.abs.name) (List.mem_of_getElem? (i := 4) rfl)) (hts (.static Lib.Math.abs.name) (List.mem_of_getElem? (i := 5) rfl)) (hts (.initialized "java/lang/Math") (List.mem_of_getElem? (i := 6) rfl)) (hts (.code Lib.Math.abs.name Lib.Math.abs.code 1 (some .int)) (List.mem_of_getElem? (i := 7) rfl)) (Nat.le_trans (Nat.le_of_ble_eq_true rfl) hRf) (Nat.le_trans (Nat.le_of_ble_eq_true rfl) hRl) (Nat.zero_le _) (Nat.zero_le _) dX3_goTogether_49 ?_
      refine lv_aload_n hx hb dX3_goTogether_52 rfl (lv_at hl 1 rfl) ?_
      refine va_get (D := (dC, dI)) (ci := 3) (v := .int x8) (C := RX3) (T := TX3) (N := 14) hx hb hts (fun w hw => List.mem_cons_of_mem _ (List.mem_append_right _ hw)) hown hK hP 0 rfl rfl 8 (by decide) (hts (.fieldLink RX3 37 "OldStadium$Quarry" "span" "I") (List.mem_of_getElem? (i := 8) rfl)) (fun _ h9 => h9) rfl dX3_goTogether_53 ?_
      refine lv_icmp_le (tgt := 61) hx hb dX3_goTogether_56 (by decide) (fun c12 => ?_) (fun c12 => ?_)
      · replace hf := z_ip hf c12
        refine lv_iload_n hx hb dX3_goTogether_61 rfl (lv_at hl 0 rfl) ?_
        refine lv_if_ne (tgt := 95) hx hb dX3_goTogether_62 (by decide) (fun _ => ?_) (fun c0 => absurd c0 (by decide))
        refine lv_iconst (v := 1) hx hb dX3_goTogether_95 (by decide) ?_
        refine lv_goto (tgt := 100) hx hb dX3_goTogether_96 (by decide) ?_
        obtain rfl := Option.some.inj hf
        exact hret _ _ _ _ _ dX3_goTogether_100 rfl rfl hP hD hS
      · replace hf := z_im hf c12
        refine lv_iconst (v := 0) hx hb dX3_goTogether_59 (by decide) ?_
        obtain rfl := Option.some.inj hf
        exact hret _ _ _ _ _ dX3_goTogether_60 rfl rfl hP hD hS
set_option maxHeartbeats 4000000 in
set_option maxRecDepth 100000 in
theorem k_X3_goTogether (l : Launch) (dC : Nat → ClassId) (dI : Nat → Nat → Nat) (cI cZ cJ cA : ClassId) (h0 : Nat) (a : Nat → Nat) (sz : Nat) (N : Nat) (v1 : Int32) (v2 : Int32) (x7 : Int32) (x8 : Int32) (x12 : Int32) (x13 : Int32) (f0 : (Nat → Int32)) (f1 : (Nat → Int32)) (f2 : (Nat → Int32)) (f3 : (Nat → Int32)) (f4 : (Nat → Int32)) (f5 : (Nat → Int32)) (f6 : (Nat → Int32)) (f9 : (Nat → Int32)) (f10 : (Nat → Int32)) (f11 : (Nat → Int64)) (o : Int32) (hf : q_X3_goTogether N v1 v2 x8 f0 f6 f9 f10 = some o) : Met l yX3_goTogether wsX3_goTogether ({ frames := 1, cells := 0, slots := 0, locals := 21 } : Room) (z_Pre dC dI (z_ty cI cZ cJ cA) [.ref h0, .int v1, .int v2] sz (wX3 cI cZ cJ cA h0 a x7 x8 x12 x13 f0 f1 f2 f3 f4 f5 f6 f9 f10 f11)) (z_Pi dC dI o (wX3 cI cZ cJ cA h0 a x7 x8 x12 x13 f0 f1 f2 f3 f4 f5 f6 f9 f10 f11) sz (wX3 cI cZ cJ cA h0 a x7 x8 x12 x13 f0 f1 f2 f3 f4 f5 f6 f9 f10 f11)) 0 0 (va_A (wX3 cI cZ cJ cA h0 a x7 x8 x12 x13 f0 f1 f2 f3 f4 f5 f6 f9 f10 f11) sz) := by
  refine Met.ofW (cc := cX3_goTogether) (maxL := 4) (ret := (some .boolean)) (by decide) rfl ?_
  intro p e s m args below meth c s₁ B hml hv
  obtain ⟨rfl, hsz, hP, hK, hD0, hN⟩ := hv
  subst hsz
  have hl := lv_entry ([.ref h0, .int v1, .int v2]) (n := 4) (Nat.le_of_ble_eq_true rfl)
  rw [lg_entry_eq]
  refine b_X3_goTogether N ⟨⟨B.exec, B.bytes, hml, findClass_of_methodNamed B.named, atoms_spec (ws := wsX3_goTogether) B.pre⟩, Nat.le_refl _, Nat.le_refl _, fun q h => Or.inr h, hN, hK⟩ hf hP hD0.self va_S.rf hl (fun pc H locs ls r hd hr hn hP hD hS => ?_)
  subst hr
  exact W.zret B.exec B.bytes B.returns hn (fun t ht hW => ⟨⟨_, (), rfl, rfl, by rw [ht]; exact hP, hD⟩, hS.F ht⟩) hS.2.2 hd
def q_X3_fits_L2 (N : Nat) (v1 : Int32) (v2 : Int32) (x8 : Int32) (f0 : (Nat → Int32)) (f6 : (Nat → Int32)) (f9 : (Nat → Int32)) (f10 : (Nat → Int32)) : Nat → Int32 → Option (Sum Int32 Unit)
  | 0, _ => none
  | n + 1, v3 =>
    (if v1 ≤ v3 then
     (some (Sum.inr ()))
    else
     (Option.bind (q_X4_hasBit N v2 v3) (fun o2 =>
     (if o2 = 0 then
      (q_X3_fits_L2 N v1 v2 x8 f0 f6 f9 f10 n (v3 + 1))
     else
      (Option.bind (q_X3_goTogether N v1 v3 x8 f0 f6 f9 f10) (fun o4 =>
      (if o4 = 0 then
       (some (Sum.inl 0))
      else
       (q_X3_fits_L2 N v1 v2 x8 f0 f6 f9 f10 n (v3 + 1)))))))))
set_option maxHeartbeats 4000000 in
set_option maxRecDepth 100000 in
theorem b_X3_fits_L2 {p : Program} {l : Launch} {e : Env} {R : Room} {s : State} {m : MethodId} {args : Array Value} {below : List Frame} {meth : Method} {c : Code} {Q : State → Prop} {A : Nat → Prop} {dC : Nat → ClassId} {dI : Nat → Nat → Nat} {cI cZ cJ cA : ClassId} {h0 : Nat} {a : Nat → Nat} (N : Nat) (C0 : z_Cx p s m args c cX3_fits 4 wsX3_fits RX3 R 2 44 A dC dI (z_ty cI cZ cJ cA)) : ∀ (n : Nat) {v1 : Int32} {v2 : Int32} {v3 : Int32} {x7 : Int32} {x8 : Int32} {x12 : Int32} {x13 : Int32} {f0 : (Nat → Int32)} {f1 : (Nat → Int32)} {f2 : (Nat → Int32)} {f3 : (Nat → Int32)} {f4 : (Nat → Int32)} {f5 : (Nat → Int32)} {f6 : (Nat → Int32)} {f9 : (Nat → Int32)} {f10 : (Nat → Int32)} {f11 : (Nat → Int64)} {o : (Sum Int32 Unit)} {H : Heap} {locs : List Loc} {ls : Array Slot}, q_X3_fits_L2 N v1 v2 x8 f0 f6 f9 f10 n v3 = some o → va_P (dC, dI) vwCl (wX3 cI cZ cJ cA h0 a x7 x8 x12 x13 f0 f1 f2 f3 f4 f5 f6 f9 f10 f11) H → va_D A (wX3 cI cZ cJ cA h0 a x7 x8 x12 x13 f0 f1 f2 f3 f4 f5 f6 f9 f10 f11) → va_S A s.heap H locs → lv_has ls 4 [(0, .ref h0), (1, .int v1), (2, .int v2), (3, .int v3)] →
    (∀ (t : Int32), o = Sum.inl t → ∀ (pc : Nat) (H : Heap) (locs : List Loc) (ls : Array Slot) (r : Int32), decode cX3_fits pc = .ok (.ireturn, 1) → r = t → narrow .boolean (.int r) = .int r → va_P (dC, dI) vwCl (wX3 cI cZ cJ cA h0 a x7 x8 x12 x13 f0 f1 f2 f3 f4 f5 f6 f9 f10 f11) H → va_D A (wX3 cI cZ cJ cA h0 a x7 x8 x12 x13 f0 f1 f2 f3 f4 f5 f6 f9 f10 f11) → va_S A s.heap H locs → W p l e R s m args below meth c H locs 0 0 Q (F0 m pc ls [.int r])) →
    (∀ (t : Unit) (H : Heap) (locs : List Loc) (ls : Array Slot), o = Sum.inr t → va_P (dC, dI) vwCl (wX3 cI cZ cJ cA h0 a x7 x8 x12 x13 f0 f1 f2 f3 f4 f5 f6 f9 f10 f11) H → va_D A (wX3 cI cZ cJ cA h0 a x7 x8 x12 x13 f0 f1 f2 f3 f4 f5 f6 f9 f10 f11) → va_S A s.heap H locs → lv_has ls 4 [] → W p l e R s m args below meth c H locs 0 0 Q (F0 m 32 ls [])) →
    W p l e R s m args below meth c H locs 0 0 Q (F0 m 2 ls []) := by
  obtain ⟨⟨hx, hb, hml, hown, hts⟩, hRf, hRl, hA, hN, hK⟩ := C0
  intro n
  induction n with
  | zero =>
    intro v1 v2 v3 x7 x8 x12 x13 f0 f1 f2 f3 f4 f5 f6 f9 f10 f11 o H locs ls hf
    cases hf
  | succ n ih =>
    intro v1 v2 v3 x7 x8 x12 x13 f0 f1 f2 f3 f4 f5 f6 f9 f10 f11 o H locs ls hf hP hD hS hl hret hexit
    rw [q_X3_fits_L2] at hf
    refine lv_iload_n hx hb dX3_fits_2 rfl (lv_at hl 3 rfl) ?_
    refine lv_iload_n hx hb dX3_fits_3 rfl (lv_at hl 1 rfl) ?_
    refine lv_icmp_ge (tgt := 32) hx hb dX3_fits_4 (by decide) (fun c1 => ?_) (fun c1 => ?_)
    · replace hf := z_ip hf c1
      obtain rfl := Option.some.inj hf
      exact hexit _ _ _ _ rfl hP hD hS (lv_sub hl [] rfl)
    · replace hf := z_im hf c1
      refine lv_iload_n hx hb dX3_fits_7 rfl (lv_at hl 2 rfl) ?_
      refine lv_iload_n hx hb dX3_fits_8 rfl (lv_at hl 3 rfl) ?_
      obtain ⟨o2, ho2, hf1⟩ := z_ib hf
      replace hf := hf1
      clear hf1
      refine z_SN0 (As := [.int v2, .int v3]) (rest := []) ⟨hx, hb, hml, hown, hts⟩ (k_X4_hasBit l dC dI cI cZ cJ cA H.size N v2 v3 o2 ho2) ⟨va_cnB 2 hts gX3_fits_X4_hasBit_n86 rfl rfl rfl (hN _ (List.mem_of_getElem? (i := 9) rfl)) (hts (.initialized RX4) (List.mem_of_getElem? (i := 2) rfl)) (by decide +kernel) ⟨Nat.le_trans (Nat.le_of_ble_eq_true rfl) hRf, Nat.le_trans (Nat.le_of_ble_eq_true rfl) hRl⟩, (hts (.static yX4_hasBit) (List.mem_of_getElem? (i := 1) rfl)), trivial⟩ hK hP hS hA hN rfl hl.1 rfl (Nat.le_of_ble_eq_true rfl) dX3_fits_9 (fun H locs hP hS => ?_)
      refine lv_if_eq (tgt := 26) hx hb dX3_fits_12 (by decide) (fun c3 => ?_) (fun c3 => ?_)
      · replace hf := z_ip hf c3
        refine lv_iinc (v := (v3 + 1)) (lv' := [(3, .int (v3 + 1)), (0, .ref h0), (1, .int v1), (2, .int v2)]) hx hb dX3_fits_26 hl (k := 3) rfl rfl (by decide) rfl (fun ls hl => ?_)
        refine lv_goto (tgt := 2) hx hb dX3_fits_29 (by decide) ?_
        exact ih hf hP hD hS (lv_sub hl [1, 2, 3, 0] rfl) hret hexit
      · replace hf := z_im hf c3
        refine lv_aload_n hx hb dX3_fits_15 rfl (lv_at hl 0 rfl) ?_
        refine lv_iload_n hx hb dX3_fits_16 rfl (lv_at hl 1 rfl) ?_
        refine lv_iload_n hx hb dX3_fits_17 rfl (lv_at hl 3 rfl) ?_
        obtain ⟨o4, ho4, hf1⟩ := z_ib hf
        replace hf := hf1
        clear hf1
        refine z_Vi (As := [.int v1, .int v3]) (rest := []) (w := (wX3 cI cZ cJ cA h0 a x7 x8 x12 x13 f0 f1 f2 f3 f4 f5 f6 f9 f10 f11)) (w1 := (wX3 cI cZ cJ cA h0 a x7 x8 x12 x13 f0 f1 f2 f3 f4 f5 f6 f9 f10 f11)) ⟨hx, hb, hml, hown, hts⟩ (k_X3_goTogether l dC dI cI cZ cJ cA h0 a H.size N v1 v3 x7 x8 x12 x13 f0 f1 f2 f3 f4 f5 f6 f9 f10 f11 o4 ho4) (cwV 2 hts gX3_fits_X3_goTogether rfl rfl rfl (by decide +kernel) ⟨Nat.le_trans (Nat.le_of_ble_eq_true rfl) hRf, Nat.le_trans (Nat.le_of_ble_eq_true rfl) hRl⟩) hK hP hD hS hA hN (ci := 3) rfl rfl rfl rfl hl.1 rfl (Nat.le_of_ble_eq_true rfl) dX3_fits_18 (fun H locs hP hD hS => ?_)
        refine lv_if_ne (tgt := 26) hx hb dX3_fits_21 (by decide) (fun c5 => ?_) (fun c5 => ?_)
        · replace hf := z_im hf c5
          refine lv_iinc (v := (v3 + 1)) (lv' := [(3, .int (v3 + 1)), (0, .ref h0), (1, .int v1), (2, .int v2)]) hx hb dX3_fits_26 hl (k := 3) rfl rfl (by decide) rfl (fun ls hl => ?_)
          refine lv_goto (tgt := 2) hx hb dX3_fits_29 (by decide) ?_
          exact ih hf hP hD hS (lv_sub hl [1, 2, 3, 0] rfl) hret hexit
        · replace hf := z_ip hf c5
          refine lv_iconst (v := 0) hx hb dX3_fits_24 (by decide) ?_
          obtain rfl := Option.some.inj hf
          exact hret _ rfl _ _ _ _ _ dX3_fits_25 rfl rfl hP hD hS
def q_X3_fits (N : Nat) (v1 : Int32) (v2 : Int32) (x8 : Int32) (f0 : (Nat → Int32)) (f6 : (Nat → Int32)) (f9 : (Nat → Int32)) (f10 : (Nat → Int32)) : Option Int32 :=
  (Option.bind (q_X3_fits_L2 N v1 v2 x8 f0 f6 f9 f10 N 0) (Sum.elim (fun r3 => (some r3)) (fun s2 =>
  (some 1))))
set_option maxHeartbeats 4000000 in
set_option maxRecDepth 100000 in
theorem b_X3_fits {p : Program} {l : Launch} {e : Env} {R : Room} {s : State} {m : MethodId} {args : Array Value} {below : List Frame} {meth : Method} {c : Code} {Q : State → Prop} {A : Nat → Prop} {dC : Nat → ClassId} {dI : Nat → Nat → Nat} {cI cZ cJ cA : ClassId} {h0 : Nat} {a : Nat → Nat} (N : Nat) (C0 : z_Cx p s m args c cX3_fits 4 wsX3_fits RX3 R 2 44 A dC dI (z_ty cI cZ cJ cA)) {v1 : Int32} {v2 : Int32} {x7 : Int32} {x8 : Int32} {x12 : Int32} {x13 : Int32} {f0 : (Nat → Int32)} {f1 : (Nat → Int32)} {f2 : (Nat → Int32)} {f3 : (Nat → Int32)} {f4 : (Nat → Int32)} {f5 : (Nat → Int32)} {f6 : (Nat → Int32)} {f9 : (Nat → Int32)} {f10 : (Nat → Int32)} {f11 : (Nat → Int64)} {o : Int32} {H : Heap} {locs : List Loc} {ls : Array Slot} (hf : q_X3_fits N v1 v2 x8 f0 f6 f9 f10 = some o) (hP : va_P (dC, dI) vwCl (wX3 cI cZ cJ cA h0 a x7 x8 x12 x13 f0 f1 f2 f3 f4 f5 f6 f9 f10 f11) H) (hD : va_D A (wX3 cI cZ cJ cA h0 a x7 x8 x12 x13 f0 f1 f2 f3 f4 f5 f6 f9 f10 f11)) (hS : va_S A s.heap H locs) (hl : lv_has ls 4 [(0, .ref h0), (1, .int v1), (2, .int v2)])
    (hret : ∀ (pc : Nat) (H : Heap) (locs : List Loc) (ls : Array Slot) (r : Int32), decode cX3_fits pc = .ok (.ireturn, 1) → r = o → narrow .boolean (.int r) = .int r → va_P (dC, dI) vwCl (wX3 cI cZ cJ cA h0 a x7 x8 x12 x13 f0 f1 f2 f3 f4 f5 f6 f9 f10 f11) H → va_D A (wX3 cI cZ cJ cA h0 a x7 x8 x12 x13 f0 f1 f2 f3 f4 f5 f6 f9 f10 f11) → va_S A s.heap H locs → W p l e R s m args below meth c H locs 0 0 Q (F0 m pc ls [.int r])) :
    W p l e R s m args below meth c H locs 0 0 Q (F0 m 0 ls []) := by
  obtain ⟨⟨hx, hb, hml, hown, hts⟩, hRf, hRl, hA, hN, hK⟩ := C0
  unfold q_X3_fits at hf
  refine lv_iconst (v := 0) hx hb dX3_fits_0 (by decide) ?_
  refine lv_istore_n (lv' := [(3, .int 0), (0, .ref h0), (1, .int v1), (2, .int v2)]) hx hb dX3_fits_1 rfl hl (by decide) rfl (fun ls hl => ?_)
  obtain ⟨t1, ht1, hf1⟩ := z_ib hf
  replace hf := hf1
  clear hf1
  refine b_X3_fits_L2 N ⟨⟨hx, hb, hml, hown, hts⟩, hRf, hRl, hA, hN, hK⟩ N ht1 hP hD hS (lv_sub hl [1, 2, 3, 0] rfl) (fun r3 e1 pc H locs ls r0 hd hr hn hP hD hS => ?_) (fun s2 H locs ls e1 hP hD hS hl => ?_)
  · subst e1
    have hf := z_sl hf
    obtain rfl := Option.some.inj hf
    exact hret pc H locs ls r0 hd hr hn hP hD hS
  subst e1
  replace hf := z_sr hf
  refine lv_iconst (v := 1) hx hb dX3_fits_32 (by decide) ?_
  obtain rfl := Option.some.inj hf
  exact hret _ _ _ _ _ dX3_fits_33 rfl rfl hP hD hS
set_option maxHeartbeats 4000000 in
set_option maxRecDepth 100000 in
theorem k_X3_fits (l : Launch) (dC : Nat → ClassId) (dI : Nat → Nat → Nat) (cI cZ cJ cA : ClassId) (h0 : Nat) (a : Nat → Nat) (sz : Nat) (N : Nat) (v1 : Int32) (v2 : Int32) (x7 : Int32) (x8 : Int32) (x12 : Int32) (x13 : Int32) (f0 : (Nat → Int32)) (f1 : (Nat → Int32)) (f2 : (Nat → Int32)) (f3 : (Nat → Int32)) (f4 : (Nat → Int32)) (f5 : (Nat → Int32)) (f6 : (Nat → Int32)) (f9 : (Nat → Int32)) (f10 : (Nat → Int32)) (f11 : (Nat → Int64)) (o : Int32) (hf : q_X3_fits N v1 v2 x8 f0 f6 f9 f10 = some o) : Met l yX3_fits wsX3_fits ({ frames := 2, cells := 0, slots := 0, locals := 44 } : Room) (z_Pre dC dI (z_ty cI cZ cJ cA) [.ref h0, .int v1, .int v2] sz (wX3 cI cZ cJ cA h0 a x7 x8 x12 x13 f0 f1 f2 f3 f4 f5 f6 f9 f10 f11)) (z_Pi dC dI o (wX3 cI cZ cJ cA h0 a x7 x8 x12 x13 f0 f1 f2 f3 f4 f5 f6 f9 f10 f11) sz (wX3 cI cZ cJ cA h0 a x7 x8 x12 x13 f0 f1 f2 f3 f4 f5 f6 f9 f10 f11)) 0 0 (va_A (wX3 cI cZ cJ cA h0 a x7 x8 x12 x13 f0 f1 f2 f3 f4 f5 f6 f9 f10 f11) sz) := by
  refine Met.ofW (cc := cX3_fits) (maxL := 4) (ret := (some .boolean)) (by decide) rfl ?_
  intro p e s m args below meth c s₁ B hml hv
  obtain ⟨rfl, hsz, hP, hK, hD0, hN⟩ := hv
  subst hsz
  have hl := lv_entry ([.ref h0, .int v1, .int v2]) (n := 4) (Nat.le_of_ble_eq_true rfl)
  rw [lg_entry_eq]
  refine b_X3_fits N ⟨⟨B.exec, B.bytes, hml, findClass_of_methodNamed B.named, atoms_spec (ws := wsX3_fits) B.pre⟩, Nat.le_refl _, Nat.le_refl _, fun q h => Or.inr h, hN, hK⟩ hf hP hD0.self va_S.rf hl (fun pc H locs ls r hd hr hn hP hD hS => ?_)
  subst hr
  exact W.zret B.exec B.bytes B.returns hn (fun t ht hW => ⟨⟨_, (), rfl, rfl, by rw [ht]; exact hP, hD⟩, hS.F ht⟩) hS.2.2 hd

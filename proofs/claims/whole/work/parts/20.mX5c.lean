def q_X5_stone_L61 (N : Nat) (v4 : Int32) (v5 : Int32) (x41 : Int32) (f35 : (Nat → Int32)) (f36 : (Nat → Int32)) (f37 : (Nat → Int32)) (f38 : (Nat → Int32)) (f39 : (Nat → Int32)) (f40 : (Nat → Int32)) : Nat → Int32 → Option (Sum (Int32 × Int32 × (Nat → Int32) × (Nat → Int32) × (Nat → Int32) × (Nat → Int32) × (Nat → Int32) × (Nat → Int32)) Unit)
  | 0, _ => none
  | n + 1, v7 =>
    (if 4 ≤ v7 then
     (some (Sum.inr ()))
    else
     (if 26 < ((z_ushr v4 (24 - (8 * v7))) &&& 255) then
      (some (Sum.inl ((-1), x41, f35, f36, f37, f38, f39, f40)))
     else
      (if ((z_ushr v5 (24 - (8 * v7))) &&& 255) ≤ 26 then
       (q_X5_stone_L61 N v4 v5 x41 f35 f36 f37 f38 f39 f40 n (v7 + 1))
      else
       (some (Sum.inl ((-1), x41, f35, f36, f37, f38, f39, f40))))))
set_option maxHeartbeats 4000000 in
set_option maxRecDepth 100000 in
theorem b_X5_stone_L61 {p : Program} {l : Launch} {e : Env} {R : Room} {s : State} {m : MethodId} {args : Array Value} {below : List Frame} {meth : Method} {c : Code} {Q : State → Prop} {A : Nat → Prop} {dC : Nat → ClassId} {dI : Nat → Nat → Nat} {cI cZ cJ cA : ClassId} {h0 : Nat} {a : Nat → Nat} (N : Nat) (C0 : z_Cx p s m args c cX5_stone 8 wsX5_stone RX5 R 1 22 A dC dI (z_ty cI cZ cJ cA)) : ∀ (n : Nat) {v1 : Int32} {v2 : Int32} {v3 : Int32} {v4 : Int32} {v5 : Int32} {v6 : Int32} {v7 : Int32} {x1 : Int32} {x3 : Int32} {x4 : Int32} {x5 : Int32} {x6 : Int32} {x7 : Int32} {x9 : Int32} {x10 : Int32} {x14 : Int32} {x15 : Int32} {x16 : Int32} {x19 : Int32} {x20 : Int32} {x21 : Int32} {x22 : Int32} {x23 : Int32} {x24 : Int32} {x41 : Int32} {x42 : Int32} {f0 : (Nat → Int32)} {f2 : (Nat → Int32)} {f8 : (Nat → Int32)} {f11 : (Nat → Int32)} {f12 : (Nat → Int32)} {f13 : (Nat → Int32)} {f17 : (Nat → Int32)} {f18 : (Nat → Int32)} {f25 : (Nat → Int32)} {f26 : (Nat → Int32)} {f27 : (Nat → Int32)} {f28 : (Nat → Int32)} {f29 : (Nat → Int32)} {f30 : (Nat → Int32)} {f31 : (Nat → Int32)} {f32 : (Nat → Int32)} {f33 : (Nat → Int32)} {f34 : (Nat → Int32)} {f35 : (Nat → Int32)} {f36 : (Nat → Int32)} {f37 : (Nat → Int32)} {f38 : (Nat → Int32)} {f39 : (Nat → Int32)} {f40 : (Nat → Int32)} {f43 : (Nat → Int32)} {o : (Sum (Int32 × Int32 × (Nat → Int32) × (Nat → Int32) × (Nat → Int32) × (Nat → Int32) × (Nat → Int32) × (Nat → Int32)) Unit)} {H : Heap} {locs : List Loc} {ls : Array Slot}, q_X5_stone_L61 N v4 v5 x41 f35 f36 f37 f38 f39 f40 n v7 = some o → va_P (dC, dI) vwCl (wX5 cI cZ cJ cA h0 a x1 x3 x4 x5 x6 x7 x9 x10 x14 x15 x16 x19 x20 x21 x22 x23 x24 x41 x42 f0 f2 f8 f11 f12 f13 f17 f18 f25 f26 f27 f28 f29 f30 f31 f32 f33 f34 f35 f36 f37 f38 f39 f40 f43) H → va_D A (wX5 cI cZ cJ cA h0 a x1 x3 x4 x5 x6 x7 x9 x10 x14 x15 x16 x19 x20 x21 x22 x23 x24 x41 x42 f0 f2 f8 f11 f12 f13 f17 f18 f25 f26 f27 f28 f29 f30 f31 f32 f33 f34 f35 f36 f37 f38 f39 f40 f43) → va_S A s.heap H locs → lv_has ls 8 [(0, .ref h0), (1, .int v1), (2, .int v2), (3, .int v3), (4, .int v4), (5, .int v5), (6, .int v6), (7, .int v7)] →
    (∀ (t : (Int32 × Int32 × (Nat → Int32) × (Nat → Int32) × (Nat → Int32) × (Nat → Int32) × (Nat → Int32) × (Nat → Int32))), o = Sum.inl t → ∀ (pc : Nat) (H : Heap) (locs : List Loc) (ls : Array Slot) (r : Int32), decode cX5_stone pc = .ok (.ireturn, 1) → r = t.1 → va_P (dC, dI) vwCl (wX5 cI cZ cJ cA h0 a x1 x3 x4 x5 x6 x7 x9 x10 x14 x15 x16 x19 x20 x21 x22 x23 x24 t.2.1 x42 f0 f2 f8 f11 f12 f13 f17 f18 f25 f26 f27 f28 f29 f30 f31 f32 f33 f34 t.2.2.1 t.2.2.2.1 t.2.2.2.2.1 t.2.2.2.2.2.1 t.2.2.2.2.2.2.1 t.2.2.2.2.2.2.2 f43) H → va_D A (wX5 cI cZ cJ cA h0 a x1 x3 x4 x5 x6 x7 x9 x10 x14 x15 x16 x19 x20 x21 x22 x23 x24 t.2.1 x42 f0 f2 f8 f11 f12 f13 f17 f18 f25 f26 f27 f28 f29 f30 f31 f32 f33 f34 t.2.2.1 t.2.2.2.1 t.2.2.2.2.1 t.2.2.2.2.2.1 t.2.2.2.2.2.2.1 t.2.2.2.2.2.2.2 f43) → va_S A s.heap H locs → W p l e R s m args below meth c H locs 0 0 Q (F0 m pc ls [.int r])) →
    (∀ (t : Unit) (H : Heap) (locs : List Loc) (ls : Array Slot), o = Sum.inr t → va_P (dC, dI) vwCl (wX5 cI cZ cJ cA h0 a x1 x3 x4 x5 x6 x7 x9 x10 x14 x15 x16 x19 x20 x21 x22 x23 x24 x41 x42 f0 f2 f8 f11 f12 f13 f17 f18 f25 f26 f27 f28 f29 f30 f31 f32 f33 f34 f35 f36 f37 f38 f39 f40 f43) H → va_D A (wX5 cI cZ cJ cA h0 a x1 x3 x4 x5 x6 x7 x9 x10 x14 x15 x16 x19 x20 x21 x22 x23 x24 x41 x42 f0 f2 f8 f11 f12 f13 f17 f18 f25 f26 f27 f28 f29 f30 f31 f32 f33 f34 f35 f36 f37 f38 f39 f40 f43) → va_S A s.heap H locs → lv_has ls 8 [(0, .ref h0), (1, .int v1), (2, .int v2), (3, .int v3), (4, .int v4), (5, .int v5), (6, .int v6)] → W p l e R s m args below meth c H locs 0 0 Q (F0 m 115 ls [])) →
    W p l e R s m args below meth c H locs 0 0 Q (F0 m 61 ls []) := by
  obtain ⟨⟨hx, hb, hml, hown, hts⟩, hRf, hRl, hA, hN, hK⟩ := C0
  intro n
  induction n with
  | zero =>
    intro v1 v2 v3 v4 v5 v6 v7 x1 x3 x4 x5 x6 x7 x9 x10 x14 x15 x16 x19 x20 x21 x22 x23 x24 x41 x42 f0 f2 f8 f11 f12 f13 f17 f18 f25 f26 f27 f28 f29 f30 f31 f32 f33 f34 f35 f36 f37 f38 f39 f40 f43 o H locs ls hf
    cases hf
  | succ n ih =>
    intro v1 v2 v3 v4 v5 v6 v7 x1 x3 x4 x5 x6 x7 x9 x10 x14 x15 x16 x19 x20 x21 x22 x23 x24 x41 x42 f0 f2 f8 f11 f12 f13 f17 f18 f25 f26 f27 f28 f29 f30 f31 f32 f33 f34 f35 f36 f37 f38 f39 f40 f43 o H locs ls hf hP hD hS hl hret hexit
    rw [q_X5_stone_L61] at hf
    refine lv_iload hx hb dX5_stone_61 (lv_at hl 7 rfl) ?_
    refine lv_iconst (v := 4) hx hb dX5_stone_63 (by decide) ?_
    refine lv_icmp_ge (tgt := 115) hx hb dX5_stone_64 (by decide) (fun c1 => ?_) (fun c1 => ?_)
    · replace hf := z_ip hf c1
      obtain rfl := Option.some.inj hf
      exact hexit _ _ _ _ rfl hP hD hS (lv_sub hl [0, 1, 2, 3, 4, 5, 6] rfl)
    · replace hf := z_im hf c1
      refine lv_iload hx hb dX5_stone_67 (lv_at hl 4 rfl) ?_
      refine lv_bipush (v := 24) hx hb dX5_stone_69 (by decide) ?_
      refine lv_bipush (v := 8) hx hb dX5_stone_71 (by decide) ?_
      refine lv_iload hx hb dX5_stone_73 (lv_at hl 7 rfl) ?_
      refine lv_imul hx hb dX5_stone_75 ?_
      refine lv_isub hx hb dX5_stone_76 ?_
      refine z_iushr hx hb dX5_stone_77 ?_
      refine lv_sipush (v := 255) hx hb dX5_stone_78 (by decide) ?_
      refine lv_iand hx hb dX5_stone_81 ?_
      refine lv_bipush (v := 26) hx hb dX5_stone_82 (by decide) ?_
      refine lv_icmp_gt (tgt := 107) hx hb dX5_stone_84 (by decide) (fun c2 => ?_) (fun c2 => ?_)
      · replace hf := z_ip hf c2
        refine lv_iconst (v := (-1)) hx hb dX5_stone_107 (by decide) ?_
        obtain rfl := Option.some.inj hf
        exact hret _ rfl _ _ _ _ _ dX5_stone_108 rfl hP hD hS
      · replace hf := z_im hf c2
        refine lv_iload hx hb dX5_stone_87 (lv_at hl 5 rfl) ?_
        refine lv_bipush (v := 24) hx hb dX5_stone_89 (by decide) ?_
        refine lv_bipush (v := 8) hx hb dX5_stone_91 (by decide) ?_
        refine lv_iload hx hb dX5_stone_93 (lv_at hl 7 rfl) ?_
        refine lv_imul hx hb dX5_stone_95 ?_
        refine lv_isub hx hb dX5_stone_96 ?_
        refine z_iushr hx hb dX5_stone_97 ?_
        refine lv_sipush (v := 255) hx hb dX5_stone_98 (by decide) ?_
        refine lv_iand hx hb dX5_stone_101 ?_
        refine lv_bipush (v := 26) hx hb dX5_stone_102 (by decide) ?_
        refine lv_icmp_le (tgt := 109) hx hb dX5_stone_104 (by decide) (fun c3 => ?_) (fun c3 => ?_)
        · replace hf := z_ip hf c3
          refine lv_iinc (v := (v7 + 1)) (lv' := [(7, .int (v7 + 1)), (0, .ref h0), (1, .int v1), (2, .int v2), (3, .int v3), (4, .int v4), (5, .int v5), (6, .int v6)]) hx hb dX5_stone_109 hl (k := 7) rfl rfl (by decide) rfl (fun ls hl => ?_)
          refine lv_goto (tgt := 61) hx hb dX5_stone_112 (by decide) ?_
          exact ih hf hP hD hS (lv_sub hl [1, 2, 3, 4, 5, 6, 7, 0] rfl) hret hexit
        · replace hf := z_im hf c3
          refine lv_iconst (v := (-1)) hx hb dX5_stone_107 (by decide) ?_
          obtain rfl := Option.some.inj hf
          exact hret _ rfl _ _ _ _ _ dX5_stone_108 rfl hP hD hS
def q_X5_stone_L118 (N : Nat) (v4 : Int32) (v5 : Int32) (x41 : Int32) : Nat → Int32 → (Nat → Int32) → Option (Nat → Int32)
  | 0, _, _ => none
  | n + 1, v7, f38 =>
    (if 4 ≤ v7 then
     (some f38)
    else
     (if z_in ((8 * x41) + v7) 48 then
     (if z_in (((8 * x41) + 4) + v7) 48 then
     (q_X5_stone_L118 N v4 v5 x41 n (v7 + 1) (upd (upd f38 (Int32.toNatClampNeg ((8 * x41) + v7)) ((z_ushr v4 (24 - (8 * v7))) &&& 255)) (Int32.toNatClampNeg (((8 * x41) + 4) + v7)) ((z_ushr v5 (24 - (8 * v7))) &&& 255)))
     else none)
     else none))
set_option maxHeartbeats 4000000 in
set_option maxRecDepth 100000 in
theorem b_X5_stone_L118 {p : Program} {l : Launch} {e : Env} {R : Room} {s : State} {m : MethodId} {args : Array Value} {below : List Frame} {meth : Method} {c : Code} {Q : State → Prop} {A : Nat → Prop} {dC : Nat → ClassId} {dI : Nat → Nat → Nat} {cI cZ cJ cA : ClassId} {h0 : Nat} {a : Nat → Nat} (N : Nat) (C0 : z_Cx p s m args c cX5_stone 8 wsX5_stone RX5 R 1 22 A dC dI (z_ty cI cZ cJ cA)) : ∀ (n : Nat) {v1 : Int32} {v2 : Int32} {v3 : Int32} {v4 : Int32} {v5 : Int32} {v6 : Int32} {v7 : Int32} {x1 : Int32} {x3 : Int32} {x4 : Int32} {x5 : Int32} {x6 : Int32} {x7 : Int32} {x9 : Int32} {x10 : Int32} {x14 : Int32} {x15 : Int32} {x16 : Int32} {x19 : Int32} {x20 : Int32} {x21 : Int32} {x22 : Int32} {x23 : Int32} {x24 : Int32} {x41 : Int32} {x42 : Int32} {f0 : (Nat → Int32)} {f2 : (Nat → Int32)} {f8 : (Nat → Int32)} {f11 : (Nat → Int32)} {f12 : (Nat → Int32)} {f13 : (Nat → Int32)} {f17 : (Nat → Int32)} {f18 : (Nat → Int32)} {f25 : (Nat → Int32)} {f26 : (Nat → Int32)} {f27 : (Nat → Int32)} {f28 : (Nat → Int32)} {f29 : (Nat → Int32)} {f30 : (Nat → Int32)} {f31 : (Nat → Int32)} {f32 : (Nat → Int32)} {f33 : (Nat → Int32)} {f34 : (Nat → Int32)} {f35 : (Nat → Int32)} {f36 : (Nat → Int32)} {f37 : (Nat → Int32)} {f38 : (Nat → Int32)} {f39 : (Nat → Int32)} {f40 : (Nat → Int32)} {f43 : (Nat → Int32)} {o : (Nat → Int32)} {H : Heap} {locs : List Loc} {ls : Array Slot}, q_X5_stone_L118 N v4 v5 x41 n v7 f38 = some o → va_P (dC, dI) vwCl (wX5 cI cZ cJ cA h0 a x1 x3 x4 x5 x6 x7 x9 x10 x14 x15 x16 x19 x20 x21 x22 x23 x24 x41 x42 f0 f2 f8 f11 f12 f13 f17 f18 f25 f26 f27 f28 f29 f30 f31 f32 f33 f34 f35 f36 f37 f38 f39 f40 f43) H → va_D A (wX5 cI cZ cJ cA h0 a x1 x3 x4 x5 x6 x7 x9 x10 x14 x15 x16 x19 x20 x21 x22 x23 x24 x41 x42 f0 f2 f8 f11 f12 f13 f17 f18 f25 f26 f27 f28 f29 f30 f31 f32 f33 f34 f35 f36 f37 f38 f39 f40 f43) → va_S A s.heap H locs → lv_has ls 8 [(0, .ref h0), (1, .int v1), (2, .int v2), (3, .int v3), (4, .int v4), (5, .int v5), (6, .int v6), (7, .int v7)] →
    (∀ (H : Heap) (locs : List Loc) (ls : Array Slot), va_P (dC, dI) vwCl (wX5 cI cZ cJ cA h0 a x1 x3 x4 x5 x6 x7 x9 x10 x14 x15 x16 x19 x20 x21 x22 x23 x24 x41 x42 f0 f2 f8 f11 f12 f13 f17 f18 f25 f26 f27 f28 f29 f30 f31 f32 f33 f34 f35 f36 f37 o f39 f40 f43) H → va_D A (wX5 cI cZ cJ cA h0 a x1 x3 x4 x5 x6 x7 x9 x10 x14 x15 x16 x19 x20 x21 x22 x23 x24 x41 x42 f0 f2 f8 f11 f12 f13 f17 f18 f25 f26 f27 f28 f29 f30 f31 f32 f33 f34 f35 f36 f37 o f39 f40 f43) → va_S A s.heap H locs → lv_has ls 8 [(0, .ref h0), (1, .int v1), (2, .int v2), (3, .int v3), (6, .int v6)] → W p l e R s m args below meth c H locs 0 0 Q (F0 m 192 ls [])) →
    W p l e R s m args below meth c H locs 0 0 Q (F0 m 118 ls []) := by
  obtain ⟨⟨hx, hb, hml, hown, hts⟩, hRf, hRl, hA, hN, hK⟩ := C0
  intro n
  induction n with
  | zero =>
    intro v1 v2 v3 v4 v5 v6 v7 x1 x3 x4 x5 x6 x7 x9 x10 x14 x15 x16 x19 x20 x21 x22 x23 x24 x41 x42 f0 f2 f8 f11 f12 f13 f17 f18 f25 f26 f27 f28 f29 f30 f31 f32 f33 f34 f35 f36 f37 f38 f39 f40 f43 o H locs ls hf
    cases hf
  | succ n ih =>
    intro v1 v2 v3 v4 v5 v6 v7 x1 x3 x4 x5 x6 x7 x9 x10 x14 x15 x16 x19 x20 x21 x22 x23 x24 x41 x42 f0 f2 f8 f11 f12 f13 f17 f18 f25 f26 f27 f28 f29 f30 f31 f32 f33 f34 f35 f36 f37 f38 f39 f40 f43 o H locs ls hf hP hD hS hl hexit
    rw [q_X5_stone_L118] at hf
    refine lv_iload hx hb dX5_stone_118 (lv_at hl 7 rfl) ?_
    refine lv_iconst (v := 4) hx hb dX5_stone_120 (by decide) ?_
    refine lv_icmp_ge (tgt := 192) hx hb dX5_stone_121 (by decide) (fun c1 => ?_) (fun c1 => ?_)
    · replace hf := z_ip hf c1
      obtain rfl := Option.some.inj hf
      exact hexit _ _ _ hP hD hS (lv_sub hl [0, 1, 2, 3, 6] rfl)
    · replace hf := z_im hf c1
      refine lv_aload_n hx hb dX5_stone_124 rfl (lv_at hl 0 rfl) ?_
      refine va_get (D := (dC, dI)) (ci := 5) (v := .ref (a 38)) (C := RX5) (T := TX5) (N := 44) hx hb hts (fun w hw => List.mem_cons_of_mem _ (List.mem_append_right _ hw)) hown hK hP 0 rfl rfl 38 (by decide) (hts (.fieldLink RX5 81 "OldStadiumModel" "letters" "[I") (List.mem_of_getElem? (i := 2) rfl)) (fun _ h9 => h9) rfl dX5_stone_125 ?_
      refine lv_bipush (v := 8) hx hb dX5_stone_128 (by decide) ?_
      refine lv_aload_n hx hb dX5_stone_130 rfl (lv_at hl 0 rfl) ?_
      refine va_get (D := (dC, dI)) (ci := 5) (v := .int x41) (C := RX5) (T := TX5) (N := 44) hx hb hts (fun w hw => List.mem_cons_of_mem _ (List.mem_append_right _ hw)) hown hK hP 0 rfl rfl 41 (by decide) (hts (.fieldLink RX5 187 "OldStadiumModel" "stones" "I") (List.mem_of_getElem? (i := 1) rfl)) (fun _ h9 => h9) rfl dX5_stone_131 ?_
      refine lv_imul hx hb dX5_stone_134 ?_
      refine lv_iload hx hb dX5_stone_135 (lv_at hl 7 rfl) ?_
      refine lv_iadd hx hb dX5_stone_137 ?_
      refine lv_iload hx hb dX5_stone_138 (lv_at hl 4 rfl) ?_
      refine lv_bipush (v := 24) hx hb dX5_stone_140 (by decide) ?_
      refine lv_bipush (v := 8) hx hb dX5_stone_142 (by decide) ?_
      refine lv_iload hx hb dX5_stone_144 (lv_at hl 7 rfl) ?_
      refine lv_imul hx hb dX5_stone_146 ?_
      refine lv_isub hx hb dX5_stone_147 ?_
      refine z_iushr hx hb dX5_stone_148 ?_
      refine lv_sipush (v := 255) hx hb dX5_stone_149 (by decide) ?_
      refine lv_iand hx hb dX5_stone_152 ?_
      have b2 := z_c1 hf
      replace hf := z_c2 hf
      refine va_iast hx hb hK hP hD hS 22 0 rfl rfl b2 dX5_stone_153 (fun H locs hP hD hS => ?_)
      replace hP : va_P (dC, dI) vwCl (wX5 cI cZ cJ cA h0 a x1 x3 x4 x5 x6 x7 x9 x10 x14 x15 x16 x19 x20 x21 x22 x23 x24 x41 x42 f0 f2 f8 f11 f12 f13 f17 f18 f25 f26 f27 f28 f29 f30 f31 f32 f33 f34 f35 f36 f37 (upd f38 (Int32.toNatClampNeg ((8 * x41) + v7)) ((z_ushr v4 (24 - (8 * v7))) &&& 255)) f39 f40 f43) H := hP
      replace hD : va_D A (wX5 cI cZ cJ cA h0 a x1 x3 x4 x5 x6 x7 x9 x10 x14 x15 x16 x19 x20 x21 x22 x23 x24 x41 x42 f0 f2 f8 f11 f12 f13 f17 f18 f25 f26 f27 f28 f29 f30 f31 f32 f33 f34 f35 f36 f37 (upd f38 (Int32.toNatClampNeg ((8 * x41) + v7)) ((z_ushr v4 (24 - (8 * v7))) &&& 255)) f39 f40 f43) := hD
      refine lv_aload_n hx hb dX5_stone_154 rfl (lv_at hl 0 rfl) ?_
      refine va_get (D := (dC, dI)) (ci := 5) (v := .ref (a 38)) (C := RX5) (T := TX5) (N := 44) hx hb hts (fun w hw => List.mem_cons_of_mem _ (List.mem_append_right _ hw)) hown hK hP 0 rfl rfl 38 (by decide) (hts (.fieldLink RX5 81 "OldStadiumModel" "letters" "[I") (List.mem_of_getElem? (i := 2) rfl)) (fun _ h9 => h9) rfl dX5_stone_155 ?_
      refine lv_bipush (v := 8) hx hb dX5_stone_158 (by decide) ?_
      refine lv_aload_n hx hb dX5_stone_160 rfl (lv_at hl 0 rfl) ?_
      refine va_get (D := (dC, dI)) (ci := 5) (v := .int x41) (C := RX5) (T := TX5) (N := 44) hx hb hts (fun w hw => List.mem_cons_of_mem _ (List.mem_append_right _ hw)) hown hK hP 0 rfl rfl 41 (by decide) (hts (.fieldLink RX5 187 "OldStadiumModel" "stones" "I") (List.mem_of_getElem? (i := 1) rfl)) (fun _ h9 => h9) rfl dX5_stone_161 ?_
      refine lv_imul hx hb dX5_stone_164 ?_
      refine lv_iconst (v := 4) hx hb dX5_stone_165 (by decide) ?_
      refine lv_iadd hx hb dX5_stone_166 ?_
      refine lv_iload hx hb dX5_stone_167 (lv_at hl 7 rfl) ?_
      refine lv_iadd hx hb dX5_stone_169 ?_
      refine lv_iload hx hb dX5_stone_170 (lv_at hl 5 rfl) ?_
      refine lv_bipush (v := 24) hx hb dX5_stone_172 (by decide) ?_
      refine lv_bipush (v := 8) hx hb dX5_stone_174 (by decide) ?_
      refine lv_iload hx hb dX5_stone_176 (lv_at hl 7 rfl) ?_
      refine lv_imul hx hb dX5_stone_178 ?_
      refine lv_isub hx hb dX5_stone_179 ?_
      refine z_iushr hx hb dX5_stone_180 ?_
      refine lv_sipush (v := 255) hx hb dX5_stone_181 (by decide) ?_
      refine lv_iand hx hb dX5_stone_184 ?_
      have b3 := z_c1 hf
      replace hf := z_c2 hf
      refine va_iast hx hb hK hP hD hS 22 0 rfl rfl b3 dX5_stone_185 (fun H locs hP hD hS => ?_)
      replace hP : va_P (dC, dI) vwCl (wX5 cI cZ cJ cA h0 a x1 x3 x4 x5 x6 x7 x9 x10 x14 x15 x16 x19 x20 x21 x22 x23 x24 x41 x42 f0 f2 f8 f11 f12 f13 f17 f18 f25 f26 f27 f28 f29 f30 f31 f32 f33 f34 f35 f36 f37 (upd (upd f38 (Int32.toNatClampNeg ((8 * x41) + v7)) ((z_ushr v4 (24 - (8 * v7))) &&& 255)) (Int32.toNatClampNeg (((8 * x41) + 4) + v7)) ((z_ushr v5 (24 - (8 * v7))) &&& 255)) f39 f40 f43) H := hP
      replace hD : va_D A (wX5 cI cZ cJ cA h0 a x1 x3 x4 x5 x6 x7 x9 x10 x14 x15 x16 x19 x20 x21 x22 x23 x24 x41 x42 f0 f2 f8 f11 f12 f13 f17 f18 f25 f26 f27 f28 f29 f30 f31 f32 f33 f34 f35 f36 f37 (upd (upd f38 (Int32.toNatClampNeg ((8 * x41) + v7)) ((z_ushr v4 (24 - (8 * v7))) &&& 255)) (Int32.toNatClampNeg (((8 * x41) + 4) + v7)) ((z_ushr v5 (24 - (8 * v7))) &&& 255)) f39 f40 f43) := hD
      refine lv_iinc (v := (v7 + 1)) (lv' := [(7, .int (v7 + 1)), (0, .ref h0), (1, .int v1), (2, .int v2), (3, .int v3), (4, .int v4), (5, .int v5), (6, .int v6)]) hx hb dX5_stone_186 hl (k := 7) rfl rfl (by decide) rfl (fun ls hl => ?_)
      refine lv_goto (tgt := 118) hx hb dX5_stone_189 (by decide) ?_
      exact ih hf hP hD hS (lv_sub hl [1, 2, 3, 4, 5, 6, 7, 0] rfl) hexit
def q_X5_stone_L236 (N : Nat) (x41 : Int32) : Nat → Int32 → (Nat → Int32) → Option (Nat → Int32)
  | 0, _, _ => none
  | n + 1, v7, f40 =>
    (if 6 ≤ v7 then
     (some f40)
    else
     (if z_in ((6 * x41) + v7) 36 then
     (if z_in ((6 * v7) + x41) 36 then
     (q_X5_stone_L236 N x41 n (v7 + 1) (upd (upd f40 (Int32.toNatClampNeg ((6 * x41) + v7)) (vp_nar .boolean 0)) (Int32.toNatClampNeg ((6 * v7) + x41)) (vp_nar .boolean 0)))
     else none)
     else none))
set_option maxHeartbeats 4000000 in
set_option maxRecDepth 100000 in
theorem b_X5_stone_L236 {p : Program} {l : Launch} {e : Env} {R : Room} {s : State} {m : MethodId} {args : Array Value} {below : List Frame} {meth : Method} {c : Code} {Q : State → Prop} {A : Nat → Prop} {dC : Nat → ClassId} {dI : Nat → Nat → Nat} {cI cZ cJ cA : ClassId} {h0 : Nat} {a : Nat → Nat} (N : Nat) (C0 : z_Cx p s m args c cX5_stone 8 wsX5_stone RX5 R 1 22 A dC dI (z_ty cI cZ cJ cA)) : ∀ (n : Nat) {v7 : Int32} {x1 : Int32} {x3 : Int32} {x4 : Int32} {x5 : Int32} {x6 : Int32} {x7 : Int32} {x9 : Int32} {x10 : Int32} {x14 : Int32} {x15 : Int32} {x16 : Int32} {x19 : Int32} {x20 : Int32} {x21 : Int32} {x22 : Int32} {x23 : Int32} {x24 : Int32} {x41 : Int32} {x42 : Int32} {f0 : (Nat → Int32)} {f2 : (Nat → Int32)} {f8 : (Nat → Int32)} {f11 : (Nat → Int32)} {f12 : (Nat → Int32)} {f13 : (Nat → Int32)} {f17 : (Nat → Int32)} {f18 : (Nat → Int32)} {f25 : (Nat → Int32)} {f26 : (Nat → Int32)} {f27 : (Nat → Int32)} {f28 : (Nat → Int32)} {f29 : (Nat → Int32)} {f30 : (Nat → Int32)} {f31 : (Nat → Int32)} {f32 : (Nat → Int32)} {f33 : (Nat → Int32)} {f34 : (Nat → Int32)} {f35 : (Nat → Int32)} {f36 : (Nat → Int32)} {f37 : (Nat → Int32)} {f38 : (Nat → Int32)} {f39 : (Nat → Int32)} {f40 : (Nat → Int32)} {f43 : (Nat → Int32)} {o : (Nat → Int32)} {H : Heap} {locs : List Loc} {ls : Array Slot}, q_X5_stone_L236 N x41 n v7 f40 = some o → va_P (dC, dI) vwCl (wX5 cI cZ cJ cA h0 a x1 x3 x4 x5 x6 x7 x9 x10 x14 x15 x16 x19 x20 x21 x22 x23 x24 x41 x42 f0 f2 f8 f11 f12 f13 f17 f18 f25 f26 f27 f28 f29 f30 f31 f32 f33 f34 f35 f36 f37 f38 f39 f40 f43) H → va_D A (wX5 cI cZ cJ cA h0 a x1 x3 x4 x5 x6 x7 x9 x10 x14 x15 x16 x19 x20 x21 x22 x23 x24 x41 x42 f0 f2 f8 f11 f12 f13 f17 f18 f25 f26 f27 f28 f29 f30 f31 f32 f33 f34 f35 f36 f37 f38 f39 f40 f43) → va_S A s.heap H locs → lv_has ls 8 [(0, .ref h0), (7, .int v7)] →
    (∀ (H : Heap) (locs : List Loc) (ls : Array Slot), va_P (dC, dI) vwCl (wX5 cI cZ cJ cA h0 a x1 x3 x4 x5 x6 x7 x9 x10 x14 x15 x16 x19 x20 x21 x22 x23 x24 x41 x42 f0 f2 f8 f11 f12 f13 f17 f18 f25 f26 f27 f28 f29 f30 f31 f32 f33 f34 f35 f36 f37 f38 f39 o f43) H → va_D A (wX5 cI cZ cJ cA h0 a x1 x3 x4 x5 x6 x7 x9 x10 x14 x15 x16 x19 x20 x21 x22 x23 x24 x41 x42 f0 f2 f8 f11 f12 f13 f17 f18 f25 f26 f27 f28 f29 f30 f31 f32 f33 f34 f35 f36 f37 f38 f39 o f43) → va_S A s.heap H locs → lv_has ls 8 [(0, .ref h0)] → W p l e R s m args below meth c H locs 0 0 Q (F0 m 281 ls [])) →
    W p l e R s m args below meth c H locs 0 0 Q (F0 m 236 ls []) := by
  obtain ⟨⟨hx, hb, hml, hown, hts⟩, hRf, hRl, hA, hN, hK⟩ := C0
  intro n
  induction n with
  | zero =>
    intro v7 x1 x3 x4 x5 x6 x7 x9 x10 x14 x15 x16 x19 x20 x21 x22 x23 x24 x41 x42 f0 f2 f8 f11 f12 f13 f17 f18 f25 f26 f27 f28 f29 f30 f31 f32 f33 f34 f35 f36 f37 f38 f39 f40 f43 o H locs ls hf
    cases hf
  | succ n ih =>
    intro v7 x1 x3 x4 x5 x6 x7 x9 x10 x14 x15 x16 x19 x20 x21 x22 x23 x24 x41 x42 f0 f2 f8 f11 f12 f13 f17 f18 f25 f26 f27 f28 f29 f30 f31 f32 f33 f34 f35 f36 f37 f38 f39 f40 f43 o H locs ls hf hP hD hS hl hexit
    rw [q_X5_stone_L236] at hf
    refine lv_iload hx hb dX5_stone_236 (lv_at hl 1 rfl) ?_
    refine lv_bipush (v := 6) hx hb dX5_stone_238 (by decide) ?_
    refine lv_icmp_ge (tgt := 281) hx hb dX5_stone_240 (by decide) (fun c1 => ?_) (fun c1 => ?_)
    · replace hf := z_ip hf c1
      obtain rfl := Option.some.inj hf
      exact hexit _ _ _ hP hD hS (lv_sub hl [0] rfl)
    · replace hf := z_im hf c1
      refine lv_aload_n hx hb dX5_stone_243 rfl (lv_at hl 0 rfl) ?_
      refine va_get (D := (dC, dI)) (ci := 5) (v := .ref (a 40)) (C := RX5) (T := TX5) (N := 44) hx hb hts (fun w hw => List.mem_cons_of_mem _ (List.mem_append_right _ hw)) hown hK hP 0 rfl rfl 40 (by decide) (hts (.fieldLink RX5 87 "OldStadiumModel" "joined" "[Z") (List.mem_of_getElem? (i := 7) rfl)) (fun _ h9 => h9) rfl dX5_stone_244 ?_
      refine lv_bipush (v := 6) hx hb dX5_stone_247 (by decide) ?_
      refine lv_aload_n hx hb dX5_stone_249 rfl (lv_at hl 0 rfl) ?_
      refine va_get (D := (dC, dI)) (ci := 5) (v := .int x41) (C := RX5) (T := TX5) (N := 44) hx hb hts (fun w hw => List.mem_cons_of_mem _ (List.mem_append_right _ hw)) hown hK hP 0 rfl rfl 41 (by decide) (hts (.fieldLink RX5 187 "OldStadiumModel" "stones" "I") (List.mem_of_getElem? (i := 1) rfl)) (fun _ h9 => h9) rfl dX5_stone_250 ?_
      refine lv_imul hx hb dX5_stone_253 ?_
      refine lv_iload hx hb dX5_stone_254 (lv_at hl 1 rfl) ?_
      refine lv_iadd hx hb dX5_stone_256 ?_
      refine lv_iconst (v := 0) hx hb dX5_stone_257 (by decide) ?_
      have b2 := z_c1 hf
      replace hf := z_c2 hf
      refine va_zast hx hb hK hP hD hS 24 1 rfl rfl b2 dX5_stone_258 (fun H locs hP hD hS => ?_)
      replace hP : va_P (dC, dI) vwCl (wX5 cI cZ cJ cA h0 a x1 x3 x4 x5 x6 x7 x9 x10 x14 x15 x16 x19 x20 x21 x22 x23 x24 x41 x42 f0 f2 f8 f11 f12 f13 f17 f18 f25 f26 f27 f28 f29 f30 f31 f32 f33 f34 f35 f36 f37 f38 f39 (upd f40 (Int32.toNatClampNeg ((6 * x41) + v7)) (vp_nar .boolean 0)) f43) H := hP
      replace hD : va_D A (wX5 cI cZ cJ cA h0 a x1 x3 x4 x5 x6 x7 x9 x10 x14 x15 x16 x19 x20 x21 x22 x23 x24 x41 x42 f0 f2 f8 f11 f12 f13 f17 f18 f25 f26 f27 f28 f29 f30 f31 f32 f33 f34 f35 f36 f37 f38 f39 (upd f40 (Int32.toNatClampNeg ((6 * x41) + v7)) (vp_nar .boolean 0)) f43) := hD
      refine lv_aload_n hx hb dX5_stone_259 rfl (lv_at hl 0 rfl) ?_
      refine va_get (D := (dC, dI)) (ci := 5) (v := .ref (a 40)) (C := RX5) (T := TX5) (N := 44) hx hb hts (fun w hw => List.mem_cons_of_mem _ (List.mem_append_right _ hw)) hown hK hP 0 rfl rfl 40 (by decide) (hts (.fieldLink RX5 87 "OldStadiumModel" "joined" "[Z") (List.mem_of_getElem? (i := 7) rfl)) (fun _ h9 => h9) rfl dX5_stone_260 ?_
      refine lv_bipush (v := 6) hx hb dX5_stone_263 (by decide) ?_
      refine lv_iload hx hb dX5_stone_265 (lv_at hl 1 rfl) ?_
      refine lv_imul hx hb dX5_stone_267 ?_
      refine lv_aload_n hx hb dX5_stone_268 rfl (lv_at hl 0 rfl) ?_
      refine va_get (D := (dC, dI)) (ci := 5) (v := .int x41) (C := RX5) (T := TX5) (N := 44) hx hb hts (fun w hw => List.mem_cons_of_mem _ (List.mem_append_right _ hw)) hown hK hP 0 rfl rfl 41 (by decide) (hts (.fieldLink RX5 187 "OldStadiumModel" "stones" "I") (List.mem_of_getElem? (i := 1) rfl)) (fun _ h9 => h9) rfl dX5_stone_269 ?_
      refine lv_iadd hx hb dX5_stone_272 ?_
      refine lv_iconst (v := 0) hx hb dX5_stone_273 (by decide) ?_
      have b3 := z_c1 hf
      replace hf := z_c2 hf
      refine va_zast hx hb hK hP hD hS 24 1 rfl rfl b3 dX5_stone_274 (fun H locs hP hD hS => ?_)
      replace hP : va_P (dC, dI) vwCl (wX5 cI cZ cJ cA h0 a x1 x3 x4 x5 x6 x7 x9 x10 x14 x15 x16 x19 x20 x21 x22 x23 x24 x41 x42 f0 f2 f8 f11 f12 f13 f17 f18 f25 f26 f27 f28 f29 f30 f31 f32 f33 f34 f35 f36 f37 f38 f39 (upd (upd f40 (Int32.toNatClampNeg ((6 * x41) + v7)) (vp_nar .boolean 0)) (Int32.toNatClampNeg ((6 * v7) + x41)) (vp_nar .boolean 0)) f43) H := hP
      replace hD : va_D A (wX5 cI cZ cJ cA h0 a x1 x3 x4 x5 x6 x7 x9 x10 x14 x15 x16 x19 x20 x21 x22 x23 x24 x41 x42 f0 f2 f8 f11 f12 f13 f17 f18 f25 f26 f27 f28 f29 f30 f31 f32 f33 f34 f35 f36 f37 f38 f39 (upd (upd f40 (Int32.toNatClampNeg ((6 * x41) + v7)) (vp_nar .boolean 0)) (Int32.toNatClampNeg ((6 * v7) + x41)) (vp_nar .boolean 0)) f43) := hD
      refine lv_iinc (v := (v7 + 1)) (lv' := [(7, .int (v7 + 1)), (0, .ref h0)]) hx hb dX5_stone_275 hl (k := 1) rfl rfl (by decide) rfl (fun ls hl => ?_)
      refine lv_goto (tgt := 236) hx hb dX5_stone_278 (by decide) ?_
      exact ih hf hP hD hS (lv_sub hl [1, 0] rfl) hexit
def q_X5_stone (N : Nat) (v1 : Int32) (v2 : Int32) (v3 : Int32) (v4 : Int32) (v5 : Int32) (v6 : Int32) (x41 : Int32) (f35 : (Nat → Int32)) (f36 : (Nat → Int32)) (f37 : (Nat → Int32)) (f38 : (Nat → Int32)) (f39 : (Nat → Int32)) (f40 : (Nat → Int32)) : Option (Int32 × Int32 × (Nat → Int32) × (Nat → Int32) × (Nat → Int32) × (Nat → Int32) × (Nat → Int32) × (Nat → Int32)) :=
  (Option.bind (q_X5_in N v1 0 3) (fun o1 =>
  (if o1 = 0 then
   (some ((-1), x41, f35, f36, f37, f38, f39, f40))
  else
   (Option.bind (q_X5_in N v2 0 40) (fun o3 =>
   (if o3 = 0 then
    (some ((-1), x41, f35, f36, f37, f38, f39, f40))
   else
    (Option.bind (q_X5_in N v3 v2 40) (fun o5 =>
    (if o5 = 0 then
     (some ((-1), x41, f35, f36, f37, f38, f39, f40))
    else
     (if 5 < (v3 - v2) then
      (some ((-1), x41, f35, f36, f37, f38, f39, f40))
     else
      (Option.bind (q_X5_in N v6 (-1) 9) (fun o8 =>
      (if o8 = 0 then
       (some ((-1), x41, f35, f36, f37, f38, f39, f40))
      else
       (if x41 = 6 then
        (some ((-1), x41, f35, f36, f37, f38, f39, f40))
       else
        (Option.bind (q_X5_stone_L61 N v4 v5 x41 f35 f36 f37 f38 f39 f40 N 0) (Sum.elim (fun r13 => (some r13)) (fun s12 =>
        (Option.bind (q_X5_stone_L118 N v4 v5 x41 N 0 f38) (fun t14 =>
        (if z_in x41 6 then
        (Option.bind (q_X5_stone_L236 N x41 N 0 f40) (fun t16 =>
        (some (((x41 + 1) - 1), (x41 + 1), (upd f35 (Int32.toNatClampNeg x41) v1), (upd f36 (Int32.toNatClampNeg x41) v2), (upd f37 (Int32.toNatClampNeg x41) v3), t14, (upd f39 (Int32.toNatClampNeg x41) v6), t16))))
        else none))))))))))))))))))))
set_option maxHeartbeats 4000000 in
set_option maxRecDepth 100000 in
theorem b_X5_stone {p : Program} {l : Launch} {e : Env} {R : Room} {s : State} {m : MethodId} {args : Array Value} {below : List Frame} {meth : Method} {c : Code} {Q : State → Prop} {A : Nat → Prop} {dC : Nat → ClassId} {dI : Nat → Nat → Nat} {cI cZ cJ cA : ClassId} {h0 : Nat} {a : Nat → Nat} (N : Nat) (C0 : z_Cx p s m args c cX5_stone 8 wsX5_stone RX5 R 1 22 A dC dI (z_ty cI cZ cJ cA)) {v1 : Int32} {v2 : Int32} {v3 : Int32} {v4 : Int32} {v5 : Int32} {v6 : Int32} {x1 : Int32} {x3 : Int32} {x4 : Int32} {x5 : Int32} {x6 : Int32} {x7 : Int32} {x9 : Int32} {x10 : Int32} {x14 : Int32} {x15 : Int32} {x16 : Int32} {x19 : Int32} {x20 : Int32} {x21 : Int32} {x22 : Int32} {x23 : Int32} {x24 : Int32} {x41 : Int32} {x42 : Int32} {f0 : (Nat → Int32)} {f2 : (Nat → Int32)} {f8 : (Nat → Int32)} {f11 : (Nat → Int32)} {f12 : (Nat → Int32)} {f13 : (Nat → Int32)} {f17 : (Nat → Int32)} {f18 : (Nat → Int32)} {f25 : (Nat → Int32)} {f26 : (Nat → Int32)} {f27 : (Nat → Int32)} {f28 : (Nat → Int32)} {f29 : (Nat → Int32)} {f30 : (Nat → Int32)} {f31 : (Nat → Int32)} {f32 : (Nat → Int32)} {f33 : (Nat → Int32)} {f34 : (Nat → Int32)} {f35 : (Nat → Int32)} {f36 : (Nat → Int32)} {f37 : (Nat → Int32)} {f38 : (Nat → Int32)} {f39 : (Nat → Int32)} {f40 : (Nat → Int32)} {f43 : (Nat → Int32)} {o : (Int32 × Int32 × (Nat → Int32) × (Nat → Int32) × (Nat → Int32) × (Nat → Int32) × (Nat → Int32) × (Nat → Int32))} {H : Heap} {locs : List Loc} {ls : Array Slot} (hf : q_X5_stone N v1 v2 v3 v4 v5 v6 x41 f35 f36 f37 f38 f39 f40 = some o) (hP : va_P (dC, dI) vwCl (wX5 cI cZ cJ cA h0 a x1 x3 x4 x5 x6 x7 x9 x10 x14 x15 x16 x19 x20 x21 x22 x23 x24 x41 x42 f0 f2 f8 f11 f12 f13 f17 f18 f25 f26 f27 f28 f29 f30 f31 f32 f33 f34 f35 f36 f37 f38 f39 f40 f43) H) (hD : va_D A (wX5 cI cZ cJ cA h0 a x1 x3 x4 x5 x6 x7 x9 x10 x14 x15 x16 x19 x20 x21 x22 x23 x24 x41 x42 f0 f2 f8 f11 f12 f13 f17 f18 f25 f26 f27 f28 f29 f30 f31 f32 f33 f34 f35 f36 f37 f38 f39 f40 f43)) (hS : va_S A s.heap H locs) (hl : lv_has ls 8 [(0, .ref h0), (1, .int v1), (2, .int v2), (3, .int v3), (4, .int v4), (5, .int v5), (6, .int v6)])
    (hret : ∀ (pc : Nat) (H : Heap) (locs : List Loc) (ls : Array Slot) (r : Int32), decode cX5_stone pc = .ok (.ireturn, 1) → r = o.1 → va_P (dC, dI) vwCl (wX5 cI cZ cJ cA h0 a x1 x3 x4 x5 x6 x7 x9 x10 x14 x15 x16 x19 x20 x21 x22 x23 x24 o.2.1 x42 f0 f2 f8 f11 f12 f13 f17 f18 f25 f26 f27 f28 f29 f30 f31 f32 f33 f34 o.2.2.1 o.2.2.2.1 o.2.2.2.2.1 o.2.2.2.2.2.1 o.2.2.2.2.2.2.1 o.2.2.2.2.2.2.2 f43) H → va_D A (wX5 cI cZ cJ cA h0 a x1 x3 x4 x5 x6 x7 x9 x10 x14 x15 x16 x19 x20 x21 x22 x23 x24 o.2.1 x42 f0 f2 f8 f11 f12 f13 f17 f18 f25 f26 f27 f28 f29 f30 f31 f32 f33 f34 o.2.2.1 o.2.2.2.1 o.2.2.2.2.1 o.2.2.2.2.2.1 o.2.2.2.2.2.2.1 o.2.2.2.2.2.2.2 f43) → va_S A s.heap H locs → W p l e R s m args below meth c H locs 0 0 Q (F0 m pc ls [.int r])) :
    W p l e R s m args below meth c H locs 0 0 Q (F0 m 0 ls []) := by
  obtain ⟨⟨hx, hb, hml, hown, hts⟩, hRf, hRl, hA, hN, hK⟩ := C0
  unfold q_X5_stone at hf
  refine lv_iload_n hx hb dX5_stone_0 rfl (lv_at hl 1 rfl) ?_
  refine lv_iconst (v := 0) hx hb dX5_stone_1 (by decide) ?_
  refine lv_iconst (v := 3) hx hb dX5_stone_2 (by decide) ?_
  obtain ⟨o1, ho1, hf1⟩ := z_ib hf
  replace hf := hf1
  clear hf1
  refine z_S0 (As := [.int v1, .int 0, .int 3]) (rest := []) ⟨hx, hb, hml, hown, hts⟩ (k_X5_in l dC dI cI cZ cJ cA H.size N v1 0 3 o1 ho1) (va_cwS 3 hts gX5_stone_X5_in rfl rfl rfl (by decide +kernel) ⟨Nat.le_trans (Nat.le_of_ble_eq_true rfl) hRf, Nat.le_trans (Nat.le_of_ble_eq_true rfl) hRl⟩) hK hP hS hA hN rfl hl.1 rfl (Nat.le_of_ble_eq_true rfl) dX5_stone_3 (fun H locs hP hS => ?_)
  refine lv_if_eq (tgt := 56) hx hb dX5_stone_6 (by decide) (fun c2 => ?_) (fun c2 => ?_)
  · replace hf := z_ip hf c2
    refine lv_iconst (v := (-1)) hx hb dX5_stone_56 (by decide) ?_
    obtain rfl := Option.some.inj hf
    exact hret _ _ _ _ _ dX5_stone_57 rfl hP hD hS
  · replace hf := z_im hf c2
    refine lv_iload_n hx hb dX5_stone_9 rfl (lv_at hl 2 rfl) ?_
    refine lv_iconst (v := 0) hx hb dX5_stone_10 (by decide) ?_
    refine lv_bipush (v := 40) hx hb dX5_stone_11 (by decide) ?_
    obtain ⟨o3, ho3, hf1⟩ := z_ib hf
    replace hf := hf1
    clear hf1
    refine z_S0 (As := [.int v2, .int 0, .int 40]) (rest := []) ⟨hx, hb, hml, hown, hts⟩ (k_X5_in l dC dI cI cZ cJ cA H.size N v2 0 40 o3 ho3) (va_cwS 3 hts gX5_stone_X5_in rfl rfl rfl (by decide +kernel) ⟨Nat.le_trans (Nat.le_of_ble_eq_true rfl) hRf, Nat.le_trans (Nat.le_of_ble_eq_true rfl) hRl⟩) hK hP hS hA hN rfl hl.1 rfl (Nat.le_of_ble_eq_true rfl) dX5_stone_13 (fun H locs hP hS => ?_)
    refine lv_if_eq (tgt := 56) hx hb dX5_stone_16 (by decide) (fun c4 => ?_) (fun c4 => ?_)
    · replace hf := z_ip hf c4
      refine lv_iconst (v := (-1)) hx hb dX5_stone_56 (by decide) ?_
      obtain rfl := Option.some.inj hf
      exact hret _ _ _ _ _ dX5_stone_57 rfl hP hD hS
    · replace hf := z_im hf c4
      refine lv_iload_n hx hb dX5_stone_19 rfl (lv_at hl 3 rfl) ?_
      refine lv_iload_n hx hb dX5_stone_20 rfl (lv_at hl 2 rfl) ?_
      refine lv_bipush (v := 40) hx hb dX5_stone_21 (by decide) ?_
      obtain ⟨o5, ho5, hf1⟩ := z_ib hf
      replace hf := hf1
      clear hf1
      refine z_S0 (As := [.int v3, .int v2, .int 40]) (rest := []) ⟨hx, hb, hml, hown, hts⟩ (k_X5_in l dC dI cI cZ cJ cA H.size N v3 v2 40 o5 ho5) (va_cwS 3 hts gX5_stone_X5_in rfl rfl rfl (by decide +kernel) ⟨Nat.le_trans (Nat.le_of_ble_eq_true rfl) hRf, Nat.le_trans (Nat.le_of_ble_eq_true rfl) hRl⟩) hK hP hS hA hN rfl hl.1 rfl (Nat.le_of_ble_eq_true rfl) dX5_stone_23 (fun H locs hP hS => ?_)
      refine lv_if_eq (tgt := 56) hx hb dX5_stone_26 (by decide) (fun c6 => ?_) (fun c6 => ?_)
      · replace hf := z_ip hf c6
        refine lv_iconst (v := (-1)) hx hb dX5_stone_56 (by decide) ?_
        obtain rfl := Option.some.inj hf
        exact hret _ _ _ _ _ dX5_stone_57 rfl hP hD hS
      · replace hf := z_im hf c6
        refine lv_iload_n hx hb dX5_stone_29 rfl (lv_at hl 3 rfl) ?_
        refine lv_iload_n hx hb dX5_stone_30 rfl (lv_at hl 2 rfl) ?_
        refine lv_isub hx hb dX5_stone_31 ?_
        refine lv_iconst (v := 5) hx hb dX5_stone_32 (by decide) ?_
        refine lv_icmp_gt (tgt := 56) hx hb dX5_stone_33 (by decide) (fun c7 => ?_) (fun c7 => ?_)
        · replace hf := z_ip hf c7
          refine lv_iconst (v := (-1)) hx hb dX5_stone_56 (by decide) ?_
          obtain rfl := Option.some.inj hf
          exact hret _ _ _ _ _ dX5_stone_57 rfl hP hD hS
        · replace hf := z_im hf c7
          refine lv_iload hx hb dX5_stone_36 (lv_at hl 6 rfl) ?_
          refine lv_iconst (v := (-1)) hx hb dX5_stone_38 (by decide) ?_
          refine lv_bipush (v := 9) hx hb dX5_stone_39 (by decide) ?_
          obtain ⟨o8, ho8, hf1⟩ := z_ib hf
          replace hf := hf1
          clear hf1
          refine z_S0 (As := [.int v6, .int (-1), .int 9]) (rest := []) ⟨hx, hb, hml, hown, hts⟩ (k_X5_in l dC dI cI cZ cJ cA H.size N v6 (-1) 9 o8 ho8) (va_cwS 3 hts gX5_stone_X5_in rfl rfl rfl (by decide +kernel) ⟨Nat.le_trans (Nat.le_of_ble_eq_true rfl) hRf, Nat.le_trans (Nat.le_of_ble_eq_true rfl) hRl⟩) hK hP hS hA hN rfl hl.1 rfl (Nat.le_of_ble_eq_true rfl) dX5_stone_41 (fun H locs hP hS => ?_)
          refine lv_if_eq (tgt := 56) hx hb dX5_stone_44 (by decide) (fun c9 => ?_) (fun c9 => ?_)
          · replace hf := z_ip hf c9
            refine lv_iconst (v := (-1)) hx hb dX5_stone_56 (by decide) ?_
            obtain rfl := Option.some.inj hf
            exact hret _ _ _ _ _ dX5_stone_57 rfl hP hD hS
          · replace hf := z_im hf c9
            refine lv_aload_n hx hb dX5_stone_47 rfl (lv_at hl 0 rfl) ?_
            refine va_get (D := (dC, dI)) (ci := 5) (v := .int x41) (C := RX5) (T := TX5) (N := 44) hx hb hts (fun w hw => List.mem_cons_of_mem _ (List.mem_append_right _ hw)) hown hK hP 0 rfl rfl 41 (by decide) (hts (.fieldLink RX5 187 "OldStadiumModel" "stones" "I") (List.mem_of_getElem? (i := 1) rfl)) (fun _ h9 => h9) rfl dX5_stone_48 ?_
            refine lv_bipush (v := 6) hx hb dX5_stone_51 (by decide) ?_
            refine lv_icmp_ne (tgt := 58) hx hb dX5_stone_53 (by decide) (fun c10 => ?_) (fun c10 => ?_)
            · replace hf := z_im hf c10
              refine lv_iconst (v := 0) hx hb dX5_stone_58 (by decide) ?_
              refine lv_istore (lv' := [(7, .int 0), (0, .ref h0), (1, .int v1), (2, .int v2), (3, .int v3), (4, .int v4), (5, .int v5), (6, .int v6)]) hx hb dX5_stone_59 hl (by decide) rfl (fun ls hl => ?_)
              obtain ⟨t11, ht11, hf1⟩ := z_ib hf
              replace hf := hf1
              clear hf1
              refine b_X5_stone_L61 N ⟨⟨hx, hb, hml, hown, hts⟩, hRf, hRl, hA, hN, hK⟩ N ht11 hP hD hS (lv_sub hl [1, 2, 3, 4, 5, 6, 7, 0] rfl) (fun r13 e1 pc H locs ls r0 hd hr hP hD hS => ?_) (fun s12 H locs ls e1 hP hD hS hl => ?_)
              · subst e1
                have hf := z_sl hf
                obtain rfl := Option.some.inj hf
                exact hret pc H locs ls r0 hd hr hP hD hS
              subst e1
              replace hf := z_sr hf
              refine lv_iconst (v := 0) hx hb dX5_stone_115 (by decide) ?_
              refine lv_istore (lv' := [(7, .int 0), (0, .ref h0), (1, .int v1), (2, .int v2), (3, .int v3), (4, .int v4), (5, .int v5), (6, .int v6)]) hx hb dX5_stone_116 hl (by decide) rfl (fun ls hl => ?_)
              obtain ⟨t14, ht14, hf1⟩ := z_ib hf
              replace hf := hf1
              clear hf1
              refine b_X5_stone_L118 N ⟨⟨hx, hb, hml, hown, hts⟩, hRf, hRl, hA, hN, hK⟩ N ht14 hP hD hS (lv_sub hl [1, 2, 3, 4, 5, 6, 7, 0] rfl) (fun H locs ls hP hD hS hl => ?_)
              refine lv_aload_n hx hb dX5_stone_192 rfl (lv_at hl 0 rfl) ?_
              refine va_get (D := (dC, dI)) (ci := 5) (v := .ref (a 35)) (C := RX5) (T := TX5) (N := 44) hx hb hts (fun w hw => List.mem_cons_of_mem _ (List.mem_append_right _ hw)) hown hK hP 0 rfl rfl 35 (by decide) (hts (.fieldLink RX5 72 "OldStadiumModel" "event" "[I") (List.mem_of_getElem? (i := 3) rfl)) (fun _ h9 => h9) rfl dX5_stone_193 ?_
              refine lv_aload_n hx hb dX5_stone_196 rfl (lv_at hl 0 rfl) ?_
              refine va_get (D := (dC, dI)) (ci := 5) (v := .int x41) (C := RX5) (T := TX5) (N := 44) hx hb hts (fun w hw => List.mem_cons_of_mem _ (List.mem_append_right _ hw)) hown hK hP 0 rfl rfl 41 (by decide) (hts (.fieldLink RX5 187 "OldStadiumModel" "stones" "I") (List.mem_of_getElem? (i := 1) rfl)) (fun _ h9 => h9) rfl dX5_stone_197 ?_
              refine lv_iload_n hx hb dX5_stone_200 rfl (lv_at hl 1 rfl) ?_
              have b15 := z_c1 hf
              replace hf := z_c2 hf
              refine va_iast hx hb hK hP hD hS 19 0 rfl rfl b15 dX5_stone_201 (fun H locs hP hD hS => ?_)
              replace hP : va_P (dC, dI) vwCl (wX5 cI cZ cJ cA h0 a x1 x3 x4 x5 x6 x7 x9 x10 x14 x15 x16 x19 x20 x21 x22 x23 x24 x41 x42 f0 f2 f8 f11 f12 f13 f17 f18 f25 f26 f27 f28 f29 f30 f31 f32 f33 f34 (upd f35 (Int32.toNatClampNeg x41) v1) f36 f37 t14 f39 f40 f43) H := hP
              replace hD : va_D A (wX5 cI cZ cJ cA h0 a x1 x3 x4 x5 x6 x7 x9 x10 x14 x15 x16 x19 x20 x21 x22 x23 x24 x41 x42 f0 f2 f8 f11 f12 f13 f17 f18 f25 f26 f27 f28 f29 f30 f31 f32 f33 f34 (upd f35 (Int32.toNatClampNeg x41) v1) f36 f37 t14 f39 f40 f43) := hD
              refine lv_aload_n hx hb dX5_stone_202 rfl (lv_at hl 0 rfl) ?_
              refine va_get (D := (dC, dI)) (ci := 5) (v := .ref (a 36)) (C := RX5) (T := TX5) (N := 44) hx hb hts (fun w hw => List.mem_cons_of_mem _ (List.mem_append_right _ hw)) hown hK hP 0 rfl rfl 36 (by decide) (hts (.fieldLink RX5 75 "OldStadiumModel" "from" "[I") (List.mem_of_getElem? (i := 4) rfl)) (fun _ h9 => h9) rfl dX5_stone_203 ?_
              refine lv_aload_n hx hb dX5_stone_206 rfl (lv_at hl 0 rfl) ?_
              refine va_get (D := (dC, dI)) (ci := 5) (v := .int x41) (C := RX5) (T := TX5) (N := 44) hx hb hts (fun w hw => List.mem_cons_of_mem _ (List.mem_append_right _ hw)) hown hK hP 0 rfl rfl 41 (by decide) (hts (.fieldLink RX5 187 "OldStadiumModel" "stones" "I") (List.mem_of_getElem? (i := 1) rfl)) (fun _ h9 => h9) rfl dX5_stone_207 ?_
              refine lv_iload_n hx hb dX5_stone_210 rfl (lv_at hl 2 rfl) ?_
              refine va_iast hx hb hK hP hD hS 20 0 rfl rfl b15 dX5_stone_211 (fun H locs hP hD hS => ?_)
              replace hP : va_P (dC, dI) vwCl (wX5 cI cZ cJ cA h0 a x1 x3 x4 x5 x6 x7 x9 x10 x14 x15 x16 x19 x20 x21 x22 x23 x24 x41 x42 f0 f2 f8 f11 f12 f13 f17 f18 f25 f26 f27 f28 f29 f30 f31 f32 f33 f34 (upd f35 (Int32.toNatClampNeg x41) v1) (upd f36 (Int32.toNatClampNeg x41) v2) f37 t14 f39 f40 f43) H := hP
              replace hD : va_D A (wX5 cI cZ cJ cA h0 a x1 x3 x4 x5 x6 x7 x9 x10 x14 x15 x16 x19 x20 x21 x22 x23 x24 x41 x42 f0 f2 f8 f11 f12 f13 f17 f18 f25 f26 f27 f28 f29 f30 f31 f32 f33 f34 (upd f35 (Int32.toNatClampNeg x41) v1) (upd f36 (Int32.toNatClampNeg x41) v2) f37 t14 f39 f40 f43) := hD
              refine lv_aload_n hx hb dX5_stone_212 rfl (lv_at hl 0 rfl) ?_
              refine va_get (D := (dC, dI)) (ci := 5) (v := .ref (a 37)) (C := RX5) (T := TX5) (N := 44) hx hb hts (fun w hw => List.mem_cons_of_mem _ (List.mem_append_right _ hw)) hown hK hP 0 rfl rfl 37 (by decide) (hts (.fieldLink RX5 78 "OldStadiumModel" "to" "[I") (List.mem_of_getElem? (i := 5) rfl)) (fun _ h9 => h9) rfl dX5_stone_213 ?_
              refine lv_aload_n hx hb dX5_stone_216 rfl (lv_at hl 0 rfl) ?_
              refine va_get (D := (dC, dI)) (ci := 5) (v := .int x41) (C := RX5) (T := TX5) (N := 44) hx hb hts (fun w hw => List.mem_cons_of_mem _ (List.mem_append_right _ hw)) hown hK hP 0 rfl rfl 41 (by decide) (hts (.fieldLink RX5 187 "OldStadiumModel" "stones" "I") (List.mem_of_getElem? (i := 1) rfl)) (fun _ h9 => h9) rfl dX5_stone_217 ?_
              refine lv_iload_n hx hb dX5_stone_220 rfl (lv_at hl 3 rfl) ?_
              refine va_iast hx hb hK hP hD hS 21 0 rfl rfl b15 dX5_stone_221 (fun H locs hP hD hS => ?_)
              replace hP : va_P (dC, dI) vwCl (wX5 cI cZ cJ cA h0 a x1 x3 x4 x5 x6 x7 x9 x10 x14 x15 x16 x19 x20 x21 x22 x23 x24 x41 x42 f0 f2 f8 f11 f12 f13 f17 f18 f25 f26 f27 f28 f29 f30 f31 f32 f33 f34 (upd f35 (Int32.toNatClampNeg x41) v1) (upd f36 (Int32.toNatClampNeg x41) v2) (upd f37 (Int32.toNatClampNeg x41) v3) t14 f39 f40 f43) H := hP
              replace hD : va_D A (wX5 cI cZ cJ cA h0 a x1 x3 x4 x5 x6 x7 x9 x10 x14 x15 x16 x19 x20 x21 x22 x23 x24 x41 x42 f0 f2 f8 f11 f12 f13 f17 f18 f25 f26 f27 f28 f29 f30 f31 f32 f33 f34 (upd f35 (Int32.toNatClampNeg x41) v1) (upd f36 (Int32.toNatClampNeg x41) v2) (upd f37 (Int32.toNatClampNeg x41) v3) t14 f39 f40 f43) := hD
              refine lv_aload_n hx hb dX5_stone_222 rfl (lv_at hl 0 rfl) ?_
              refine va_get (D := (dC, dI)) (ci := 5) (v := .ref (a 39)) (C := RX5) (T := TX5) (N := 44) hx hb hts (fun w hw => List.mem_cons_of_mem _ (List.mem_append_right _ hw)) hown hK hP 0 rfl rfl 39 (by decide) (hts (.fieldLink RX5 84 "OldStadiumModel" "stoneTown" "[I") (List.mem_of_getElem? (i := 6) rfl)) (fun _ h9 => h9) rfl dX5_stone_223 ?_
              refine lv_aload_n hx hb dX5_stone_226 rfl (lv_at hl 0 rfl) ?_
              refine va_get (D := (dC, dI)) (ci := 5) (v := .int x41) (C := RX5) (T := TX5) (N := 44) hx hb hts (fun w hw => List.mem_cons_of_mem _ (List.mem_append_right _ hw)) hown hK hP 0 rfl rfl 41 (by decide) (hts (.fieldLink RX5 187 "OldStadiumModel" "stones" "I") (List.mem_of_getElem? (i := 1) rfl)) (fun _ h9 => h9) rfl dX5_stone_227 ?_
              refine lv_iload hx hb dX5_stone_230 (lv_at hl 4 rfl) ?_
              refine va_iast hx hb hK hP hD hS 23 0 rfl rfl b15 dX5_stone_232 (fun H locs hP hD hS => ?_)
              replace hP : va_P (dC, dI) vwCl (wX5 cI cZ cJ cA h0 a x1 x3 x4 x5 x6 x7 x9 x10 x14 x15 x16 x19 x20 x21 x22 x23 x24 x41 x42 f0 f2 f8 f11 f12 f13 f17 f18 f25 f26 f27 f28 f29 f30 f31 f32 f33 f34 (upd f35 (Int32.toNatClampNeg x41) v1) (upd f36 (Int32.toNatClampNeg x41) v2) (upd f37 (Int32.toNatClampNeg x41) v3) t14 (upd f39 (Int32.toNatClampNeg x41) v6) f40 f43) H := hP
              replace hD : va_D A (wX5 cI cZ cJ cA h0 a x1 x3 x4 x5 x6 x7 x9 x10 x14 x15 x16 x19 x20 x21 x22 x23 x24 x41 x42 f0 f2 f8 f11 f12 f13 f17 f18 f25 f26 f27 f28 f29 f30 f31 f32 f33 f34 (upd f35 (Int32.toNatClampNeg x41) v1) (upd f36 (Int32.toNatClampNeg x41) v2) (upd f37 (Int32.toNatClampNeg x41) v3) t14 (upd f39 (Int32.toNatClampNeg x41) v6) f40 f43) := hD
              refine lv_iconst (v := 0) hx hb dX5_stone_233 (by decide) ?_
              refine lv_istore (lv' := [(7, .int 0), (0, .ref h0), (1, .int v1), (2, .int v2), (3, .int v3), (6, .int v6)]) hx hb dX5_stone_234 hl (by decide) rfl (fun ls hl => ?_)
              obtain ⟨t16, ht16, hf1⟩ := z_ib hf
              replace hf := hf1
              clear hf1
              refine b_X5_stone_L236 N ⟨⟨hx, hb, hml, hown, hts⟩, hRf, hRl, hA, hN, hK⟩ N ht16 hP hD hS (lv_sub hl [1, 0] rfl) (fun H locs ls hP hD hS hl => ?_)
              refine lv_aload_n hx hb dX5_stone_281 rfl (lv_at hl 0 rfl) ?_
              refine lv_dup hx hb dX5_stone_282 rfl ?_
              refine va_get (D := (dC, dI)) (ci := 5) (v := .int x41) (C := RX5) (T := TX5) (N := 44) hx hb hts (fun w hw => List.mem_cons_of_mem _ (List.mem_append_right _ hw)) hown hK hP 0 rfl rfl 41 (by decide) (hts (.fieldLink RX5 187 "OldStadiumModel" "stones" "I") (List.mem_of_getElem? (i := 1) rfl)) (fun _ h9 => h9) rfl dX5_stone_283 ?_
              refine lv_iconst (v := 1) hx hb dX5_stone_286 (by decide) ?_
              refine lv_iadd hx hb dX5_stone_287 ?_
              refine va_put (D := (dC, dI)) (ci := 5) (v := .int (x41 + 1)) (ty := .int) (C := RX5) (T := TX5) (N := 44) hx hb hts (fun w hw => List.mem_cons_of_mem _ (List.mem_append_right _ hw)) tyX5 tyX5_ok nmX5 hown hK hP hD hS 0 rfl rfl 41 (by decide) (hts (.fieldLink RX5 187 "OldStadiumModel" "stones" "I") (List.mem_of_getElem? (i := 1) rfl)) (fun _ h9 => h9) rfl (by decide +kernel) rfl rfl (Nat.le_of_ble_eq_true rfl) dX5_stone_288 (fun H locs hP hD hS => ?_)
              replace hP : va_P (dC, dI) vwCl (wX5 cI cZ cJ cA h0 a x1 x3 x4 x5 x6 x7 x9 x10 x14 x15 x16 x19 x20 x21 x22 x23 x24 (x41 + 1) x42 f0 f2 f8 f11 f12 f13 f17 f18 f25 f26 f27 f28 f29 f30 f31 f32 f33 f34 (upd f35 (Int32.toNatClampNeg x41) v1) (upd f36 (Int32.toNatClampNeg x41) v2) (upd f37 (Int32.toNatClampNeg x41) v3) t14 (upd f39 (Int32.toNatClampNeg x41) v6) t16 f43) H := hP
              replace hD : va_D A (wX5 cI cZ cJ cA h0 a x1 x3 x4 x5 x6 x7 x9 x10 x14 x15 x16 x19 x20 x21 x22 x23 x24 (x41 + 1) x42 f0 f2 f8 f11 f12 f13 f17 f18 f25 f26 f27 f28 f29 f30 f31 f32 f33 f34 (upd f35 (Int32.toNatClampNeg x41) v1) (upd f36 (Int32.toNatClampNeg x41) v2) (upd f37 (Int32.toNatClampNeg x41) v3) t14 (upd f39 (Int32.toNatClampNeg x41) v6) t16 f43) := hD
              refine lv_aload_n hx hb dX5_stone_291 rfl (lv_at hl 0 rfl) ?_
              refine va_get (D := (dC, dI)) (ci := 5) (v := .int (x41 + 1)) (C := RX5) (T := TX5) (N := 44) hx hb hts (fun w hw => List.mem_cons_of_mem _ (List.mem_append_right _ hw)) hown hK hP 0 rfl rfl 41 (by decide) (hts (.fieldLink RX5 187 "OldStadiumModel" "stones" "I") (List.mem_of_getElem? (i := 1) rfl)) (fun _ h9 => h9) rfl dX5_stone_292 ?_
              refine lv_iconst (v := 1) hx hb dX5_stone_295 (by decide) ?_
              refine lv_isub hx hb dX5_stone_296 ?_
              obtain rfl := Option.some.inj hf
              exact hret _ _ _ _ _ dX5_stone_297 rfl hP hD hS
            · replace hf := z_ip hf c10
              refine lv_iconst (v := (-1)) hx hb dX5_stone_56 (by decide) ?_
              obtain rfl := Option.some.inj hf
              exact hret _ _ _ _ _ dX5_stone_57 rfl hP hD hS
set_option maxHeartbeats 4000000 in
set_option maxRecDepth 100000 in
theorem k_X5_stone (l : Launch) (dC : Nat → ClassId) (dI : Nat → Nat → Nat) (cI cZ cJ cA : ClassId) (h0 : Nat) (a : Nat → Nat) (sz : Nat) (N : Nat) (v1 : Int32) (v2 : Int32) (v3 : Int32) (v4 : Int32) (v5 : Int32) (v6 : Int32) (x1 : Int32) (x3 : Int32) (x4 : Int32) (x5 : Int32) (x6 : Int32) (x7 : Int32) (x9 : Int32) (x10 : Int32) (x14 : Int32) (x15 : Int32) (x16 : Int32) (x19 : Int32) (x20 : Int32) (x21 : Int32) (x22 : Int32) (x23 : Int32) (x24 : Int32) (x41 : Int32) (x42 : Int32) (f0 : (Nat → Int32)) (f2 : (Nat → Int32)) (f8 : (Nat → Int32)) (f11 : (Nat → Int32)) (f12 : (Nat → Int32)) (f13 : (Nat → Int32)) (f17 : (Nat → Int32)) (f18 : (Nat → Int32)) (f25 : (Nat → Int32)) (f26 : (Nat → Int32)) (f27 : (Nat → Int32)) (f28 : (Nat → Int32)) (f29 : (Nat → Int32)) (f30 : (Nat → Int32)) (f31 : (Nat → Int32)) (f32 : (Nat → Int32)) (f33 : (Nat → Int32)) (f34 : (Nat → Int32)) (f35 : (Nat → Int32)) (f36 : (Nat → Int32)) (f37 : (Nat → Int32)) (f38 : (Nat → Int32)) (f39 : (Nat → Int32)) (f40 : (Nat → Int32)) (f43 : (Nat → Int32)) (o : (Int32 × Int32 × (Nat → Int32) × (Nat → Int32) × (Nat → Int32) × (Nat → Int32) × (Nat → Int32) × (Nat → Int32))) (hf : q_X5_stone N v1 v2 v3 v4 v5 v6 x41 f35 f36 f37 f38 f39 f40 = some o) : Met l yX5_stone wsX5_stone ({ frames := 1, cells := 0, slots := 0, locals := 22 } : Room) (z_Pre dC dI (z_ty cI cZ cJ cA) [.ref h0, .int v1, .int v2, .int v3, .int v4, .int v5, .int v6] sz (wX5 cI cZ cJ cA h0 a x1 x3 x4 x5 x6 x7 x9 x10 x14 x15 x16 x19 x20 x21 x22 x23 x24 x41 x42 f0 f2 f8 f11 f12 f13 f17 f18 f25 f26 f27 f28 f29 f30 f31 f32 f33 f34 f35 f36 f37 f38 f39 f40 f43)) (z_Pi dC dI o.1 (wX5 cI cZ cJ cA h0 a x1 x3 x4 x5 x6 x7 x9 x10 x14 x15 x16 x19 x20 x21 x22 x23 x24 o.2.1 x42 f0 f2 f8 f11 f12 f13 f17 f18 f25 f26 f27 f28 f29 f30 f31 f32 f33 f34 o.2.2.1 o.2.2.2.1 o.2.2.2.2.1 o.2.2.2.2.2.1 o.2.2.2.2.2.2.1 o.2.2.2.2.2.2.2 f43) sz (wX5 cI cZ cJ cA h0 a x1 x3 x4 x5 x6 x7 x9 x10 x14 x15 x16 x19 x20 x21 x22 x23 x24 x41 x42 f0 f2 f8 f11 f12 f13 f17 f18 f25 f26 f27 f28 f29 f30 f31 f32 f33 f34 f35 f36 f37 f38 f39 f40 f43)) 0 0 (va_A (wX5 cI cZ cJ cA h0 a x1 x3 x4 x5 x6 x7 x9 x10 x14 x15 x16 x19 x20 x21 x22 x23 x24 x41 x42 f0 f2 f8 f11 f12 f13 f17 f18 f25 f26 f27 f28 f29 f30 f31 f32 f33 f34 f35 f36 f37 f38 f39 f40 f43) sz) := by
  refine Met.ofW (cc := cX5_stone) (maxL := 8) (ret := (some .int)) (by decide) rfl ?_
  intro p e s m args below meth c s₁ B hml hv
  obtain ⟨rfl, hsz, hP, hK, hD0, hN⟩ := hv
  subst hsz
  have hl := lv_entry ([.ref h0, .int v1, .int v2, .int v3, .int v4, .int v5, .int v6]) (n := 8) (Nat.le_of_ble_eq_true rfl)
  rw [lg_entry_eq]
  refine b_X5_stone N ⟨⟨B.exec, B.bytes, hml, findClass_of_methodNamed B.named, atoms_spec (ws := wsX5_stone) B.pre⟩, Nat.le_refl _, Nat.le_refl _, fun q h => Or.inr h, hN, hK⟩ hf hP hD0.self va_S.rf hl (fun pc H locs ls r hd hr hP hD hS => ?_)
  subst hr
  exact W.iret B.exec B.bytes B.returns (fun t ht hW => ⟨⟨_, (), rfl, rfl, by rw [ht]; exact hP, hD⟩, hS.F ht⟩) hS.2.2 hd
def q_X5_isStone (N : Nat) (v1 : Int32) (x41 : Int32) : Option Int32 :=
  (Option.bind (q_X5_in N v1 0 (x41 - 1)) (fun o1 =>
  (some o1)))
set_option maxHeartbeats 4000000 in
set_option maxRecDepth 100000 in
theorem b_X5_isStone {p : Program} {l : Launch} {e : Env} {R : Room} {s : State} {m : MethodId} {args : Array Value} {below : List Frame} {meth : Method} {c : Code} {Q : State → Prop} {A : Nat → Prop} {dC : Nat → ClassId} {dI : Nat → Nat → Nat} {cI cZ cJ cA : ClassId} {h0 : Nat} {a : Nat → Nat} (N : Nat) (C0 : z_Cx p s m args c cX5_isStone 2 wsX5_isStone RX5 R 1 22 A dC dI (z_ty cI cZ cJ cA)) {v1 : Int32} {x1 : Int32} {x3 : Int32} {x4 : Int32} {x5 : Int32} {x6 : Int32} {x7 : Int32} {x9 : Int32} {x10 : Int32} {x14 : Int32} {x15 : Int32} {x16 : Int32} {x19 : Int32} {x20 : Int32} {x21 : Int32} {x22 : Int32} {x23 : Int32} {x24 : Int32} {x41 : Int32} {x42 : Int32} {f0 : (Nat → Int32)} {f2 : (Nat → Int32)} {f8 : (Nat → Int32)} {f11 : (Nat → Int32)} {f12 : (Nat → Int32)} {f13 : (Nat → Int32)} {f17 : (Nat → Int32)} {f18 : (Nat → Int32)} {f25 : (Nat → Int32)} {f26 : (Nat → Int32)} {f27 : (Nat → Int32)} {f28 : (Nat → Int32)} {f29 : (Nat → Int32)} {f30 : (Nat → Int32)} {f31 : (Nat → Int32)} {f32 : (Nat → Int32)} {f33 : (Nat → Int32)} {f34 : (Nat → Int32)} {f35 : (Nat → Int32)} {f36 : (Nat → Int32)} {f37 : (Nat → Int32)} {f38 : (Nat → Int32)} {f39 : (Nat → Int32)} {f40 : (Nat → Int32)} {f43 : (Nat → Int32)} {o : Int32} {H : Heap} {locs : List Loc} {ls : Array Slot} (hf : q_X5_isStone N v1 x41 = some o) (hP : va_P (dC, dI) vwCl (wX5 cI cZ cJ cA h0 a x1 x3 x4 x5 x6 x7 x9 x10 x14 x15 x16 x19 x20 x21 x22 x23 x24 x41 x42 f0 f2 f8 f11 f12 f13 f17 f18 f25 f26 f27 f28 f29 f30 f31 f32 f33 f34 f35 f36 f37 f38 f39 f40 f43) H) (hD : va_D A (wX5 cI cZ cJ cA h0 a x1 x3 x4 x5 x6 x7 x9 x10 x14 x15 x16 x19 x20 x21 x22 x23 x24 x41 x42 f0 f2 f8 f11 f12 f13 f17 f18 f25 f26 f27 f28 f29 f30 f31 f32 f33 f34 f35 f36 f37 f38 f39 f40 f43)) (hS : va_S A s.heap H locs) (hl : lv_has ls 2 [(0, .ref h0), (1, .int v1)])
    (hret : ∀ (pc : Nat) (H : Heap) (locs : List Loc) (ls : Array Slot) (r : Int32), decode cX5_isStone pc = .ok (.ireturn, 1) → r = o → narrow .boolean (.int r) = .int r → va_P (dC, dI) vwCl (wX5 cI cZ cJ cA h0 a x1 x3 x4 x5 x6 x7 x9 x10 x14 x15 x16 x19 x20 x21 x22 x23 x24 x41 x42 f0 f2 f8 f11 f12 f13 f17 f18 f25 f26 f27 f28 f29 f30 f31 f32 f33 f34 f35 f36 f37 f38 f39 f40 f43) H → va_D A (wX5 cI cZ cJ cA h0 a x1 x3 x4 x5 x6 x7 x9 x10 x14 x15 x16 x19 x20 x21 x22 x23 x24 x41 x42 f0 f2 f8 f11 f12 f13 f17 f18 f25 f26 f27 f28 f29 f30 f31 f32 f33 f34 f35 f36 f37 f38 f39 f40 f43) → va_S A s.heap H locs → W p l e R s m args below meth c H locs 0 0 Q (F0 m pc ls [.int r])) :
    W p l e R s m args below meth c H locs 0 0 Q (F0 m 0 ls []) := by
  obtain ⟨⟨hx, hb, hml, hown, hts⟩, hRf, hRl, hA, hN, hK⟩ := C0
  unfold q_X5_isStone at hf
  refine lv_iload_n hx hb dX5_isStone_0 rfl (lv_at hl 1 rfl) ?_
  refine lv_iconst (v := 0) hx hb dX5_isStone_1 (by decide) ?_
  refine lv_aload_n hx hb dX5_isStone_2 rfl (lv_at hl 0 rfl) ?_
  refine va_get (D := (dC, dI)) (ci := 5) (v := .int x41) (C := RX5) (T := TX5) (N := 44) hx hb hts (fun w hw => List.mem_cons_of_mem _ (List.mem_append_right _ hw)) hown hK hP 0 rfl rfl 41 (by decide) (hts (.fieldLink RX5 187 "OldStadiumModel" "stones" "I") (List.mem_of_getElem? (i := 1) rfl)) (fun _ h9 => h9) rfl dX5_isStone_3 ?_
  refine lv_iconst (v := 1) hx hb dX5_isStone_6 (by decide) ?_
  refine lv_isub hx hb dX5_isStone_7 ?_
  obtain ⟨o1, ho1, hf1⟩ := z_ib hf
  replace hf := hf1
  clear hf1
  refine z_S0 (As := [.int v1, .int 0, .int (x41 - 1)]) (rest := []) ⟨hx, hb, hml, hown, hts⟩ (k_X5_in l dC dI cI cZ cJ cA H.size N v1 0 (x41 - 1) o1 ho1) (va_cwS 3 hts gX5_isStone_X5_in rfl rfl rfl (by decide +kernel) ⟨Nat.le_trans (Nat.le_of_ble_eq_true rfl) hRf, Nat.le_trans (Nat.le_of_ble_eq_true rfl) hRl⟩) hK hP hS hA hN rfl hl.1 rfl (Nat.le_of_ble_eq_true rfl) dX5_isStone_8 (fun H locs hP hS => ?_)
  obtain rfl := Option.some.inj hf
  exact hret _ _ _ _ _ dX5_isStone_11 rfl (zb_X5_in ho1) hP hD hS
set_option maxHeartbeats 4000000 in
set_option maxRecDepth 100000 in
theorem k_X5_isStone (l : Launch) (dC : Nat → ClassId) (dI : Nat → Nat → Nat) (cI cZ cJ cA : ClassId) (h0 : Nat) (a : Nat → Nat) (sz : Nat) (N : Nat) (v1 : Int32) (x1 : Int32) (x3 : Int32) (x4 : Int32) (x5 : Int32) (x6 : Int32) (x7 : Int32) (x9 : Int32) (x10 : Int32) (x14 : Int32) (x15 : Int32) (x16 : Int32) (x19 : Int32) (x20 : Int32) (x21 : Int32) (x22 : Int32) (x23 : Int32) (x24 : Int32) (x41 : Int32) (x42 : Int32) (f0 : (Nat → Int32)) (f2 : (Nat → Int32)) (f8 : (Nat → Int32)) (f11 : (Nat → Int32)) (f12 : (Nat → Int32)) (f13 : (Nat → Int32)) (f17 : (Nat → Int32)) (f18 : (Nat → Int32)) (f25 : (Nat → Int32)) (f26 : (Nat → Int32)) (f27 : (Nat → Int32)) (f28 : (Nat → Int32)) (f29 : (Nat → Int32)) (f30 : (Nat → Int32)) (f31 : (Nat → Int32)) (f32 : (Nat → Int32)) (f33 : (Nat → Int32)) (f34 : (Nat → Int32)) (f35 : (Nat → Int32)) (f36 : (Nat → Int32)) (f37 : (Nat → Int32)) (f38 : (Nat → Int32)) (f39 : (Nat → Int32)) (f40 : (Nat → Int32)) (f43 : (Nat → Int32)) (o : Int32) (hf : q_X5_isStone N v1 x41 = some o) : Met l yX5_isStone wsX5_isStone ({ frames := 1, cells := 0, slots := 0, locals := 22 } : Room) (z_Pre dC dI (z_ty cI cZ cJ cA) [.ref h0, .int v1] sz (wX5 cI cZ cJ cA h0 a x1 x3 x4 x5 x6 x7 x9 x10 x14 x15 x16 x19 x20 x21 x22 x23 x24 x41 x42 f0 f2 f8 f11 f12 f13 f17 f18 f25 f26 f27 f28 f29 f30 f31 f32 f33 f34 f35 f36 f37 f38 f39 f40 f43)) (z_Pi dC dI o (wX5 cI cZ cJ cA h0 a x1 x3 x4 x5 x6 x7 x9 x10 x14 x15 x16 x19 x20 x21 x22 x23 x24 x41 x42 f0 f2 f8 f11 f12 f13 f17 f18 f25 f26 f27 f28 f29 f30 f31 f32 f33 f34 f35 f36 f37 f38 f39 f40 f43) sz (wX5 cI cZ cJ cA h0 a x1 x3 x4 x5 x6 x7 x9 x10 x14 x15 x16 x19 x20 x21 x22 x23 x24 x41 x42 f0 f2 f8 f11 f12 f13 f17 f18 f25 f26 f27 f28 f29 f30 f31 f32 f33 f34 f35 f36 f37 f38 f39 f40 f43)) 0 0 (va_A (wX5 cI cZ cJ cA h0 a x1 x3 x4 x5 x6 x7 x9 x10 x14 x15 x16 x19 x20 x21 x22 x23 x24 x41 x42 f0 f2 f8 f11 f12 f13 f17 f18 f25 f26 f27 f28 f29 f30 f31 f32 f33 f34 f35 f36 f37 f38 f39 f40 f43) sz) := by
  refine Met.ofW (cc := cX5_isStone) (maxL := 2) (ret := (some .boolean)) (by decide) rfl ?_
  intro p e s m args below meth c s₁ B hml hv
  obtain ⟨rfl, hsz, hP, hK, hD0, hN⟩ := hv
  subst hsz
  have hl := lv_entry ([.ref h0, .int v1]) (n := 2) (Nat.le_of_ble_eq_true rfl)
  rw [lg_entry_eq]
  refine b_X5_isStone N ⟨⟨B.exec, B.bytes, hml, findClass_of_methodNamed B.named, atoms_spec (ws := wsX5_isStone) B.pre⟩, Nat.le_refl _, Nat.le_refl _, fun q h => Or.inr h, hN, hK⟩ hf hP hD0.self va_S.rf hl (fun pc H locs ls r hd hr hn hP hD hS => ?_)
  subst hr
  exact W.zret B.exec B.bytes B.returns hn (fun t ht hW => ⟨⟨_, (), rfl, rfl, by rw [ht]; exact hP, hD⟩, hS.F ht⟩) hS.2.2 hd
def q_X5_join (N : Nat) (v1 : Int32) (v2 : Int32) (v3 : Int32) (x41 : Int32) (f40 : (Nat → Int32)) : Option (Int32 × (Nat → Int32)) :=
  (Option.bind (q_X5_isStone N v1 x41) (fun o1 =>
  (if o1 = 0 then
   (some (0, f40))
  else
   (Option.bind (q_X5_isStone N v2 x41) (fun o3 =>
   (if o3 = 0 then
    (some (0, f40))
   else
    (if v1 = v2 then
     (some (0, f40))
    else
     (if z_in ((6 * v1) + v2) 36 then
     (if z_in ((6 * v2) + v1) 36 then
     (some (1, (upd (upd f40 (Int32.toNatClampNeg ((6 * v1) + v2)) (vp_nar .boolean v3)) (Int32.toNatClampNeg ((6 * v2) + v1)) (vp_nar .boolean v3))))
     else none)
     else none))))))))
set_option maxHeartbeats 4000000 in
set_option maxRecDepth 100000 in
theorem b_X5_join {p : Program} {l : Launch} {e : Env} {R : Room} {s : State} {m : MethodId} {args : Array Value} {below : List Frame} {meth : Method} {c : Code} {Q : State → Prop} {A : Nat → Prop} {dC : Nat → ClassId} {dI : Nat → Nat → Nat} {cI cZ cJ cA : ClassId} {h0 : Nat} {a : Nat → Nat} (N : Nat) (C0 : z_Cx p s m args c cX5_join 4 wsX5_join RX5 R 2 43 A dC dI (z_ty cI cZ cJ cA)) {v1 : Int32} {v2 : Int32} {v3 : Int32} {x1 : Int32} {x3 : Int32} {x4 : Int32} {x5 : Int32} {x6 : Int32} {x7 : Int32} {x9 : Int32} {x10 : Int32} {x14 : Int32} {x15 : Int32} {x16 : Int32} {x19 : Int32} {x20 : Int32} {x21 : Int32} {x22 : Int32} {x23 : Int32} {x24 : Int32} {x41 : Int32} {x42 : Int32} {f0 : (Nat → Int32)} {f2 : (Nat → Int32)} {f8 : (Nat → Int32)} {f11 : (Nat → Int32)} {f12 : (Nat → Int32)} {f13 : (Nat → Int32)} {f17 : (Nat → Int32)} {f18 : (Nat → Int32)} {f25 : (Nat → Int32)} {f26 : (Nat → Int32)} {f27 : (Nat → Int32)} {f28 : (Nat → Int32)} {f29 : (Nat → Int32)} {f30 : (Nat → Int32)} {f31 : (Nat → Int32)} {f32 : (Nat → Int32)} {f33 : (Nat → Int32)} {f34 : (Nat → Int32)} {f35 : (Nat → Int32)} {f36 : (Nat → Int32)} {f37 : (Nat → Int32)} {f38 : (Nat → Int32)} {f39 : (Nat → Int32)} {f40 : (Nat → Int32)} {f43 : (Nat → Int32)} {o : (Int32 × (Nat → Int32))} {H : Heap} {locs : List Loc} {ls : Array Slot} (hf : q_X5_join N v1 v2 v3 x41 f40 = some o) (hP : va_P (dC, dI) vwCl (wX5 cI cZ cJ cA h0 a x1 x3 x4 x5 x6 x7 x9 x10 x14 x15 x16 x19 x20 x21 x22 x23 x24 x41 x42 f0 f2 f8 f11 f12 f13 f17 f18 f25 f26 f27 f28 f29 f30 f31 f32 f33 f34 f35 f36 f37 f38 f39 f40 f43) H) (hD : va_D A (wX5 cI cZ cJ cA h0 a x1 x3 x4 x5 x6 x7 x9 x10 x14 x15 x16 x19 x20 x21 x22 x23 x24 x41 x42 f0 f2 f8 f11 f12 f13 f17 f18 f25 f26 f27 f28 f29 f30 f31 f32 f33 f34 f35 f36 f37 f38 f39 f40 f43)) (hS : va_S A s.heap H locs) (hl : lv_has ls 4 [(0, .ref h0), (1, .int v1), (2, .int v2), (3, .int v3)])
    (hret : ∀ (pc : Nat) (H : Heap) (locs : List Loc) (ls : Array Slot) (r : Int32), decode cX5_join pc = .ok (.ireturn, 1) → r = o.1 → narrow .boolean (.int r) = .int r → va_P (dC, dI) vwCl (wX5 cI cZ cJ cA h0 a x1 x3 x4 x5 x6 x7 x9 x10 x14 x15 x16 x19 x20 x21 x22 x23 x24 x41 x42 f0 f2 f8 f11 f12 f13 f17 f18 f25 f26 f27 f28 f29 f30 f31 f32 f33 f34 f35 f36 f37 f38 f39 o.2 f43) H → va_D A (wX5 cI cZ cJ cA h0 a x1 x3 x4 x5 x6 x7 x9 x10 x14 x15 x16 x19 x20 x21 x22 x23 x24 x41 x42 f0 f2 f8 f11 f12 f13 f17 f18 f25 f26 f27 f28 f29 f30 f31 f32 f33 f34 f35 f36 f37 f38 f39 o.2 f43) → va_S A s.heap H locs → W p l e R s m args below meth c H locs 0 0 Q (F0 m pc ls [.int r])) :
    W p l e R s m args below meth c H locs 0 0 Q (F0 m 0 ls []) := by
  obtain ⟨⟨hx, hb, hml, hown, hts⟩, hRf, hRl, hA, hN, hK⟩ := C0
  unfold q_X5_join at hf
  refine lv_aload_n hx hb dX5_join_0 rfl (lv_at hl 0 rfl) ?_
  refine lv_iload_n hx hb dX5_join_1 rfl (lv_at hl 1 rfl) ?_
  obtain ⟨o1, ho1, hf1⟩ := z_ib hf
  replace hf := hf1
  clear hf1
  refine z_Vi (As := [.int v1]) (rest := []) (w := (wX5 cI cZ cJ cA h0 a x1 x3 x4 x5 x6 x7 x9 x10 x14 x15 x16 x19 x20 x21 x22 x23 x24 x41 x42 f0 f2 f8 f11 f12 f13 f17 f18 f25 f26 f27 f28 f29 f30 f31 f32 f33 f34 f35 f36 f37 f38 f39 f40 f43)) (w1 := (wX5 cI cZ cJ cA h0 a x1 x3 x4 x5 x6 x7 x9 x10 x14 x15 x16 x19 x20 x21 x22 x23 x24 x41 x42 f0 f2 f8 f11 f12 f13 f17 f18 f25 f26 f27 f28 f29 f30 f31 f32 f33 f34 f35 f36 f37 f38 f39 f40 f43)) ⟨hx, hb, hml, hown, hts⟩ (k_X5_isStone l dC dI cI cZ cJ cA h0 a H.size N v1 x1 x3 x4 x5 x6 x7 x9 x10 x14 x15 x16 x19 x20 x21 x22 x23 x24 x41 x42 f0 f2 f8 f11 f12 f13 f17 f18 f25 f26 f27 f28 f29 f30 f31 f32 f33 f34 f35 f36 f37 f38 f39 f40 f43 o1 ho1) (cwV 1 hts gX5_join_X5_isStone rfl rfl rfl (by decide +kernel) ⟨Nat.le_trans (Nat.le_of_ble_eq_true rfl) hRf, Nat.le_trans (Nat.le_of_ble_eq_true rfl) hRl⟩) hK hP hD hS hA hN (ci := 5) rfl rfl rfl rfl hl.1 rfl (Nat.le_of_ble_eq_true rfl) dX5_join_2 (fun H locs hP hD hS => ?_)
  refine lv_if_eq (tgt := 21) hx hb dX5_join_5 (by decide) (fun c2 => ?_) (fun c2 => ?_)
  · replace hf := z_ip hf c2
    refine lv_iconst (v := 0) hx hb dX5_join_21 (by decide) ?_
    obtain rfl := Option.some.inj hf
    exact hret _ _ _ _ _ dX5_join_22 rfl rfl hP hD hS
  · replace hf := z_im hf c2
    refine lv_aload_n hx hb dX5_join_8 rfl (lv_at hl 0 rfl) ?_
    refine lv_iload_n hx hb dX5_join_9 rfl (lv_at hl 2 rfl) ?_
    obtain ⟨o3, ho3, hf1⟩ := z_ib hf
    replace hf := hf1
    clear hf1
    refine z_Vi (As := [.int v2]) (rest := []) (w := (wX5 cI cZ cJ cA h0 a x1 x3 x4 x5 x6 x7 x9 x10 x14 x15 x16 x19 x20 x21 x22 x23 x24 x41 x42 f0 f2 f8 f11 f12 f13 f17 f18 f25 f26 f27 f28 f29 f30 f31 f32 f33 f34 f35 f36 f37 f38 f39 f40 f43)) (w1 := (wX5 cI cZ cJ cA h0 a x1 x3 x4 x5 x6 x7 x9 x10 x14 x15 x16 x19 x20 x21 x22 x23 x24 x41 x42 f0 f2 f8 f11 f12 f13 f17 f18 f25 f26 f27 f28 f29 f30 f31 f32 f33 f34 f35 f36 f37 f38 f39 f40 f43)) ⟨hx, hb, hml, hown, hts⟩ (k_X5_isStone l dC dI cI cZ cJ cA h0 a H.size N v2 x1 x3 x4 x5 x6 x7 x9 x10 x14 x15 x16 x19 x20 x21 x22 x23 x24 x41 x42 f0 f2 f8 f11 f12 f13 f17 f18 f25 f26 f27 f28 f29 f30 f31 f32 f33 f34 f35 f36 f37 f38 f39 f40 f43 o3 ho3) (cwV 1 hts gX5_join_X5_isStone rfl rfl rfl (by decide +kernel) ⟨Nat.le_trans (Nat.le_of_ble_eq_true rfl) hRf, Nat.le_trans (Nat.le_of_ble_eq_true rfl) hRl⟩) hK hP hD hS hA hN (ci := 5) rfl rfl rfl rfl hl.1 rfl (Nat.le_of_ble_eq_true rfl) dX5_join_10 (fun H locs hP hD hS => ?_)
    refine lv_if_eq (tgt := 21) hx hb dX5_join_13 (by decide) (fun c4 => ?_) (fun c4 => ?_)
    · replace hf := z_ip hf c4
      refine lv_iconst (v := 0) hx hb dX5_join_21 (by decide) ?_
      obtain rfl := Option.some.inj hf
      exact hret _ _ _ _ _ dX5_join_22 rfl rfl hP hD hS
    · replace hf := z_im hf c4
      refine lv_iload_n hx hb dX5_join_16 rfl (lv_at hl 1 rfl) ?_
      refine lv_iload_n hx hb dX5_join_17 rfl (lv_at hl 2 rfl) ?_
      refine lv_icmp_ne (tgt := 23) hx hb dX5_join_18 (by decide) (fun c5 => ?_) (fun c5 => ?_)
      · replace hf := z_im hf c5
        refine lv_aload_n hx hb dX5_join_23 rfl (lv_at hl 0 rfl) ?_
        refine va_get (D := (dC, dI)) (ci := 5) (v := .ref (a 40)) (C := RX5) (T := TX5) (N := 44) hx hb hts (fun w hw => List.mem_cons_of_mem _ (List.mem_append_right _ hw)) hown hK hP 0 rfl rfl 40 (by decide) (hts (.fieldLink RX5 87 "OldStadiumModel" "joined" "[Z") (List.mem_of_getElem? (i := 1) rfl)) (fun _ h9 => h9) rfl dX5_join_24 ?_
        refine lv_bipush (v := 6) hx hb dX5_join_27 (by decide) ?_
        refine lv_iload_n hx hb dX5_join_29 rfl (lv_at hl 1 rfl) ?_
        refine lv_imul hx hb dX5_join_30 ?_
        refine lv_iload_n hx hb dX5_join_31 rfl (lv_at hl 2 rfl) ?_
        refine lv_iadd hx hb dX5_join_32 ?_
        refine lv_iload_n hx hb dX5_join_33 rfl (lv_at hl 3 rfl) ?_
        have b6 := z_c1 hf
        replace hf := z_c2 hf
        refine va_zast hx hb hK hP hD hS 24 1 rfl rfl b6 dX5_join_34 (fun H locs hP hD hS => ?_)
        replace hP : va_P (dC, dI) vwCl (wX5 cI cZ cJ cA h0 a x1 x3 x4 x5 x6 x7 x9 x10 x14 x15 x16 x19 x20 x21 x22 x23 x24 x41 x42 f0 f2 f8 f11 f12 f13 f17 f18 f25 f26 f27 f28 f29 f30 f31 f32 f33 f34 f35 f36 f37 f38 f39 (upd f40 (Int32.toNatClampNeg ((6 * v1) + v2)) (vp_nar .boolean v3)) f43) H := hP
        replace hD : va_D A (wX5 cI cZ cJ cA h0 a x1 x3 x4 x5 x6 x7 x9 x10 x14 x15 x16 x19 x20 x21 x22 x23 x24 x41 x42 f0 f2 f8 f11 f12 f13 f17 f18 f25 f26 f27 f28 f29 f30 f31 f32 f33 f34 f35 f36 f37 f38 f39 (upd f40 (Int32.toNatClampNeg ((6 * v1) + v2)) (vp_nar .boolean v3)) f43) := hD
        refine lv_aload_n hx hb dX5_join_35 rfl (lv_at hl 0 rfl) ?_
        refine va_get (D := (dC, dI)) (ci := 5) (v := .ref (a 40)) (C := RX5) (T := TX5) (N := 44) hx hb hts (fun w hw => List.mem_cons_of_mem _ (List.mem_append_right _ hw)) hown hK hP 0 rfl rfl 40 (by decide) (hts (.fieldLink RX5 87 "OldStadiumModel" "joined" "[Z") (List.mem_of_getElem? (i := 1) rfl)) (fun _ h9 => h9) rfl dX5_join_36 ?_
        refine lv_bipush (v := 6) hx hb dX5_join_39 (by decide) ?_
        refine lv_iload_n hx hb dX5_join_41 rfl (lv_at hl 2 rfl) ?_
        refine lv_imul hx hb dX5_join_42 ?_
        refine lv_iload_n hx hb dX5_join_43 rfl (lv_at hl 1 rfl) ?_
        refine lv_iadd hx hb dX5_join_44 ?_
        refine lv_iload_n hx hb dX5_join_45 rfl (lv_at hl 3 rfl) ?_
        have b7 := z_c1 hf
        replace hf := z_c2 hf
        refine va_zast hx hb hK hP hD hS 24 1 rfl rfl b7 dX5_join_46 (fun H locs hP hD hS => ?_)
        replace hP : va_P (dC, dI) vwCl (wX5 cI cZ cJ cA h0 a x1 x3 x4 x5 x6 x7 x9 x10 x14 x15 x16 x19 x20 x21 x22 x23 x24 x41 x42 f0 f2 f8 f11 f12 f13 f17 f18 f25 f26 f27 f28 f29 f30 f31 f32 f33 f34 f35 f36 f37 f38 f39 (upd (upd f40 (Int32.toNatClampNeg ((6 * v1) + v2)) (vp_nar .boolean v3)) (Int32.toNatClampNeg ((6 * v2) + v1)) (vp_nar .boolean v3)) f43) H := hP
        replace hD : va_D A (wX5 cI cZ cJ cA h0 a x1 x3 x4 x5 x6 x7 x9 x10 x14 x15 x16 x19 x20 x21 x22 x23 x24 x41 x42 f0 f2 f8 f11 f12 f13 f17 f18 f25 f26 f27 f28 f29 f30 f31 f32 f33 f34 f35 f36 f37 f38 f39 (upd (upd f40 (Int32.toNatClampNeg ((6 * v1) + v2)) (vp_nar .boolean v3)) (Int32.toNatClampNeg ((6 * v2) + v1)) (vp_nar .boolean v3)) f43) := hD
        refine lv_iconst (v := 1) hx hb dX5_join_47 (by decide) ?_
        obtain rfl := Option.some.inj hf
        exact hret _ _ _ _ _ dX5_join_48 rfl rfl hP hD hS
      · replace hf := z_ip hf c5
        refine lv_iconst (v := 0) hx hb dX5_join_21 (by decide) ?_
        obtain rfl := Option.some.inj hf
        exact hret _ _ _ _ _ dX5_join_22 rfl rfl hP hD hS
set_option maxHeartbeats 4000000 in
set_option maxRecDepth 100000 in
theorem k_X5_join (l : Launch) (dC : Nat → ClassId) (dI : Nat → Nat → Nat) (cI cZ cJ cA : ClassId) (h0 : Nat) (a : Nat → Nat) (sz : Nat) (N : Nat) (v1 : Int32) (v2 : Int32) (v3 : Int32) (x1 : Int32) (x3 : Int32) (x4 : Int32) (x5 : Int32) (x6 : Int32) (x7 : Int32) (x9 : Int32) (x10 : Int32) (x14 : Int32) (x15 : Int32) (x16 : Int32) (x19 : Int32) (x20 : Int32) (x21 : Int32) (x22 : Int32) (x23 : Int32) (x24 : Int32) (x41 : Int32) (x42 : Int32) (f0 : (Nat → Int32)) (f2 : (Nat → Int32)) (f8 : (Nat → Int32)) (f11 : (Nat → Int32)) (f12 : (Nat → Int32)) (f13 : (Nat → Int32)) (f17 : (Nat → Int32)) (f18 : (Nat → Int32)) (f25 : (Nat → Int32)) (f26 : (Nat → Int32)) (f27 : (Nat → Int32)) (f28 : (Nat → Int32)) (f29 : (Nat → Int32)) (f30 : (Nat → Int32)) (f31 : (Nat → Int32)) (f32 : (Nat → Int32)) (f33 : (Nat → Int32)) (f34 : (Nat → Int32)) (f35 : (Nat → Int32)) (f36 : (Nat → Int32)) (f37 : (Nat → Int32)) (f38 : (Nat → Int32)) (f39 : (Nat → Int32)) (f40 : (Nat → Int32)) (f43 : (Nat → Int32)) (o : (Int32 × (Nat → Int32))) (hf : q_X5_join N v1 v2 v3 x41 f40 = some o) : Met l yX5_join wsX5_join ({ frames := 2, cells := 0, slots := 0, locals := 43 } : Room) (z_Pre dC dI (z_ty cI cZ cJ cA) [.ref h0, .int v1, .int v2, .int v3] sz (wX5 cI cZ cJ cA h0 a x1 x3 x4 x5 x6 x7 x9 x10 x14 x15 x16 x19 x20 x21 x22 x23 x24 x41 x42 f0 f2 f8 f11 f12 f13 f17 f18 f25 f26 f27 f28 f29 f30 f31 f32 f33 f34 f35 f36 f37 f38 f39 f40 f43)) (z_Pi dC dI o.1 (wX5 cI cZ cJ cA h0 a x1 x3 x4 x5 x6 x7 x9 x10 x14 x15 x16 x19 x20 x21 x22 x23 x24 x41 x42 f0 f2 f8 f11 f12 f13 f17 f18 f25 f26 f27 f28 f29 f30 f31 f32 f33 f34 f35 f36 f37 f38 f39 o.2 f43) sz (wX5 cI cZ cJ cA h0 a x1 x3 x4 x5 x6 x7 x9 x10 x14 x15 x16 x19 x20 x21 x22 x23 x24 x41 x42 f0 f2 f8 f11 f12 f13 f17 f18 f25 f26 f27 f28 f29 f30 f31 f32 f33 f34 f35 f36 f37 f38 f39 f40 f43)) 0 0 (va_A (wX5 cI cZ cJ cA h0 a x1 x3 x4 x5 x6 x7 x9 x10 x14 x15 x16 x19 x20 x21 x22 x23 x24 x41 x42 f0 f2 f8 f11 f12 f13 f17 f18 f25 f26 f27 f28 f29 f30 f31 f32 f33 f34 f35 f36 f37 f38 f39 f40 f43) sz) := by
  refine Met.ofW (cc := cX5_join) (maxL := 4) (ret := (some .boolean)) (by decide) rfl ?_
  intro p e s m args below meth c s₁ B hml hv
  obtain ⟨rfl, hsz, hP, hK, hD0, hN⟩ := hv
  subst hsz
  have hl := lv_entry ([.ref h0, .int v1, .int v2, .int v3]) (n := 4) (Nat.le_of_ble_eq_true rfl)
  rw [lg_entry_eq]
  refine b_X5_join N ⟨⟨B.exec, B.bytes, hml, findClass_of_methodNamed B.named, atoms_spec (ws := wsX5_join) B.pre⟩, Nat.le_refl _, Nat.le_refl _, fun q h => Or.inr h, hN, hK⟩ hf hP hD0.self va_S.rf hl (fun pc H locs ls r hd hr hn hP hD hS => ?_)
  subst hr
  exact W.zret B.exec B.bytes B.returns hn (fun t ht hW => ⟨⟨_, (), rfl, rfl, by rw [ht]; exact hP, hD⟩, hS.F ht⟩) hS.2.2 hd
def q_X5_span (N : Nat) (v1 : Int32) (x42 : Int32) : Option (Int32 × Int32) :=
  (Option.bind (q_X5_in N v1 0 40) (fun o1 =>
  (if o1 = 0 then
   (some ((-1), x42))
  else
   (some (x42, v1)))))
set_option maxHeartbeats 4000000 in
set_option maxRecDepth 100000 in
theorem b_X5_span {p : Program} {l : Launch} {e : Env} {R : Room} {s : State} {m : MethodId} {args : Array Value} {below : List Frame} {meth : Method} {c : Code} {Q : State → Prop} {A : Nat → Prop} {dC : Nat → ClassId} {dI : Nat → Nat → Nat} {cI cZ cJ cA : ClassId} {h0 : Nat} {a : Nat → Nat} (N : Nat) (C0 : z_Cx p s m args c cX5_span 3 wsX5_span RX5 R 1 22 A dC dI (z_ty cI cZ cJ cA)) {v1 : Int32} {x1 : Int32} {x3 : Int32} {x4 : Int32} {x5 : Int32} {x6 : Int32} {x7 : Int32} {x9 : Int32} {x10 : Int32} {x14 : Int32} {x15 : Int32} {x16 : Int32} {x19 : Int32} {x20 : Int32} {x21 : Int32} {x22 : Int32} {x23 : Int32} {x24 : Int32} {x41 : Int32} {x42 : Int32} {f0 : (Nat → Int32)} {f2 : (Nat → Int32)} {f8 : (Nat → Int32)} {f11 : (Nat → Int32)} {f12 : (Nat → Int32)} {f13 : (Nat → Int32)} {f17 : (Nat → Int32)} {f18 : (Nat → Int32)} {f25 : (Nat → Int32)} {f26 : (Nat → Int32)} {f27 : (Nat → Int32)} {f28 : (Nat → Int32)} {f29 : (Nat → Int32)} {f30 : (Nat → Int32)} {f31 : (Nat → Int32)} {f32 : (Nat → Int32)} {f33 : (Nat → Int32)} {f34 : (Nat → Int32)} {f35 : (Nat → Int32)} {f36 : (Nat → Int32)} {f37 : (Nat → Int32)} {f38 : (Nat → Int32)} {f39 : (Nat → Int32)} {f40 : (Nat → Int32)} {f43 : (Nat → Int32)} {o : (Int32 × Int32)} {H : Heap} {locs : List Loc} {ls : Array Slot} (hf : q_X5_span N v1 x42 = some o) (hP : va_P (dC, dI) vwCl (wX5 cI cZ cJ cA h0 a x1 x3 x4 x5 x6 x7 x9 x10 x14 x15 x16 x19 x20 x21 x22 x23 x24 x41 x42 f0 f2 f8 f11 f12 f13 f17 f18 f25 f26 f27 f28 f29 f30 f31 f32 f33 f34 f35 f36 f37 f38 f39 f40 f43) H) (hD : va_D A (wX5 cI cZ cJ cA h0 a x1 x3 x4 x5 x6 x7 x9 x10 x14 x15 x16 x19 x20 x21 x22 x23 x24 x41 x42 f0 f2 f8 f11 f12 f13 f17 f18 f25 f26 f27 f28 f29 f30 f31 f32 f33 f34 f35 f36 f37 f38 f39 f40 f43)) (hS : va_S A s.heap H locs) (hl : lv_has ls 3 [(0, .ref h0), (1, .int v1)])
    (hret : ∀ (pc : Nat) (H : Heap) (locs : List Loc) (ls : Array Slot) (r : Int32), decode cX5_span pc = .ok (.ireturn, 1) → r = o.1 → va_P (dC, dI) vwCl (wX5 cI cZ cJ cA h0 a x1 x3 x4 x5 x6 x7 x9 x10 x14 x15 x16 x19 x20 x21 x22 x23 x24 x41 o.2 f0 f2 f8 f11 f12 f13 f17 f18 f25 f26 f27 f28 f29 f30 f31 f32 f33 f34 f35 f36 f37 f38 f39 f40 f43) H → va_D A (wX5 cI cZ cJ cA h0 a x1 x3 x4 x5 x6 x7 x9 x10 x14 x15 x16 x19 x20 x21 x22 x23 x24 x41 o.2 f0 f2 f8 f11 f12 f13 f17 f18 f25 f26 f27 f28 f29 f30 f31 f32 f33 f34 f35 f36 f37 f38 f39 f40 f43) → va_S A s.heap H locs → W p l e R s m args below meth c H locs 0 0 Q (F0 m pc ls [.int r])) :
    W p l e R s m args below meth c H locs 0 0 Q (F0 m 0 ls []) := by
  obtain ⟨⟨hx, hb, hml, hown, hts⟩, hRf, hRl, hA, hN, hK⟩ := C0
  unfold q_X5_span at hf
  refine lv_iload_n hx hb dX5_span_0 rfl (lv_at hl 1 rfl) ?_
  refine lv_iconst (v := 0) hx hb dX5_span_1 (by decide) ?_
  refine lv_bipush (v := 40) hx hb dX5_span_2 (by decide) ?_
  obtain ⟨o1, ho1, hf1⟩ := z_ib hf
  replace hf := hf1
  clear hf1
  refine z_S0 (As := [.int v1, .int 0, .int 40]) (rest := []) ⟨hx, hb, hml, hown, hts⟩ (k_X5_in l dC dI cI cZ cJ cA H.size N v1 0 40 o1 ho1) (va_cwS 3 hts gX5_span_X5_in rfl rfl rfl (by decide +kernel) ⟨Nat.le_trans (Nat.le_of_ble_eq_true rfl) hRf, Nat.le_trans (Nat.le_of_ble_eq_true rfl) hRl⟩) hK hP hS hA hN rfl hl.1 rfl (Nat.le_of_ble_eq_true rfl) dX5_span_4 (fun H locs hP hS => ?_)
  refine lv_if_ne (tgt := 12) hx hb dX5_span_7 (by decide) (fun c2 => ?_) (fun c2 => ?_)
  · replace hf := z_im hf c2
    refine lv_aload_n hx hb dX5_span_12 rfl (lv_at hl 0 rfl) ?_
    refine va_get (D := (dC, dI)) (ci := 5) (v := .int x42) (C := RX5) (T := TX5) (N := 44) hx hb hts (fun w hw => List.mem_cons_of_mem _ (List.mem_append_right _ hw)) hown hK hP 0 rfl rfl 42 (by decide) (hts (.fieldLink RX5 90 "OldStadiumModel" "span" "I") (List.mem_of_getElem? (i := 1) rfl)) (fun _ h9 => h9) rfl dX5_span_13 ?_
    refine lv_istore_n (lv' := [(2, .int x42), (0, .ref h0), (1, .int v1)]) hx hb dX5_span_16 rfl hl (by decide) rfl (fun ls hl => ?_)
    refine lv_aload_n hx hb dX5_span_17 rfl (lv_at hl 1 rfl) ?_
    refine lv_iload_n hx hb dX5_span_18 rfl (lv_at hl 2 rfl) ?_
    refine va_put (D := (dC, dI)) (ci := 5) (v := .int v1) (ty := .int) (C := RX5) (T := TX5) (N := 44) hx hb hts (fun w hw => List.mem_cons_of_mem _ (List.mem_append_right _ hw)) tyX5 tyX5_ok nmX5 hown hK hP hD hS 0 rfl rfl 42 (by decide) (hts (.fieldLink RX5 90 "OldStadiumModel" "span" "I") (List.mem_of_getElem? (i := 1) rfl)) (fun _ h9 => h9) rfl (by decide +kernel) rfl rfl (Nat.le_of_ble_eq_true rfl) dX5_span_19 (fun H locs hP hD hS => ?_)
    replace hP : va_P (dC, dI) vwCl (wX5 cI cZ cJ cA h0 a x1 x3 x4 x5 x6 x7 x9 x10 x14 x15 x16 x19 x20 x21 x22 x23 x24 x41 v1 f0 f2 f8 f11 f12 f13 f17 f18 f25 f26 f27 f28 f29 f30 f31 f32 f33 f34 f35 f36 f37 f38 f39 f40 f43) H := hP
    replace hD : va_D A (wX5 cI cZ cJ cA h0 a x1 x3 x4 x5 x6 x7 x9 x10 x14 x15 x16 x19 x20 x21 x22 x23 x24 x41 v1 f0 f2 f8 f11 f12 f13 f17 f18 f25 f26 f27 f28 f29 f30 f31 f32 f33 f34 f35 f36 f37 f38 f39 f40 f43) := hD
    refine lv_iload_n hx hb dX5_span_22 rfl (lv_at hl 0 rfl) ?_
    obtain rfl := Option.some.inj hf
    exact hret _ _ _ _ _ dX5_span_23 rfl hP hD hS
  · replace hf := z_ip hf c2
    refine lv_iconst (v := (-1)) hx hb dX5_span_10 (by decide) ?_
    obtain rfl := Option.some.inj hf
    exact hret _ _ _ _ _ dX5_span_11 rfl hP hD hS
set_option maxHeartbeats 4000000 in
set_option maxRecDepth 100000 in
theorem k_X5_span (l : Launch) (dC : Nat → ClassId) (dI : Nat → Nat → Nat) (cI cZ cJ cA : ClassId) (h0 : Nat) (a : Nat → Nat) (sz : Nat) (N : Nat) (v1 : Int32) (x1 : Int32) (x3 : Int32) (x4 : Int32) (x5 : Int32) (x6 : Int32) (x7 : Int32) (x9 : Int32) (x10 : Int32) (x14 : Int32) (x15 : Int32) (x16 : Int32) (x19 : Int32) (x20 : Int32) (x21 : Int32) (x22 : Int32) (x23 : Int32) (x24 : Int32) (x41 : Int32) (x42 : Int32) (f0 : (Nat → Int32)) (f2 : (Nat → Int32)) (f8 : (Nat → Int32)) (f11 : (Nat → Int32)) (f12 : (Nat → Int32)) (f13 : (Nat → Int32)) (f17 : (Nat → Int32)) (f18 : (Nat → Int32)) (f25 : (Nat → Int32)) (f26 : (Nat → Int32)) (f27 : (Nat → Int32)) (f28 : (Nat → Int32)) (f29 : (Nat → Int32)) (f30 : (Nat → Int32)) (f31 : (Nat → Int32)) (f32 : (Nat → Int32)) (f33 : (Nat → Int32)) (f34 : (Nat → Int32)) (f35 : (Nat → Int32)) (f36 : (Nat → Int32)) (f37 : (Nat → Int32)) (f38 : (Nat → Int32)) (f39 : (Nat → Int32)) (f40 : (Nat → Int32)) (f43 : (Nat → Int32)) (o : (Int32 × Int32)) (hf : q_X5_span N v1 x42 = some o) : Met l yX5_span wsX5_span ({ frames := 1, cells := 0, slots := 0, locals := 22 } : Room) (z_Pre dC dI (z_ty cI cZ cJ cA) [.ref h0, .int v1] sz (wX5 cI cZ cJ cA h0 a x1 x3 x4 x5 x6 x7 x9 x10 x14 x15 x16 x19 x20 x21 x22 x23 x24 x41 x42 f0 f2 f8 f11 f12 f13 f17 f18 f25 f26 f27 f28 f29 f30 f31 f32 f33 f34 f35 f36 f37 f38 f39 f40 f43)) (z_Pi dC dI o.1 (wX5 cI cZ cJ cA h0 a x1 x3 x4 x5 x6 x7 x9 x10 x14 x15 x16 x19 x20 x21 x22 x23 x24 x41 o.2 f0 f2 f8 f11 f12 f13 f17 f18 f25 f26 f27 f28 f29 f30 f31 f32 f33 f34 f35 f36 f37 f38 f39 f40 f43) sz (wX5 cI cZ cJ cA h0 a x1 x3 x4 x5 x6 x7 x9 x10 x14 x15 x16 x19 x20 x21 x22 x23 x24 x41 x42 f0 f2 f8 f11 f12 f13 f17 f18 f25 f26 f27 f28 f29 f30 f31 f32 f33 f34 f35 f36 f37 f38 f39 f40 f43)) 0 0 (va_A (wX5 cI cZ cJ cA h0 a x1 x3 x4 x5 x6 x7 x9 x10 x14 x15 x16 x19 x20 x21 x22 x23 x24 x41 x42 f0 f2 f8 f11 f12 f13 f17 f18 f25 f26 f27 f28 f29 f30 f31 f32 f33 f34 f35 f36 f37 f38 f39 f40 f43) sz) := by
  refine Met.ofW (cc := cX5_span) (maxL := 3) (ret := (some .int)) (by decide) rfl ?_
  intro p e s m args below meth c s₁ B hml hv
  obtain ⟨rfl, hsz, hP, hK, hD0, hN⟩ := hv
  subst hsz
  have hl := lv_entry ([.ref h0, .int v1]) (n := 3) (Nat.le_of_ble_eq_true rfl)
  rw [lg_entry_eq]
  refine b_X5_span N ⟨⟨B.exec, B.bytes, hml, findClass_of_methodNamed B.named, atoms_spec (ws := wsX5_span) B.pre⟩, Nat.le_refl _, Nat.le_refl _, fun q h => Or.inr h, hN, hK⟩ hf hP hD0.self va_S.rf hl (fun pc H locs ls r hd hr hP hD hS => ?_)
  subst hr
  exact W.iret B.exec B.bytes B.returns (fun t ht hW => ⟨⟨_, (), rfl, rfl, by rw [ht]; exact hP, hD⟩, hS.F ht⟩) hS.2.2 hd
def q_X5_lose_L80 (N : Nat) (v2 : Int32) : Nat → Int32 → (Nat → Int32) → Option (Nat → Int32)
  | 0, _, _ => none
  | n + 1, v3, f38 =>
    (if 8 ≤ v3 then
     (some f38)
    else
     (if z_in (((8 * v2) + 8) + v3) 48 then
     (Option.bind (some ((f38 (Int32.toNatClampNeg (((8 * v2) + 8) + v3))) : Int32)) (fun n3 =>
     (if z_in ((8 * v2) + v3) 48 then
     (q_X5_lose_L80 N v2 n (v3 + 1) (upd f38 (Int32.toNatClampNeg ((8 * v2) + v3)) n3))
     else none)))
     else none))
set_option maxHeartbeats 4000000 in
set_option maxRecDepth 100000 in
theorem b_X5_lose_L80 {p : Program} {l : Launch} {e : Env} {R : Room} {s : State} {m : MethodId} {args : Array Value} {below : List Frame} {meth : Method} {c : Code} {Q : State → Prop} {A : Nat → Prop} {dC : Nat → ClassId} {dI : Nat → Nat → Nat} {cI cZ cJ cA : ClassId} {h0 : Nat} {a : Nat → Nat} (N : Nat) (C0 : z_Cx p s m args c cX5_lose 4 wsX5_lose RX5 R 2 43 A dC dI (z_ty cI cZ cJ cA)) : ∀ (n : Nat) {v1 : Int32} {v2 : Int32} {v3 : Int32} {x1 : Int32} {x3 : Int32} {x4 : Int32} {x5 : Int32} {x6 : Int32} {x7 : Int32} {x9 : Int32} {x10 : Int32} {x14 : Int32} {x15 : Int32} {x16 : Int32} {x19 : Int32} {x20 : Int32} {x21 : Int32} {x22 : Int32} {x23 : Int32} {x24 : Int32} {x41 : Int32} {x42 : Int32} {f0 : (Nat → Int32)} {f2 : (Nat → Int32)} {f8 : (Nat → Int32)} {f11 : (Nat → Int32)} {f12 : (Nat → Int32)} {f13 : (Nat → Int32)} {f17 : (Nat → Int32)} {f18 : (Nat → Int32)} {f25 : (Nat → Int32)} {f26 : (Nat → Int32)} {f27 : (Nat → Int32)} {f28 : (Nat → Int32)} {f29 : (Nat → Int32)} {f30 : (Nat → Int32)} {f31 : (Nat → Int32)} {f32 : (Nat → Int32)} {f33 : (Nat → Int32)} {f34 : (Nat → Int32)} {f35 : (Nat → Int32)} {f36 : (Nat → Int32)} {f37 : (Nat → Int32)} {f38 : (Nat → Int32)} {f39 : (Nat → Int32)} {f40 : (Nat → Int32)} {f43 : (Nat → Int32)} {o : (Nat → Int32)} {H : Heap} {locs : List Loc} {ls : Array Slot}, q_X5_lose_L80 N v2 n v3 f38 = some o → va_P (dC, dI) vwCl (wX5 cI cZ cJ cA h0 a x1 x3 x4 x5 x6 x7 x9 x10 x14 x15 x16 x19 x20 x21 x22 x23 x24 x41 x42 f0 f2 f8 f11 f12 f13 f17 f18 f25 f26 f27 f28 f29 f30 f31 f32 f33 f34 f35 f36 f37 f38 f39 f40 f43) H → va_D A (wX5 cI cZ cJ cA h0 a x1 x3 x4 x5 x6 x7 x9 x10 x14 x15 x16 x19 x20 x21 x22 x23 x24 x41 x42 f0 f2 f8 f11 f12 f13 f17 f18 f25 f26 f27 f28 f29 f30 f31 f32 f33 f34 f35 f36 f37 f38 f39 f40 f43) → va_S A s.heap H locs → lv_has ls 4 [(0, .ref h0), (1, .int v1), (2, .int v2), (3, .int v3)] →
    (∀ (H : Heap) (locs : List Loc) (ls : Array Slot), va_P (dC, dI) vwCl (wX5 cI cZ cJ cA h0 a x1 x3 x4 x5 x6 x7 x9 x10 x14 x15 x16 x19 x20 x21 x22 x23 x24 x41 x42 f0 f2 f8 f11 f12 f13 f17 f18 f25 f26 f27 f28 f29 f30 f31 f32 f33 f34 f35 f36 f37 o f39 f40 f43) H → va_D A (wX5 cI cZ cJ cA h0 a x1 x3 x4 x5 x6 x7 x9 x10 x14 x15 x16 x19 x20 x21 x22 x23 x24 x41 x42 f0 f2 f8 f11 f12 f13 f17 f18 f25 f26 f27 f28 f29 f30 f31 f32 f33 f34 f35 f36 f37 o f39 f40 f43) → va_S A s.heap H locs → lv_has ls 4 [(0, .ref h0), (1, .int v1), (2, .int v2)] → W p l e R s m args below meth c H locs 0 0 Q (F0 m 117 ls [])) →
    W p l e R s m args below meth c H locs 0 0 Q (F0 m 80 ls []) := by
  obtain ⟨⟨hx, hb, hml, hown, hts⟩, hRf, hRl, hA, hN, hK⟩ := C0
  intro n
  induction n with
  | zero =>
    intro v1 v2 v3 x1 x3 x4 x5 x6 x7 x9 x10 x14 x15 x16 x19 x20 x21 x22 x23 x24 x41 x42 f0 f2 f8 f11 f12 f13 f17 f18 f25 f26 f27 f28 f29 f30 f31 f32 f33 f34 f35 f36 f37 f38 f39 f40 f43 o H locs ls hf
    cases hf
  | succ n ih =>
    intro v1 v2 v3 x1 x3 x4 x5 x6 x7 x9 x10 x14 x15 x16 x19 x20 x21 x22 x23 x24 x41 x42 f0 f2 f8 f11 f12 f13 f17 f18 f25 f26 f27 f28 f29 f30 f31 f32 f33 f34 f35 f36 f37 f38 f39 f40 f43 o H locs ls hf hP hD hS hl hexit
    rw [q_X5_lose_L80] at hf
    refine lv_iload_n hx hb dX5_lose_80 rfl (lv_at hl 3 rfl) ?_
    refine lv_bipush (v := 8) hx hb dX5_lose_81 (by decide) ?_
    refine lv_icmp_ge (tgt := 117) hx hb dX5_lose_83 (by decide) (fun c1 => ?_) (fun c1 => ?_)
    · replace hf := z_ip hf c1
      obtain rfl := Option.some.inj hf
      exact hexit _ _ _ hP hD hS (lv_sub hl [0, 1, 2] rfl)
    · replace hf := z_im hf c1
      refine lv_aload_n hx hb dX5_lose_86 rfl (lv_at hl 0 rfl) ?_
      refine va_get (D := (dC, dI)) (ci := 5) (v := .ref (a 38)) (C := RX5) (T := TX5) (N := 44) hx hb hts (fun w hw => List.mem_cons_of_mem _ (List.mem_append_right _ hw)) hown hK hP 0 rfl rfl 38 (by decide) (hts (.fieldLink RX5 81 "OldStadiumModel" "letters" "[I") (List.mem_of_getElem? (i := 6) rfl)) (fun _ h9 => h9) rfl dX5_lose_87 ?_
      refine lv_bipush (v := 8) hx hb dX5_lose_90 (by decide) ?_
      refine lv_iload_n hx hb dX5_lose_92 rfl (lv_at hl 2 rfl) ?_
      refine lv_imul hx hb dX5_lose_93 ?_
      refine lv_iload_n hx hb dX5_lose_94 rfl (lv_at hl 3 rfl) ?_
      refine lv_iadd hx hb dX5_lose_95 ?_
      refine lv_aload_n hx hb dX5_lose_96 rfl (lv_at hl 0 rfl) ?_
      refine va_get (D := (dC, dI)) (ci := 5) (v := .ref (a 38)) (C := RX5) (T := TX5) (N := 44) hx hb hts (fun w hw => List.mem_cons_of_mem _ (List.mem_append_right _ hw)) hown hK hP 0 rfl rfl 38 (by decide) (hts (.fieldLink RX5 81 "OldStadiumModel" "letters" "[I") (List.mem_of_getElem? (i := 6) rfl)) (fun _ h9 => h9) rfl dX5_lose_97 ?_
      refine lv_bipush (v := 8) hx hb dX5_lose_100 (by decide) ?_
      refine lv_iload_n hx hb dX5_lose_102 rfl (lv_at hl 2 rfl) ?_
      refine lv_imul hx hb dX5_lose_103 ?_
      refine lv_bipush (v := 8) hx hb dX5_lose_104 (by decide) ?_
      refine lv_iadd hx hb dX5_lose_106 ?_
      refine lv_iload_n hx hb dX5_lose_107 rfl (lv_at hl 3 rfl) ?_
      refine lv_iadd hx hb dX5_lose_108 ?_
      have b2 := z_c1 hf
      replace hf := z_c2 hf
      refine va_iald hx hb hK hP 22 0 rfl rfl b2 dX5_lose_109 ?_
      obtain ⟨n3, hn3, hf1⟩ := z_ib hf
      replace hf := hf1
      clear hf1
      refine lv_topi (fun y9 ey9 => ?_)
      obtain rfl : n3 = y9 := (Option.some.inj hn3).symm.trans ey9.symm
      have b4 := z_c1 hf
      replace hf := z_c2 hf
      refine va_iast hx hb hK hP hD hS 22 0 rfl rfl b4 dX5_lose_110 (fun H locs hP hD hS => ?_)
      replace hP : va_P (dC, dI) vwCl (wX5 cI cZ cJ cA h0 a x1 x3 x4 x5 x6 x7 x9 x10 x14 x15 x16 x19 x20 x21 x22 x23 x24 x41 x42 f0 f2 f8 f11 f12 f13 f17 f18 f25 f26 f27 f28 f29 f30 f31 f32 f33 f34 f35 f36 f37 (upd f38 (Int32.toNatClampNeg ((8 * v2) + v3)) n3) f39 f40 f43) H := hP
      replace hD : va_D A (wX5 cI cZ cJ cA h0 a x1 x3 x4 x5 x6 x7 x9 x10 x14 x15 x16 x19 x20 x21 x22 x23 x24 x41 x42 f0 f2 f8 f11 f12 f13 f17 f18 f25 f26 f27 f28 f29 f30 f31 f32 f33 f34 f35 f36 f37 (upd f38 (Int32.toNatClampNeg ((8 * v2) + v3)) n3) f39 f40 f43) := hD
      refine lv_iinc (v := (v3 + 1)) (lv' := [(3, .int (v3 + 1)), (0, .ref h0), (1, .int v1), (2, .int v2)]) hx hb dX5_lose_111 hl (k := 3) rfl rfl (by decide) rfl (fun ls hl => ?_)
      refine lv_goto (tgt := 80) hx hb dX5_lose_114 (by decide) ?_
      exact ih hf hP hD hS (lv_sub hl [1, 2, 3, 0] rfl) hexit
def q_X5_lose_L12 (N : Nat) (x41 : Int32) : Nat → Int32 → (Nat → Int32) → (Nat → Int32) → (Nat → Int32) → (Nat → Int32) → (Nat → Int32) → Option ((Nat → Int32) × (Nat → Int32) × (Nat → Int32) × (Nat → Int32) × (Nat → Int32))
  | 0, _, _, _, _, _, _ => none
  | n + 1, v2, f35, f36, f37, f38, f39 =>
    (if (x41 - 1) ≤ v2 then
     (some (f35, f36, f37, f38, f39))
    else
     (if z_in (v2 + 1) 6 then
     (if z_in v2 6 then
     (Option.bind (q_X5_lose_L80 N v2 N 0 f38) (fun t4 =>
     (q_X5_lose_L12 N x41 n (v2 + 1) (upd f35 (Int32.toNatClampNeg v2) (f35 (Int32.toNatClampNeg (v2 + 1)))) (upd f36 (Int32.toNatClampNeg v2) (f36 (Int32.toNatClampNeg (v2 + 1)))) (upd f37 (Int32.toNatClampNeg v2) (f37 (Int32.toNatClampNeg (v2 + 1)))) t4 (upd f39 (Int32.toNatClampNeg v2) (f39 (Int32.toNatClampNeg (v2 + 1)))))))
     else none)
     else none))
set_option maxHeartbeats 4000000 in
set_option maxRecDepth 100000 in
theorem b_X5_lose_L12 {p : Program} {l : Launch} {e : Env} {R : Room} {s : State} {m : MethodId} {args : Array Value} {below : List Frame} {meth : Method} {c : Code} {Q : State → Prop} {A : Nat → Prop} {dC : Nat → ClassId} {dI : Nat → Nat → Nat} {cI cZ cJ cA : ClassId} {h0 : Nat} {a : Nat → Nat} (N : Nat) (C0 : z_Cx p s m args c cX5_lose 4 wsX5_lose RX5 R 2 43 A dC dI (z_ty cI cZ cJ cA)) : ∀ (n : Nat) {v1 : Int32} {v2 : Int32} {x1 : Int32} {x3 : Int32} {x4 : Int32} {x5 : Int32} {x6 : Int32} {x7 : Int32} {x9 : Int32} {x10 : Int32} {x14 : Int32} {x15 : Int32} {x16 : Int32} {x19 : Int32} {x20 : Int32} {x21 : Int32} {x22 : Int32} {x23 : Int32} {x24 : Int32} {x41 : Int32} {x42 : Int32} {f0 : (Nat → Int32)} {f2 : (Nat → Int32)} {f8 : (Nat → Int32)} {f11 : (Nat → Int32)} {f12 : (Nat → Int32)} {f13 : (Nat → Int32)} {f17 : (Nat → Int32)} {f18 : (Nat → Int32)} {f25 : (Nat → Int32)} {f26 : (Nat → Int32)} {f27 : (Nat → Int32)} {f28 : (Nat → Int32)} {f29 : (Nat → Int32)} {f30 : (Nat → Int32)} {f31 : (Nat → Int32)} {f32 : (Nat → Int32)} {f33 : (Nat → Int32)} {f34 : (Nat → Int32)} {f35 : (Nat → Int32)} {f36 : (Nat → Int32)} {f37 : (Nat → Int32)} {f38 : (Nat → Int32)} {f39 : (Nat → Int32)} {f40 : (Nat → Int32)} {f43 : (Nat → Int32)} {o : ((Nat → Int32) × (Nat → Int32) × (Nat → Int32) × (Nat → Int32) × (Nat → Int32))} {H : Heap} {locs : List Loc} {ls : Array Slot}, q_X5_lose_L12 N x41 n v2 f35 f36 f37 f38 f39 = some o → va_P (dC, dI) vwCl (wX5 cI cZ cJ cA h0 a x1 x3 x4 x5 x6 x7 x9 x10 x14 x15 x16 x19 x20 x21 x22 x23 x24 x41 x42 f0 f2 f8 f11 f12 f13 f17 f18 f25 f26 f27 f28 f29 f30 f31 f32 f33 f34 f35 f36 f37 f38 f39 f40 f43) H → va_D A (wX5 cI cZ cJ cA h0 a x1 x3 x4 x5 x6 x7 x9 x10 x14 x15 x16 x19 x20 x21 x22 x23 x24 x41 x42 f0 f2 f8 f11 f12 f13 f17 f18 f25 f26 f27 f28 f29 f30 f31 f32 f33 f34 f35 f36 f37 f38 f39 f40 f43) → va_S A s.heap H locs → lv_has ls 4 [(0, .ref h0), (1, .int v1), (2, .int v2)] →
    (∀ (H : Heap) (locs : List Loc) (ls : Array Slot), va_P (dC, dI) vwCl (wX5 cI cZ cJ cA h0 a x1 x3 x4 x5 x6 x7 x9 x10 x14 x15 x16 x19 x20 x21 x22 x23 x24 x41 x42 f0 f2 f8 f11 f12 f13 f17 f18 f25 f26 f27 f28 f29 f30 f31 f32 f33 f34 o.1 o.2.1 o.2.2.1 o.2.2.2.1 o.2.2.2.2 f40 f43) H → va_D A (wX5 cI cZ cJ cA h0 a x1 x3 x4 x5 x6 x7 x9 x10 x14 x15 x16 x19 x20 x21 x22 x23 x24 x41 x42 f0 f2 f8 f11 f12 f13 f17 f18 f25 f26 f27 f28 f29 f30 f31 f32 f33 f34 o.1 o.2.1 o.2.2.1 o.2.2.2.1 o.2.2.2.2 f40 f43) → va_S A s.heap H locs → lv_has ls 4 [(0, .ref h0), (1, .int v1)] → W p l e R s m args below meth c H locs 0 0 Q (F0 m 123 ls [])) →
    W p l e R s m args below meth c H locs 0 0 Q (F0 m 12 ls []) := by
  obtain ⟨⟨hx, hb, hml, hown, hts⟩, hRf, hRl, hA, hN, hK⟩ := C0
  intro n
  induction n with
  | zero =>
    intro v1 v2 x1 x3 x4 x5 x6 x7 x9 x10 x14 x15 x16 x19 x20 x21 x22 x23 x24 x41 x42 f0 f2 f8 f11 f12 f13 f17 f18 f25 f26 f27 f28 f29 f30 f31 f32 f33 f34 f35 f36 f37 f38 f39 f40 f43 o H locs ls hf
    cases hf
  | succ n ih =>
    intro v1 v2 x1 x3 x4 x5 x6 x7 x9 x10 x14 x15 x16 x19 x20 x21 x22 x23 x24 x41 x42 f0 f2 f8 f11 f12 f13 f17 f18 f25 f26 f27 f28 f29 f30 f31 f32 f33 f34 f35 f36 f37 f38 f39 f40 f43 o H locs ls hf hP hD hS hl hexit
    rw [q_X5_lose_L12] at hf
    refine lv_iload_n hx hb dX5_lose_12 rfl (lv_at hl 2 rfl) ?_
    refine lv_aload_n hx hb dX5_lose_13 rfl (lv_at hl 0 rfl) ?_
    refine va_get (D := (dC, dI)) (ci := 5) (v := .int x41) (C := RX5) (T := TX5) (N := 44) hx hb hts (fun w hw => List.mem_cons_of_mem _ (List.mem_append_right _ hw)) hown hK hP 0 rfl rfl 41 (by decide) (hts (.fieldLink RX5 187 "OldStadiumModel" "stones" "I") (List.mem_of_getElem? (i := 1) rfl)) (fun _ h9 => h9) rfl dX5_lose_14 ?_
    refine lv_iconst (v := 1) hx hb dX5_lose_17 (by decide) ?_
    refine lv_isub hx hb dX5_lose_18 ?_
    refine lv_icmp_ge (tgt := 123) hx hb dX5_lose_19 (by decide) (fun c1 => ?_) (fun c1 => ?_)
    · replace hf := z_ip hf c1
      obtain rfl := Option.some.inj hf
      exact hexit _ _ _ hP hD hS (lv_sub hl [0, 1] rfl)
    · replace hf := z_im hf c1
      refine lv_aload_n hx hb dX5_lose_22 rfl (lv_at hl 0 rfl) ?_
      refine va_get (D := (dC, dI)) (ci := 5) (v := .ref (a 35)) (C := RX5) (T := TX5) (N := 44) hx hb hts (fun w hw => List.mem_cons_of_mem _ (List.mem_append_right _ hw)) hown hK hP 0 rfl rfl 35 (by decide) (hts (.fieldLink RX5 72 "OldStadiumModel" "event" "[I") (List.mem_of_getElem? (i := 2) rfl)) (fun _ h9 => h9) rfl dX5_lose_23 ?_
      refine lv_iload_n hx hb dX5_lose_26 rfl (lv_at hl 2 rfl) ?_
      refine lv_aload_n hx hb dX5_lose_27 rfl (lv_at hl 0 rfl) ?_
      refine va_get (D := (dC, dI)) (ci := 5) (v := .ref (a 35)) (C := RX5) (T := TX5) (N := 44) hx hb hts (fun w hw => List.mem_cons_of_mem _ (List.mem_append_right _ hw)) hown hK hP 0 rfl rfl 35 (by decide) (hts (.fieldLink RX5 72 "OldStadiumModel" "event" "[I") (List.mem_of_getElem? (i := 2) rfl)) (fun _ h9 => h9) rfl dX5_lose_28 ?_
      refine lv_iload_n hx hb dX5_lose_31 rfl (lv_at hl 2 rfl) ?_
      refine lv_iconst (v := 1) hx hb dX5_lose_32 (by decide) ?_
      refine lv_iadd hx hb dX5_lose_33 ?_
      have b2 := z_c1 hf
      replace hf := z_c2 hf
      refine va_iald hx hb hK hP 19 0 rfl rfl b2 dX5_lose_34 ?_
      have b3 := z_c1 hf
      replace hf := z_c2 hf
      refine va_iast hx hb hK hP hD hS 19 0 rfl rfl b3 dX5_lose_35 (fun H locs hP hD hS => ?_)
      replace hP : va_P (dC, dI) vwCl (wX5 cI cZ cJ cA h0 a x1 x3 x4 x5 x6 x7 x9 x10 x14 x15 x16 x19 x20 x21 x22 x23 x24 x41 x42 f0 f2 f8 f11 f12 f13 f17 f18 f25 f26 f27 f28 f29 f30 f31 f32 f33 f34 (upd f35 (Int32.toNatClampNeg v2) (f35 (Int32.toNatClampNeg (v2 + 1)))) f36 f37 f38 f39 f40 f43) H := hP
      replace hD : va_D A (wX5 cI cZ cJ cA h0 a x1 x3 x4 x5 x6 x7 x9 x10 x14 x15 x16 x19 x20 x21 x22 x23 x24 x41 x42 f0 f2 f8 f11 f12 f13 f17 f18 f25 f26 f27 f28 f29 f30 f31 f32 f33 f34 (upd f35 (Int32.toNatClampNeg v2) (f35 (Int32.toNatClampNeg (v2 + 1)))) f36 f37 f38 f39 f40 f43) := hD
      refine lv_aload_n hx hb dX5_lose_36 rfl (lv_at hl 0 rfl) ?_
      refine va_get (D := (dC, dI)) (ci := 5) (v := .ref (a 36)) (C := RX5) (T := TX5) (N := 44) hx hb hts (fun w hw => List.mem_cons_of_mem _ (List.mem_append_right _ hw)) hown hK hP 0 rfl rfl 36 (by decide) (hts (.fieldLink RX5 75 "OldStadiumModel" "from" "[I") (List.mem_of_getElem? (i := 3) rfl)) (fun _ h9 => h9) rfl dX5_lose_37 ?_
      refine lv_iload_n hx hb dX5_lose_40 rfl (lv_at hl 2 rfl) ?_
      refine lv_aload_n hx hb dX5_lose_41 rfl (lv_at hl 0 rfl) ?_
      refine va_get (D := (dC, dI)) (ci := 5) (v := .ref (a 36)) (C := RX5) (T := TX5) (N := 44) hx hb hts (fun w hw => List.mem_cons_of_mem _ (List.mem_append_right _ hw)) hown hK hP 0 rfl rfl 36 (by decide) (hts (.fieldLink RX5 75 "OldStadiumModel" "from" "[I") (List.mem_of_getElem? (i := 3) rfl)) (fun _ h9 => h9) rfl dX5_lose_42 ?_
      refine lv_iload_n hx hb dX5_lose_45 rfl (lv_at hl 2 rfl) ?_
      refine lv_iconst (v := 1) hx hb dX5_lose_46 (by decide) ?_
      refine lv_iadd hx hb dX5_lose_47 ?_
      refine va_iald hx hb hK hP 20 0 rfl rfl b2 dX5_lose_48 ?_
      refine va_iast hx hb hK hP hD hS 20 0 rfl rfl b3 dX5_lose_49 (fun H locs hP hD hS => ?_)
      replace hP : va_P (dC, dI) vwCl (wX5 cI cZ cJ cA h0 a x1 x3 x4 x5 x6 x7 x9 x10 x14 x15 x16 x19 x20 x21 x22 x23 x24 x41 x42 f0 f2 f8 f11 f12 f13 f17 f18 f25 f26 f27 f28 f29 f30 f31 f32 f33 f34 (upd f35 (Int32.toNatClampNeg v2) (f35 (Int32.toNatClampNeg (v2 + 1)))) (upd f36 (Int32.toNatClampNeg v2) (f36 (Int32.toNatClampNeg (v2 + 1)))) f37 f38 f39 f40 f43) H := hP
      replace hD : va_D A (wX5 cI cZ cJ cA h0 a x1 x3 x4 x5 x6 x7 x9 x10 x14 x15 x16 x19 x20 x21 x22 x23 x24 x41 x42 f0 f2 f8 f11 f12 f13 f17 f18 f25 f26 f27 f28 f29 f30 f31 f32 f33 f34 (upd f35 (Int32.toNatClampNeg v2) (f35 (Int32.toNatClampNeg (v2 + 1)))) (upd f36 (Int32.toNatClampNeg v2) (f36 (Int32.toNatClampNeg (v2 + 1)))) f37 f38 f39 f40 f43) := hD
      refine lv_aload_n hx hb dX5_lose_50 rfl (lv_at hl 0 rfl) ?_
      refine va_get (D := (dC, dI)) (ci := 5) (v := .ref (a 37)) (C := RX5) (T := TX5) (N := 44) hx hb hts (fun w hw => List.mem_cons_of_mem _ (List.mem_append_right _ hw)) hown hK hP 0 rfl rfl 37 (by decide) (hts (.fieldLink RX5 78 "OldStadiumModel" "to" "[I") (List.mem_of_getElem? (i := 4) rfl)) (fun _ h9 => h9) rfl dX5_lose_51 ?_
      refine lv_iload_n hx hb dX5_lose_54 rfl (lv_at hl 2 rfl) ?_
      refine lv_aload_n hx hb dX5_lose_55 rfl (lv_at hl 0 rfl) ?_
      refine va_get (D := (dC, dI)) (ci := 5) (v := .ref (a 37)) (C := RX5) (T := TX5) (N := 44) hx hb hts (fun w hw => List.mem_cons_of_mem _ (List.mem_append_right _ hw)) hown hK hP 0 rfl rfl 37 (by decide) (hts (.fieldLink RX5 78 "OldStadiumModel" "to" "[I") (List.mem_of_getElem? (i := 4) rfl)) (fun _ h9 => h9) rfl dX5_lose_56 ?_
      refine lv_iload_n hx hb dX5_lose_59 rfl (lv_at hl 2 rfl) ?_
      refine lv_iconst (v := 1) hx hb dX5_lose_60 (by decide) ?_
      refine lv_iadd hx hb dX5_lose_61 ?_
      refine va_iald hx hb hK hP 21 0 rfl rfl b2 dX5_lose_62 ?_
      refine va_iast hx hb hK hP hD hS 21 0 rfl rfl b3 dX5_lose_63 (fun H locs hP hD hS => ?_)
      replace hP : va_P (dC, dI) vwCl (wX5 cI cZ cJ cA h0 a x1 x3 x4 x5 x6 x7 x9 x10 x14 x15 x16 x19 x20 x21 x22 x23 x24 x41 x42 f0 f2 f8 f11 f12 f13 f17 f18 f25 f26 f27 f28 f29 f30 f31 f32 f33 f34 (upd f35 (Int32.toNatClampNeg v2) (f35 (Int32.toNatClampNeg (v2 + 1)))) (upd f36 (Int32.toNatClampNeg v2) (f36 (Int32.toNatClampNeg (v2 + 1)))) (upd f37 (Int32.toNatClampNeg v2) (f37 (Int32.toNatClampNeg (v2 + 1)))) f38 f39 f40 f43) H := hP
      replace hD : va_D A (wX5 cI cZ cJ cA h0 a x1 x3 x4 x5 x6 x7 x9 x10 x14 x15 x16 x19 x20 x21 x22 x23 x24 x41 x42 f0 f2 f8 f11 f12 f13 f17 f18 f25 f26 f27 f28 f29 f30 f31 f32 f33 f34 (upd f35 (Int32.toNatClampNeg v2) (f35 (Int32.toNatClampNeg (v2 + 1)))) (upd f36 (Int32.toNatClampNeg v2) (f36 (Int32.toNatClampNeg (v2 + 1)))) (upd f37 (Int32.toNatClampNeg v2) (f37 (Int32.toNatClampNeg (v2 + 1)))) f38 f39 f40 f43) := hD
      refine lv_aload_n hx hb dX5_lose_64 rfl (lv_at hl 0 rfl) ?_
      refine va_get (D := (dC, dI)) (ci := 5) (v := .ref (a 39)) (C := RX5) (T := TX5) (N := 44) hx hb hts (fun w hw => List.mem_cons_of_mem _ (List.mem_append_right _ hw)) hown hK hP 0 rfl rfl 39 (by decide) (hts (.fieldLink RX5 84 "OldStadiumModel" "stoneTown" "[I") (List.mem_of_getElem? (i := 5) rfl)) (fun _ h9 => h9) rfl dX5_lose_65 ?_
      refine lv_iload_n hx hb dX5_lose_68 rfl (lv_at hl 2 rfl) ?_
      refine lv_aload_n hx hb dX5_lose_69 rfl (lv_at hl 0 rfl) ?_
      refine va_get (D := (dC, dI)) (ci := 5) (v := .ref (a 39)) (C := RX5) (T := TX5) (N := 44) hx hb hts (fun w hw => List.mem_cons_of_mem _ (List.mem_append_right _ hw)) hown hK hP 0 rfl rfl 39 (by decide) (hts (.fieldLink RX5 84 "OldStadiumModel" "stoneTown" "[I") (List.mem_of_getElem? (i := 5) rfl)) (fun _ h9 => h9) rfl dX5_lose_70 ?_
      refine lv_iload_n hx hb dX5_lose_73 rfl (lv_at hl 2 rfl) ?_
      refine lv_iconst (v := 1) hx hb dX5_lose_74 (by decide) ?_
      refine lv_iadd hx hb dX5_lose_75 ?_
      refine va_iald hx hb hK hP 23 0 rfl rfl b2 dX5_lose_76 ?_
      refine va_iast hx hb hK hP hD hS 23 0 rfl rfl b3 dX5_lose_77 (fun H locs hP hD hS => ?_)
      replace hP : va_P (dC, dI) vwCl (wX5 cI cZ cJ cA h0 a x1 x3 x4 x5 x6 x7 x9 x10 x14 x15 x16 x19 x20 x21 x22 x23 x24 x41 x42 f0 f2 f8 f11 f12 f13 f17 f18 f25 f26 f27 f28 f29 f30 f31 f32 f33 f34 (upd f35 (Int32.toNatClampNeg v2) (f35 (Int32.toNatClampNeg (v2 + 1)))) (upd f36 (Int32.toNatClampNeg v2) (f36 (Int32.toNatClampNeg (v2 + 1)))) (upd f37 (Int32.toNatClampNeg v2) (f37 (Int32.toNatClampNeg (v2 + 1)))) f38 (upd f39 (Int32.toNatClampNeg v2) (f39 (Int32.toNatClampNeg (v2 + 1)))) f40 f43) H := hP
      replace hD : va_D A (wX5 cI cZ cJ cA h0 a x1 x3 x4 x5 x6 x7 x9 x10 x14 x15 x16 x19 x20 x21 x22 x23 x24 x41 x42 f0 f2 f8 f11 f12 f13 f17 f18 f25 f26 f27 f28 f29 f30 f31 f32 f33 f34 (upd f35 (Int32.toNatClampNeg v2) (f35 (Int32.toNatClampNeg (v2 + 1)))) (upd f36 (Int32.toNatClampNeg v2) (f36 (Int32.toNatClampNeg (v2 + 1)))) (upd f37 (Int32.toNatClampNeg v2) (f37 (Int32.toNatClampNeg (v2 + 1)))) f38 (upd f39 (Int32.toNatClampNeg v2) (f39 (Int32.toNatClampNeg (v2 + 1)))) f40 f43) := hD
      refine lv_iconst (v := 0) hx hb dX5_lose_78 (by decide) ?_
      refine lv_istore_n (lv' := [(3, .int 0), (0, .ref h0), (1, .int v1), (2, .int v2)]) hx hb dX5_lose_79 rfl hl (by decide) rfl (fun ls hl => ?_)
      obtain ⟨t4, ht4, hf1⟩ := z_ib hf
      replace hf := hf1
      clear hf1
      refine b_X5_lose_L80 N ⟨⟨hx, hb, hml, hown, hts⟩, hRf, hRl, hA, hN, hK⟩ N ht4 hP hD hS (lv_sub hl [1, 2, 3, 0] rfl) (fun H locs ls hP hD hS hl => ?_)
      refine lv_iinc (v := (v2 + 1)) (lv' := [(2, .int (v2 + 1)), (0, .ref h0), (1, .int v1)]) hx hb dX5_lose_117 hl (k := 2) rfl rfl (by decide) rfl (fun ls hl => ?_)
      refine lv_goto (tgt := 12) hx hb dX5_lose_120 (by decide) ?_
      exact ih hf hP hD hS (lv_sub hl [1, 2, 0] rfl) hexit
def q_X5_lose_L137 (N : Nat) (v1 : Int32) (v2 : Int32) (x41 : Int32) : Nat → Int32 → (Nat → Int32) → Option (Nat → Int32)
  | 0, _, _ => none
  | n + 1, v3, f40 =>
    (if (x41 - 1) ≤ v3 then
     (some f40)
    else
     (if v1 ≤ v2 then
      (if v1 ≤ v3 then
       (if z_in ((6 * (v2 + 1)) + (v3 + 1)) 36 then
       (Option.bind (some ((f40 (Int32.toNatClampNeg ((6 * (v2 + 1)) + (v3 + 1)))) : Int32)) (fun n5 =>
       (if z_in ((6 * v2) + v3) 36 then
       (q_X5_lose_L137 N v1 v2 x41 n (v3 + 1) (upd f40 (Int32.toNatClampNeg ((6 * v2) + v3)) (vp_nar .boolean n5)))
       else none)))
       else none)
      else
       (if z_in ((6 * (v2 + 1)) + v3) 36 then
       (Option.bind (some ((f40 (Int32.toNatClampNeg ((6 * (v2 + 1)) + v3))) : Int32)) (fun n8 =>
       (if z_in ((6 * v2) + v3) 36 then
       (q_X5_lose_L137 N v1 v2 x41 n (v3 + 1) (upd f40 (Int32.toNatClampNeg ((6 * v2) + v3)) (vp_nar .boolean n8)))
       else none)))
       else none))
     else
      (if v1 ≤ v3 then
       (if z_in ((6 * v2) + (v3 + 1)) 36 then
       (Option.bind (some ((f40 (Int32.toNatClampNeg ((6 * v2) + (v3 + 1)))) : Int32)) (fun n12 =>
       (if z_in ((6 * v2) + v3) 36 then
       (q_X5_lose_L137 N v1 v2 x41 n (v3 + 1) (upd f40 (Int32.toNatClampNeg ((6 * v2) + v3)) (vp_nar .boolean n12)))
       else none)))
       else none)
      else
       (if z_in ((6 * v2) + v3) 36 then
       (Option.bind (some ((f40 (Int32.toNatClampNeg ((6 * v2) + v3))) : Int32)) (fun n15 =>
       (q_X5_lose_L137 N v1 v2 x41 n (v3 + 1) (upd f40 (Int32.toNatClampNeg ((6 * v2) + v3)) (vp_nar .boolean n15)))))
       else none))))
set_option maxHeartbeats 4000000 in
set_option maxRecDepth 100000 in
theorem b_X5_lose_L137 {p : Program} {l : Launch} {e : Env} {R : Room} {s : State} {m : MethodId} {args : Array Value} {below : List Frame} {meth : Method} {c : Code} {Q : State → Prop} {A : Nat → Prop} {dC : Nat → ClassId} {dI : Nat → Nat → Nat} {cI cZ cJ cA : ClassId} {h0 : Nat} {a : Nat → Nat} (N : Nat) (C0 : z_Cx p s m args c cX5_lose 4 wsX5_lose RX5 R 2 43 A dC dI (z_ty cI cZ cJ cA)) : ∀ (n : Nat) {v1 : Int32} {v2 : Int32} {v3 : Int32} {x1 : Int32} {x3 : Int32} {x4 : Int32} {x5 : Int32} {x6 : Int32} {x7 : Int32} {x9 : Int32} {x10 : Int32} {x14 : Int32} {x15 : Int32} {x16 : Int32} {x19 : Int32} {x20 : Int32} {x21 : Int32} {x22 : Int32} {x23 : Int32} {x24 : Int32} {x41 : Int32} {x42 : Int32} {f0 : (Nat → Int32)} {f2 : (Nat → Int32)} {f8 : (Nat → Int32)} {f11 : (Nat → Int32)} {f12 : (Nat → Int32)} {f13 : (Nat → Int32)} {f17 : (Nat → Int32)} {f18 : (Nat → Int32)} {f25 : (Nat → Int32)} {f26 : (Nat → Int32)} {f27 : (Nat → Int32)} {f28 : (Nat → Int32)} {f29 : (Nat → Int32)} {f30 : (Nat → Int32)} {f31 : (Nat → Int32)} {f32 : (Nat → Int32)} {f33 : (Nat → Int32)} {f34 : (Nat → Int32)} {f35 : (Nat → Int32)} {f36 : (Nat → Int32)} {f37 : (Nat → Int32)} {f38 : (Nat → Int32)} {f39 : (Nat → Int32)} {f40 : (Nat → Int32)} {f43 : (Nat → Int32)} {o : (Nat → Int32)} {H : Heap} {locs : List Loc} {ls : Array Slot}, q_X5_lose_L137 N v1 v2 x41 n v3 f40 = some o → va_P (dC, dI) vwCl (wX5 cI cZ cJ cA h0 a x1 x3 x4 x5 x6 x7 x9 x10 x14 x15 x16 x19 x20 x21 x22 x23 x24 x41 x42 f0 f2 f8 f11 f12 f13 f17 f18 f25 f26 f27 f28 f29 f30 f31 f32 f33 f34 f35 f36 f37 f38 f39 f40 f43) H → va_D A (wX5 cI cZ cJ cA h0 a x1 x3 x4 x5 x6 x7 x9 x10 x14 x15 x16 x19 x20 x21 x22 x23 x24 x41 x42 f0 f2 f8 f11 f12 f13 f17 f18 f25 f26 f27 f28 f29 f30 f31 f32 f33 f34 f35 f36 f37 f38 f39 f40 f43) → va_S A s.heap H locs → lv_has ls 4 [(0, .ref h0), (1, .int v1), (2, .int v2), (3, .int v3)] →
    (∀ (H : Heap) (locs : List Loc) (ls : Array Slot), va_P (dC, dI) vwCl (wX5 cI cZ cJ cA h0 a x1 x3 x4 x5 x6 x7 x9 x10 x14 x15 x16 x19 x20 x21 x22 x23 x24 x41 x42 f0 f2 f8 f11 f12 f13 f17 f18 f25 f26 f27 f28 f29 f30 f31 f32 f33 f34 f35 f36 f37 f38 f39 o f43) H → va_D A (wX5 cI cZ cJ cA h0 a x1 x3 x4 x5 x6 x7 x9 x10 x14 x15 x16 x19 x20 x21 x22 x23 x24 x41 x42 f0 f2 f8 f11 f12 f13 f17 f18 f25 f26 f27 f28 f29 f30 f31 f32 f33 f34 f35 f36 f37 f38 f39 o f43) → va_S A s.heap H locs → lv_has ls 4 [(0, .ref h0), (1, .int v1), (2, .int v2)] → W p l e R s m args below meth c H locs 0 0 Q (F0 m 197 ls [])) →
    W p l e R s m args below meth c H locs 0 0 Q (F0 m 137 ls []) := by
  obtain ⟨⟨hx, hb, hml, hown, hts⟩, hRf, hRl, hA, hN, hK⟩ := C0
  intro n
  induction n with
  | zero =>
    intro v1 v2 v3 x1 x3 x4 x5 x6 x7 x9 x10 x14 x15 x16 x19 x20 x21 x22 x23 x24 x41 x42 f0 f2 f8 f11 f12 f13 f17 f18 f25 f26 f27 f28 f29 f30 f31 f32 f33 f34 f35 f36 f37 f38 f39 f40 f43 o H locs ls hf
    cases hf
  | succ n ih =>
    intro v1 v2 v3 x1 x3 x4 x5 x6 x7 x9 x10 x14 x15 x16 x19 x20 x21 x22 x23 x24 x41 x42 f0 f2 f8 f11 f12 f13 f17 f18 f25 f26 f27 f28 f29 f30 f31 f32 f33 f34 f35 f36 f37 f38 f39 f40 f43 o H locs ls hf hP hD hS hl hexit
    rw [q_X5_lose_L137] at hf
    refine lv_iload_n hx hb dX5_lose_137 rfl (lv_at hl 3 rfl) ?_
    refine lv_aload_n hx hb dX5_lose_138 rfl (lv_at hl 0 rfl) ?_
    refine va_get (D := (dC, dI)) (ci := 5) (v := .int x41) (C := RX5) (T := TX5) (N := 44) hx hb hts (fun w hw => List.mem_cons_of_mem _ (List.mem_append_right _ hw)) hown hK hP 0 rfl rfl 41 (by decide) (hts (.fieldLink RX5 187 "OldStadiumModel" "stones" "I") (List.mem_of_getElem? (i := 1) rfl)) (fun _ h9 => h9) rfl dX5_lose_139 ?_
    refine lv_iconst (v := 1) hx hb dX5_lose_142 (by decide) ?_
    refine lv_isub hx hb dX5_lose_143 ?_
    refine lv_icmp_ge (tgt := 197) hx hb dX5_lose_144 (by decide) (fun c1 => ?_) (fun c1 => ?_)
    · replace hf := z_ip hf c1
      obtain rfl := Option.some.inj hf
      exact hexit _ _ _ hP hD hS (lv_sub hl [0, 1, 2] rfl)
    · replace hf := z_im hf c1
      refine lv_aload_n hx hb dX5_lose_147 rfl (lv_at hl 0 rfl) ?_
      refine va_get (D := (dC, dI)) (ci := 5) (v := .ref (a 40)) (C := RX5) (T := TX5) (N := 44) hx hb hts (fun w hw => List.mem_cons_of_mem _ (List.mem_append_right _ hw)) hown hK hP 0 rfl rfl 40 (by decide) (hts (.fieldLink RX5 87 "OldStadiumModel" "joined" "[Z") (List.mem_of_getElem? (i := 7) rfl)) (fun _ h9 => h9) rfl dX5_lose_148 ?_
      refine lv_bipush (v := 6) hx hb dX5_lose_151 (by decide) ?_
      refine lv_iload_n hx hb dX5_lose_153 rfl (lv_at hl 2 rfl) ?_
      refine lv_imul hx hb dX5_lose_154 ?_
      refine lv_iload_n hx hb dX5_lose_155 rfl (lv_at hl 3 rfl) ?_
      refine lv_iadd hx hb dX5_lose_156 ?_
      refine lv_aload_n hx hb dX5_lose_157 rfl (lv_at hl 0 rfl) ?_
      refine va_get (D := (dC, dI)) (ci := 5) (v := .ref (a 40)) (C := RX5) (T := TX5) (N := 44) hx hb hts (fun w hw => List.mem_cons_of_mem _ (List.mem_append_right _ hw)) hown hK hP 0 rfl rfl 40 (by decide) (hts (.fieldLink RX5 87 "OldStadiumModel" "joined" "[Z") (List.mem_of_getElem? (i := 7) rfl)) (fun _ h9 => h9) rfl dX5_lose_158 ?_
      refine lv_bipush (v := 6) hx hb dX5_lose_161 (by decide) ?_
      refine lv_iload_n hx hb dX5_lose_163 rfl (lv_at hl 2 rfl) ?_
      refine lv_iload_n hx hb dX5_lose_164 rfl (lv_at hl 1 rfl) ?_
      refine lv_icmp_ge (tgt := 172) hx hb dX5_lose_165 (by decide) (fun c2 => ?_) (fun c2 => ?_)
      · replace hf := z_ip hf c2
        refine lv_iload_n hx hb dX5_lose_172 rfl (lv_at hl 2 rfl) ?_
        refine lv_iconst (v := 1) hx hb dX5_lose_173 (by decide) ?_
        refine lv_iadd hx hb dX5_lose_174 ?_
        refine lv_imul hx hb dX5_lose_175 ?_
        refine lv_iload_n hx hb dX5_lose_176 rfl (lv_at hl 3 rfl) ?_
        refine lv_iload_n hx hb dX5_lose_177 rfl (lv_at hl 1 rfl) ?_
        refine lv_icmp_ge (tgt := 185) hx hb dX5_lose_178 (by decide) (fun c3 => ?_) (fun c3 => ?_)
        · replace hf := z_ip hf c3
          refine lv_iload_n hx hb dX5_lose_185 rfl (lv_at hl 3 rfl) ?_
          refine lv_iconst (v := 1) hx hb dX5_lose_186 (by decide) ?_
          refine lv_iadd hx hb dX5_lose_187 ?_
          refine lv_iadd hx hb dX5_lose_188 ?_
          have b4 := z_c1 hf
          replace hf := z_c2 hf
          refine va_zald hx hb hK hP 24 1 rfl rfl b4 dX5_lose_189 ?_
          obtain ⟨n5, hn5, hf1⟩ := z_ib hf
          replace hf := hf1
          clear hf1
          refine lv_topi (fun y9 ey9 => ?_)
          obtain rfl : n5 = y9 := (Option.some.inj hn5).symm.trans ey9.symm
          have b6 := z_c1 hf
          replace hf := z_c2 hf
          refine va_zast hx hb hK hP hD hS 24 1 rfl rfl b6 dX5_lose_190 (fun H locs hP hD hS => ?_)
          replace hP : va_P (dC, dI) vwCl (wX5 cI cZ cJ cA h0 a x1 x3 x4 x5 x6 x7 x9 x10 x14 x15 x16 x19 x20 x21 x22 x23 x24 x41 x42 f0 f2 f8 f11 f12 f13 f17 f18 f25 f26 f27 f28 f29 f30 f31 f32 f33 f34 f35 f36 f37 f38 f39 (upd f40 (Int32.toNatClampNeg ((6 * v2) + v3)) (vp_nar .boolean n5)) f43) H := hP
          replace hD : va_D A (wX5 cI cZ cJ cA h0 a x1 x3 x4 x5 x6 x7 x9 x10 x14 x15 x16 x19 x20 x21 x22 x23 x24 x41 x42 f0 f2 f8 f11 f12 f13 f17 f18 f25 f26 f27 f28 f29 f30 f31 f32 f33 f34 f35 f36 f37 f38 f39 (upd f40 (Int32.toNatClampNeg ((6 * v2) + v3)) (vp_nar .boolean n5)) f43) := hD
          refine lv_iinc (v := (v3 + 1)) (lv' := [(3, .int (v3 + 1)), (0, .ref h0), (1, .int v1), (2, .int v2)]) hx hb dX5_lose_191 hl (k := 3) rfl rfl (by decide) rfl (fun ls hl => ?_)
          refine lv_goto (tgt := 137) hx hb dX5_lose_194 (by decide) ?_
          exact ih hf hP hD hS (lv_sub hl [1, 2, 3, 0] rfl) hexit
        · replace hf := z_im hf c3
          refine lv_iload_n hx hb dX5_lose_181 rfl (lv_at hl 3 rfl) ?_
          refine lv_goto (tgt := 188) hx hb dX5_lose_182 (by decide) ?_
          refine lv_iadd hx hb dX5_lose_188 ?_
          have b7 := z_c1 hf
          replace hf := z_c2 hf
          refine va_zald hx hb hK hP 24 1 rfl rfl b7 dX5_lose_189 ?_
          obtain ⟨n8, hn8, hf1⟩ := z_ib hf
          replace hf := hf1
          clear hf1
          refine lv_topi (fun y9 ey9 => ?_)
          obtain rfl : n8 = y9 := (Option.some.inj hn8).symm.trans ey9.symm
          have b9 := z_c1 hf
          replace hf := z_c2 hf
          refine va_zast hx hb hK hP hD hS 24 1 rfl rfl b9 dX5_lose_190 (fun H locs hP hD hS => ?_)
          replace hP : va_P (dC, dI) vwCl (wX5 cI cZ cJ cA h0 a x1 x3 x4 x5 x6 x7 x9 x10 x14 x15 x16 x19 x20 x21 x22 x23 x24 x41 x42 f0 f2 f8 f11 f12 f13 f17 f18 f25 f26 f27 f28 f29 f30 f31 f32 f33 f34 f35 f36 f37 f38 f39 (upd f40 (Int32.toNatClampNeg ((6 * v2) + v3)) (vp_nar .boolean n8)) f43) H := hP
          replace hD : va_D A (wX5 cI cZ cJ cA h0 a x1 x3 x4 x5 x6 x7 x9 x10 x14 x15 x16 x19 x20 x21 x22 x23 x24 x41 x42 f0 f2 f8 f11 f12 f13 f17 f18 f25 f26 f27 f28 f29 f30 f31 f32 f33 f34 f35 f36 f37 f38 f39 (upd f40 (Int32.toNatClampNeg ((6 * v2) + v3)) (vp_nar .boolean n8)) f43) := hD
          refine lv_iinc (v := (v3 + 1)) (lv' := [(3, .int (v3 + 1)), (0, .ref h0), (1, .int v1), (2, .int v2)]) hx hb dX5_lose_191 hl (k := 3) rfl rfl (by decide) rfl (fun ls hl => ?_)
          refine lv_goto (tgt := 137) hx hb dX5_lose_194 (by decide) ?_
          exact ih hf hP hD hS (lv_sub hl [1, 2, 3, 0] rfl) hexit
      · replace hf := z_im hf c2
        refine lv_iload_n hx hb dX5_lose_168 rfl (lv_at hl 2 rfl) ?_
        refine lv_goto (tgt := 175) hx hb dX5_lose_169 (by decide) ?_
        refine lv_imul hx hb dX5_lose_175 ?_
        refine lv_iload_n hx hb dX5_lose_176 rfl (lv_at hl 3 rfl) ?_
        refine lv_iload_n hx hb dX5_lose_177 rfl (lv_at hl 1 rfl) ?_
        refine lv_icmp_ge (tgt := 185) hx hb dX5_lose_178 (by decide) (fun c10 => ?_) (fun c10 => ?_)
        · replace hf := z_ip hf c10
          refine lv_iload_n hx hb dX5_lose_185 rfl (lv_at hl 3 rfl) ?_
          refine lv_iconst (v := 1) hx hb dX5_lose_186 (by decide) ?_
          refine lv_iadd hx hb dX5_lose_187 ?_
          refine lv_iadd hx hb dX5_lose_188 ?_
          have b11 := z_c1 hf
          replace hf := z_c2 hf
          refine va_zald hx hb hK hP 24 1 rfl rfl b11 dX5_lose_189 ?_
          obtain ⟨n12, hn12, hf1⟩ := z_ib hf
          replace hf := hf1
          clear hf1
          refine lv_topi (fun y9 ey9 => ?_)
          obtain rfl : n12 = y9 := (Option.some.inj hn12).symm.trans ey9.symm
          have b13 := z_c1 hf
          replace hf := z_c2 hf
          refine va_zast hx hb hK hP hD hS 24 1 rfl rfl b13 dX5_lose_190 (fun H locs hP hD hS => ?_)
          replace hP : va_P (dC, dI) vwCl (wX5 cI cZ cJ cA h0 a x1 x3 x4 x5 x6 x7 x9 x10 x14 x15 x16 x19 x20 x21 x22 x23 x24 x41 x42 f0 f2 f8 f11 f12 f13 f17 f18 f25 f26 f27 f28 f29 f30 f31 f32 f33 f34 f35 f36 f37 f38 f39 (upd f40 (Int32.toNatClampNeg ((6 * v2) + v3)) (vp_nar .boolean n12)) f43) H := hP
          replace hD : va_D A (wX5 cI cZ cJ cA h0 a x1 x3 x4 x5 x6 x7 x9 x10 x14 x15 x16 x19 x20 x21 x22 x23 x24 x41 x42 f0 f2 f8 f11 f12 f13 f17 f18 f25 f26 f27 f28 f29 f30 f31 f32 f33 f34 f35 f36 f37 f38 f39 (upd f40 (Int32.toNatClampNeg ((6 * v2) + v3)) (vp_nar .boolean n12)) f43) := hD
          refine lv_iinc (v := (v3 + 1)) (lv' := [(3, .int (v3 + 1)), (0, .ref h0), (1, .int v1), (2, .int v2)]) hx hb dX5_lose_191 hl (k := 3) rfl rfl (by decide) rfl (fun ls hl => ?_)
          refine lv_goto (tgt := 137) hx hb dX5_lose_194 (by decide) ?_
          exact ih hf hP hD hS (lv_sub hl [1, 2, 3, 0] rfl) hexit
        · replace hf := z_im hf c10
          refine lv_iload_n hx hb dX5_lose_181 rfl (lv_at hl 3 rfl) ?_
          refine lv_goto (tgt := 188) hx hb dX5_lose_182 (by decide) ?_
          refine lv_iadd hx hb dX5_lose_188 ?_
          have b14 := z_c1 hf
          replace hf := z_c2 hf
          refine va_zald hx hb hK hP 24 1 rfl rfl b14 dX5_lose_189 ?_
          obtain ⟨n15, hn15, hf1⟩ := z_ib hf
          replace hf := hf1
          clear hf1
          refine lv_topi (fun y9 ey9 => ?_)
          obtain rfl : n15 = y9 := (Option.some.inj hn15).symm.trans ey9.symm
          refine va_zast hx hb hK hP hD hS 24 1 rfl rfl b14 dX5_lose_190 (fun H locs hP hD hS => ?_)
          replace hP : va_P (dC, dI) vwCl (wX5 cI cZ cJ cA h0 a x1 x3 x4 x5 x6 x7 x9 x10 x14 x15 x16 x19 x20 x21 x22 x23 x24 x41 x42 f0 f2 f8 f11 f12 f13 f17 f18 f25 f26 f27 f28 f29 f30 f31 f32 f33 f34 f35 f36 f37 f38 f39 (upd f40 (Int32.toNatClampNeg ((6 * v2) + v3)) (vp_nar .boolean n15)) f43) H := hP
          replace hD : va_D A (wX5 cI cZ cJ cA h0 a x1 x3 x4 x5 x6 x7 x9 x10 x14 x15 x16 x19 x20 x21 x22 x23 x24 x41 x42 f0 f2 f8 f11 f12 f13 f17 f18 f25 f26 f27 f28 f29 f30 f31 f32 f33 f34 f35 f36 f37 f38 f39 (upd f40 (Int32.toNatClampNeg ((6 * v2) + v3)) (vp_nar .boolean n15)) f43) := hD
          refine lv_iinc (v := (v3 + 1)) (lv' := [(3, .int (v3 + 1)), (0, .ref h0), (1, .int v1), (2, .int v2)]) hx hb dX5_lose_191 hl (k := 3) rfl rfl (by decide) rfl (fun ls hl => ?_)
          refine lv_goto (tgt := 137) hx hb dX5_lose_194 (by decide) ?_
          exact ih hf hP hD hS (lv_sub hl [1, 2, 3, 0] rfl) hexit
def q_X5_lose_L125 (N : Nat) (v1 : Int32) (x41 : Int32) : Nat → Int32 → (Nat → Int32) → Option (Nat → Int32)
  | 0, _, _ => none
  | n + 1, v2, f40 =>
    (if (x41 - 1) ≤ v2 then
     (some f40)
    else
     (Option.bind (q_X5_lose_L137 N v1 v2 x41 N 0 f40) (fun t2 =>
     (q_X5_lose_L125 N v1 x41 n (v2 + 1) t2))))
set_option maxHeartbeats 4000000 in
set_option maxRecDepth 100000 in
theorem b_X5_lose_L125 {p : Program} {l : Launch} {e : Env} {R : Room} {s : State} {m : MethodId} {args : Array Value} {below : List Frame} {meth : Method} {c : Code} {Q : State → Prop} {A : Nat → Prop} {dC : Nat → ClassId} {dI : Nat → Nat → Nat} {cI cZ cJ cA : ClassId} {h0 : Nat} {a : Nat → Nat} (N : Nat) (C0 : z_Cx p s m args c cX5_lose 4 wsX5_lose RX5 R 2 43 A dC dI (z_ty cI cZ cJ cA)) : ∀ (n : Nat) {v1 : Int32} {v2 : Int32} {x1 : Int32} {x3 : Int32} {x4 : Int32} {x5 : Int32} {x6 : Int32} {x7 : Int32} {x9 : Int32} {x10 : Int32} {x14 : Int32} {x15 : Int32} {x16 : Int32} {x19 : Int32} {x20 : Int32} {x21 : Int32} {x22 : Int32} {x23 : Int32} {x24 : Int32} {x41 : Int32} {x42 : Int32} {f0 : (Nat → Int32)} {f2 : (Nat → Int32)} {f8 : (Nat → Int32)} {f11 : (Nat → Int32)} {f12 : (Nat → Int32)} {f13 : (Nat → Int32)} {f17 : (Nat → Int32)} {f18 : (Nat → Int32)} {f25 : (Nat → Int32)} {f26 : (Nat → Int32)} {f27 : (Nat → Int32)} {f28 : (Nat → Int32)} {f29 : (Nat → Int32)} {f30 : (Nat → Int32)} {f31 : (Nat → Int32)} {f32 : (Nat → Int32)} {f33 : (Nat → Int32)} {f34 : (Nat → Int32)} {f35 : (Nat → Int32)} {f36 : (Nat → Int32)} {f37 : (Nat → Int32)} {f38 : (Nat → Int32)} {f39 : (Nat → Int32)} {f40 : (Nat → Int32)} {f43 : (Nat → Int32)} {o : (Nat → Int32)} {H : Heap} {locs : List Loc} {ls : Array Slot}, q_X5_lose_L125 N v1 x41 n v2 f40 = some o → va_P (dC, dI) vwCl (wX5 cI cZ cJ cA h0 a x1 x3 x4 x5 x6 x7 x9 x10 x14 x15 x16 x19 x20 x21 x22 x23 x24 x41 x42 f0 f2 f8 f11 f12 f13 f17 f18 f25 f26 f27 f28 f29 f30 f31 f32 f33 f34 f35 f36 f37 f38 f39 f40 f43) H → va_D A (wX5 cI cZ cJ cA h0 a x1 x3 x4 x5 x6 x7 x9 x10 x14 x15 x16 x19 x20 x21 x22 x23 x24 x41 x42 f0 f2 f8 f11 f12 f13 f17 f18 f25 f26 f27 f28 f29 f30 f31 f32 f33 f34 f35 f36 f37 f38 f39 f40 f43) → va_S A s.heap H locs → lv_has ls 4 [(0, .ref h0), (1, .int v1), (2, .int v2)] →
    (∀ (H : Heap) (locs : List Loc) (ls : Array Slot), va_P (dC, dI) vwCl (wX5 cI cZ cJ cA h0 a x1 x3 x4 x5 x6 x7 x9 x10 x14 x15 x16 x19 x20 x21 x22 x23 x24 x41 x42 f0 f2 f8 f11 f12 f13 f17 f18 f25 f26 f27 f28 f29 f30 f31 f32 f33 f34 f35 f36 f37 f38 f39 o f43) H → va_D A (wX5 cI cZ cJ cA h0 a x1 x3 x4 x5 x6 x7 x9 x10 x14 x15 x16 x19 x20 x21 x22 x23 x24 x41 x42 f0 f2 f8 f11 f12 f13 f17 f18 f25 f26 f27 f28 f29 f30 f31 f32 f33 f34 f35 f36 f37 f38 f39 o f43) → va_S A s.heap H locs → lv_has ls 4 [(0, .ref h0)] → W p l e R s m args below meth c H locs 0 0 Q (F0 m 203 ls [])) →
    W p l e R s m args below meth c H locs 0 0 Q (F0 m 125 ls []) := by
  obtain ⟨⟨hx, hb, hml, hown, hts⟩, hRf, hRl, hA, hN, hK⟩ := C0
  intro n
  induction n with
  | zero =>
    intro v1 v2 x1 x3 x4 x5 x6 x7 x9 x10 x14 x15 x16 x19 x20 x21 x22 x23 x24 x41 x42 f0 f2 f8 f11 f12 f13 f17 f18 f25 f26 f27 f28 f29 f30 f31 f32 f33 f34 f35 f36 f37 f38 f39 f40 f43 o H locs ls hf
    cases hf
  | succ n ih =>
    intro v1 v2 x1 x3 x4 x5 x6 x7 x9 x10 x14 x15 x16 x19 x20 x21 x22 x23 x24 x41 x42 f0 f2 f8 f11 f12 f13 f17 f18 f25 f26 f27 f28 f29 f30 f31 f32 f33 f34 f35 f36 f37 f38 f39 f40 f43 o H locs ls hf hP hD hS hl hexit
    rw [q_X5_lose_L125] at hf
    refine lv_iload_n hx hb dX5_lose_125 rfl (lv_at hl 2 rfl) ?_
    refine lv_aload_n hx hb dX5_lose_126 rfl (lv_at hl 0 rfl) ?_
    refine va_get (D := (dC, dI)) (ci := 5) (v := .int x41) (C := RX5) (T := TX5) (N := 44) hx hb hts (fun w hw => List.mem_cons_of_mem _ (List.mem_append_right _ hw)) hown hK hP 0 rfl rfl 41 (by decide) (hts (.fieldLink RX5 187 "OldStadiumModel" "stones" "I") (List.mem_of_getElem? (i := 1) rfl)) (fun _ h9 => h9) rfl dX5_lose_127 ?_
    refine lv_iconst (v := 1) hx hb dX5_lose_130 (by decide) ?_
    refine lv_isub hx hb dX5_lose_131 ?_
    refine lv_icmp_ge (tgt := 203) hx hb dX5_lose_132 (by decide) (fun c1 => ?_) (fun c1 => ?_)
    · replace hf := z_ip hf c1
      obtain rfl := Option.some.inj hf
      exact hexit _ _ _ hP hD hS (lv_sub hl [0] rfl)
    · replace hf := z_im hf c1
      refine lv_iconst (v := 0) hx hb dX5_lose_135 (by decide) ?_
      refine lv_istore_n (lv' := [(3, .int 0), (0, .ref h0), (1, .int v1), (2, .int v2)]) hx hb dX5_lose_136 rfl hl (by decide) rfl (fun ls hl => ?_)
      obtain ⟨t2, ht2, hf1⟩ := z_ib hf
      replace hf := hf1
      clear hf1
      refine b_X5_lose_L137 N ⟨⟨hx, hb, hml, hown, hts⟩, hRf, hRl, hA, hN, hK⟩ N ht2 hP hD hS (lv_sub hl [1, 2, 3, 0] rfl) (fun H locs ls hP hD hS hl => ?_)
      refine lv_iinc (v := (v2 + 1)) (lv' := [(2, .int (v2 + 1)), (0, .ref h0), (1, .int v1)]) hx hb dX5_lose_197 hl (k := 2) rfl rfl (by decide) rfl (fun ls hl => ?_)
      refine lv_goto (tgt := 125) hx hb dX5_lose_200 (by decide) ?_
      exact ih hf hP hD hS (lv_sub hl [1, 2, 0] rfl) hexit
def q_X5_lose (N : Nat) (v1 : Int32) (x41 : Int32) (f35 : (Nat → Int32)) (f36 : (Nat → Int32)) (f37 : (Nat → Int32)) (f38 : (Nat → Int32)) (f39 : (Nat → Int32)) (f40 : (Nat → Int32)) : Option (Int32 × Int32 × (Nat → Int32) × (Nat → Int32) × (Nat → Int32) × (Nat → Int32) × (Nat → Int32) × (Nat → Int32)) :=
  (Option.bind (q_X5_isStone N v1 x41) (fun o1 =>
  (if o1 = 0 then
   (some ((-1), x41, f35, f36, f37, f38, f39, f40))
  else
   (Option.bind (q_X5_lose_L12 N x41 N v1 f35 f36 f37 f38 f39) (fun t3 =>
   (Option.bind (q_X5_lose_L125 N v1 x41 N 0 f40) (fun t4 =>
   (some ((x41 - 1), (x41 - 1), t3.1, t3.2.1, t3.2.2.1, t3.2.2.2.1, t3.2.2.2.2, t4)))))))))
set_option maxHeartbeats 4000000 in
set_option maxRecDepth 100000 in
theorem b_X5_lose {p : Program} {l : Launch} {e : Env} {R : Room} {s : State} {m : MethodId} {args : Array Value} {below : List Frame} {meth : Method} {c : Code} {Q : State → Prop} {A : Nat → Prop} {dC : Nat → ClassId} {dI : Nat → Nat → Nat} {cI cZ cJ cA : ClassId} {h0 : Nat} {a : Nat → Nat} (N : Nat) (C0 : z_Cx p s m args c cX5_lose 4 wsX5_lose RX5 R 2 43 A dC dI (z_ty cI cZ cJ cA)) {v1 : Int32} {x1 : Int32} {x3 : Int32} {x4 : Int32} {x5 : Int32} {x6 : Int32} {x7 : Int32} {x9 : Int32} {x10 : Int32} {x14 : Int32} {x15 : Int32} {x16 : Int32} {x19 : Int32} {x20 : Int32} {x21 : Int32} {x22 : Int32} {x23 : Int32} {x24 : Int32} {x41 : Int32} {x42 : Int32} {f0 : (Nat → Int32)} {f2 : (Nat → Int32)} {f8 : (Nat → Int32)} {f11 : (Nat → Int32)} {f12 : (Nat → Int32)} {f13 : (Nat → Int32)} {f17 : (Nat → Int32)} {f18 : (Nat → Int32)} {f25 : (Nat → Int32)} {f26 : (Nat → Int32)} {f27 : (Nat → Int32)} {f28 : (Nat → Int32)} {f29 : (Nat → Int32)} {f30 : (Nat → Int32)} {f31 : (Nat → Int32)} {f32 : (Nat → Int32)} {f33 : (Nat → Int32)} {f34 : (Nat → Int32)} {f35 : (Nat → Int32)} {f36 : (Nat → Int32)} {f37 : (Nat → Int32)} {f38 : (Nat → Int32)} {f39 : (Nat → Int32)} {f40 : (Nat → Int32)} {f43 : (Nat → Int32)} {o : (Int32 × Int32 × (Nat → Int32) × (Nat → Int32) × (Nat → Int32) × (Nat → Int32) × (Nat → Int32) × (Nat → Int32))} {H : Heap} {locs : List Loc} {ls : Array Slot} (hf : q_X5_lose N v1 x41 f35 f36 f37 f38 f39 f40 = some o) (hP : va_P (dC, dI) vwCl (wX5 cI cZ cJ cA h0 a x1 x3 x4 x5 x6 x7 x9 x10 x14 x15 x16 x19 x20 x21 x22 x23 x24 x41 x42 f0 f2 f8 f11 f12 f13 f17 f18 f25 f26 f27 f28 f29 f30 f31 f32 f33 f34 f35 f36 f37 f38 f39 f40 f43) H) (hD : va_D A (wX5 cI cZ cJ cA h0 a x1 x3 x4 x5 x6 x7 x9 x10 x14 x15 x16 x19 x20 x21 x22 x23 x24 x41 x42 f0 f2 f8 f11 f12 f13 f17 f18 f25 f26 f27 f28 f29 f30 f31 f32 f33 f34 f35 f36 f37 f38 f39 f40 f43)) (hS : va_S A s.heap H locs) (hl : lv_has ls 4 [(0, .ref h0), (1, .int v1)])
    (hret : ∀ (pc : Nat) (H : Heap) (locs : List Loc) (ls : Array Slot) (r : Int32), decode cX5_lose pc = .ok (.ireturn, 1) → r = o.1 → va_P (dC, dI) vwCl (wX5 cI cZ cJ cA h0 a x1 x3 x4 x5 x6 x7 x9 x10 x14 x15 x16 x19 x20 x21 x22 x23 x24 o.2.1 x42 f0 f2 f8 f11 f12 f13 f17 f18 f25 f26 f27 f28 f29 f30 f31 f32 f33 f34 o.2.2.1 o.2.2.2.1 o.2.2.2.2.1 o.2.2.2.2.2.1 o.2.2.2.2.2.2.1 o.2.2.2.2.2.2.2 f43) H → va_D A (wX5 cI cZ cJ cA h0 a x1 x3 x4 x5 x6 x7 x9 x10 x14 x15 x16 x19 x20 x21 x22 x23 x24 o.2.1 x42 f0 f2 f8 f11 f12 f13 f17 f18 f25 f26 f27 f28 f29 f30 f31 f32 f33 f34 o.2.2.1 o.2.2.2.1 o.2.2.2.2.1 o.2.2.2.2.2.1 o.2.2.2.2.2.2.1 o.2.2.2.2.2.2.2 f43) → va_S A s.heap H locs → W p l e R s m args below meth c H locs 0 0 Q (F0 m pc ls [.int r])) :
    W p l e R s m args below meth c H locs 0 0 Q (F0 m 0 ls []) := by
  obtain ⟨⟨hx, hb, hml, hown, hts⟩, hRf, hRl, hA, hN, hK⟩ := C0
  unfold q_X5_lose at hf
  refine lv_aload_n hx hb dX5_lose_0 rfl (lv_at hl 0 rfl) ?_
  refine lv_iload_n hx hb dX5_lose_1 rfl (lv_at hl 1 rfl) ?_
  obtain ⟨o1, ho1, hf1⟩ := z_ib hf
  replace hf := hf1
  clear hf1
  refine z_Vi (As := [.int v1]) (rest := []) (w := (wX5 cI cZ cJ cA h0 a x1 x3 x4 x5 x6 x7 x9 x10 x14 x15 x16 x19 x20 x21 x22 x23 x24 x41 x42 f0 f2 f8 f11 f12 f13 f17 f18 f25 f26 f27 f28 f29 f30 f31 f32 f33 f34 f35 f36 f37 f38 f39 f40 f43)) (w1 := (wX5 cI cZ cJ cA h0 a x1 x3 x4 x5 x6 x7 x9 x10 x14 x15 x16 x19 x20 x21 x22 x23 x24 x41 x42 f0 f2 f8 f11 f12 f13 f17 f18 f25 f26 f27 f28 f29 f30 f31 f32 f33 f34 f35 f36 f37 f38 f39 f40 f43)) ⟨hx, hb, hml, hown, hts⟩ (k_X5_isStone l dC dI cI cZ cJ cA h0 a H.size N v1 x1 x3 x4 x5 x6 x7 x9 x10 x14 x15 x16 x19 x20 x21 x22 x23 x24 x41 x42 f0 f2 f8 f11 f12 f13 f17 f18 f25 f26 f27 f28 f29 f30 f31 f32 f33 f34 f35 f36 f37 f38 f39 f40 f43 o1 ho1) (cwV 1 hts gX5_lose_X5_isStone rfl rfl rfl (by decide +kernel) ⟨Nat.le_trans (Nat.le_of_ble_eq_true rfl) hRf, Nat.le_trans (Nat.le_of_ble_eq_true rfl) hRl⟩) hK hP hD hS hA hN (ci := 5) rfl rfl rfl rfl hl.1 rfl (Nat.le_of_ble_eq_true rfl) dX5_lose_2 (fun H locs hP hD hS => ?_)
  refine lv_if_ne (tgt := 10) hx hb dX5_lose_5 (by decide) (fun c2 => ?_) (fun c2 => ?_)
  · replace hf := z_im hf c2
    refine lv_iload_n hx hb dX5_lose_10 rfl (lv_at hl 1 rfl) ?_
    refine lv_istore_n (lv' := [(2, .int v1), (0, .ref h0), (1, .int v1)]) hx hb dX5_lose_11 rfl hl (by decide) rfl (fun ls hl => ?_)
    obtain ⟨t3, ht3, hf1⟩ := z_ib hf
    replace hf := hf1
    clear hf1
    refine b_X5_lose_L12 N ⟨⟨hx, hb, hml, hown, hts⟩, hRf, hRl, hA, hN, hK⟩ N ht3 hP hD hS (lv_sub hl [1, 2, 0] rfl) (fun H locs ls hP hD hS hl => ?_)
    refine lv_iconst (v := 0) hx hb dX5_lose_123 (by decide) ?_
    refine lv_istore_n (lv' := [(2, .int 0), (0, .ref h0), (1, .int v1)]) hx hb dX5_lose_124 rfl hl (by decide) rfl (fun ls hl => ?_)
    obtain ⟨t4, ht4, hf1⟩ := z_ib hf
    replace hf := hf1
    clear hf1
    refine b_X5_lose_L125 N ⟨⟨hx, hb, hml, hown, hts⟩, hRf, hRl, hA, hN, hK⟩ N ht4 hP hD hS (lv_sub hl [1, 2, 0] rfl) (fun H locs ls hP hD hS hl => ?_)
    refine lv_aload_n hx hb dX5_lose_203 rfl (lv_at hl 0 rfl) ?_
    refine lv_dup hx hb dX5_lose_204 rfl ?_
    refine va_get (D := (dC, dI)) (ci := 5) (v := .int x41) (C := RX5) (T := TX5) (N := 44) hx hb hts (fun w hw => List.mem_cons_of_mem _ (List.mem_append_right _ hw)) hown hK hP 0 rfl rfl 41 (by decide) (hts (.fieldLink RX5 187 "OldStadiumModel" "stones" "I") (List.mem_of_getElem? (i := 1) rfl)) (fun _ h9 => h9) rfl dX5_lose_205 ?_
    refine lv_iconst (v := 1) hx hb dX5_lose_208 (by decide) ?_
    refine lv_isub hx hb dX5_lose_209 ?_
    refine va_put (D := (dC, dI)) (ci := 5) (v := .int (x41 - 1)) (ty := .int) (C := RX5) (T := TX5) (N := 44) hx hb hts (fun w hw => List.mem_cons_of_mem _ (List.mem_append_right _ hw)) tyX5 tyX5_ok nmX5 hown hK hP hD hS 0 rfl rfl 41 (by decide) (hts (.fieldLink RX5 187 "OldStadiumModel" "stones" "I") (List.mem_of_getElem? (i := 1) rfl)) (fun _ h9 => h9) rfl (by decide +kernel) rfl rfl (Nat.le_of_ble_eq_true rfl) dX5_lose_210 (fun H locs hP hD hS => ?_)
    replace hP : va_P (dC, dI) vwCl (wX5 cI cZ cJ cA h0 a x1 x3 x4 x5 x6 x7 x9 x10 x14 x15 x16 x19 x20 x21 x22 x23 x24 (x41 - 1) x42 f0 f2 f8 f11 f12 f13 f17 f18 f25 f26 f27 f28 f29 f30 f31 f32 f33 f34 t3.1 t3.2.1 t3.2.2.1 t3.2.2.2.1 t3.2.2.2.2 t4 f43) H := hP
    replace hD : va_D A (wX5 cI cZ cJ cA h0 a x1 x3 x4 x5 x6 x7 x9 x10 x14 x15 x16 x19 x20 x21 x22 x23 x24 (x41 - 1) x42 f0 f2 f8 f11 f12 f13 f17 f18 f25 f26 f27 f28 f29 f30 f31 f32 f33 f34 t3.1 t3.2.1 t3.2.2.1 t3.2.2.2.1 t3.2.2.2.2 t4 f43) := hD
    refine lv_aload_n hx hb dX5_lose_213 rfl (lv_at hl 0 rfl) ?_
    refine va_get (D := (dC, dI)) (ci := 5) (v := .int (x41 - 1)) (C := RX5) (T := TX5) (N := 44) hx hb hts (fun w hw => List.mem_cons_of_mem _ (List.mem_append_right _ hw)) hown hK hP 0 rfl rfl 41 (by decide) (hts (.fieldLink RX5 187 "OldStadiumModel" "stones" "I") (List.mem_of_getElem? (i := 1) rfl)) (fun _ h9 => h9) rfl dX5_lose_214 ?_
    obtain rfl := Option.some.inj hf
    exact hret _ _ _ _ _ dX5_lose_217 rfl hP hD hS
  · replace hf := z_ip hf c2
    refine lv_iconst (v := (-1)) hx hb dX5_lose_8 (by decide) ?_
    obtain rfl := Option.some.inj hf
    exact hret _ _ _ _ _ dX5_lose_9 rfl hP hD hS
set_option maxHeartbeats 4000000 in
set_option maxRecDepth 100000 in
theorem k_X5_lose (l : Launch) (dC : Nat → ClassId) (dI : Nat → Nat → Nat) (cI cZ cJ cA : ClassId) (h0 : Nat) (a : Nat → Nat) (sz : Nat) (N : Nat) (v1 : Int32) (x1 : Int32) (x3 : Int32) (x4 : Int32) (x5 : Int32) (x6 : Int32) (x7 : Int32) (x9 : Int32) (x10 : Int32) (x14 : Int32) (x15 : Int32) (x16 : Int32) (x19 : Int32) (x20 : Int32) (x21 : Int32) (x22 : Int32) (x23 : Int32) (x24 : Int32) (x41 : Int32) (x42 : Int32) (f0 : (Nat → Int32)) (f2 : (Nat → Int32)) (f8 : (Nat → Int32)) (f11 : (Nat → Int32)) (f12 : (Nat → Int32)) (f13 : (Nat → Int32)) (f17 : (Nat → Int32)) (f18 : (Nat → Int32)) (f25 : (Nat → Int32)) (f26 : (Nat → Int32)) (f27 : (Nat → Int32)) (f28 : (Nat → Int32)) (f29 : (Nat → Int32)) (f30 : (Nat → Int32)) (f31 : (Nat → Int32)) (f32 : (Nat → Int32)) (f33 : (Nat → Int32)) (f34 : (Nat → Int32)) (f35 : (Nat → Int32)) (f36 : (Nat → Int32)) (f37 : (Nat → Int32)) (f38 : (Nat → Int32)) (f39 : (Nat → Int32)) (f40 : (Nat → Int32)) (f43 : (Nat → Int32)) (o : (Int32 × Int32 × (Nat → Int32) × (Nat → Int32) × (Nat → Int32) × (Nat → Int32) × (Nat → Int32) × (Nat → Int32))) (hf : q_X5_lose N v1 x41 f35 f36 f37 f38 f39 f40 = some o) : Met l yX5_lose wsX5_lose ({ frames := 2, cells := 0, slots := 0, locals := 43 } : Room) (z_Pre dC dI (z_ty cI cZ cJ cA) [.ref h0, .int v1] sz (wX5 cI cZ cJ cA h0 a x1 x3 x4 x5 x6 x7 x9 x10 x14 x15 x16 x19 x20 x21 x22 x23 x24 x41 x42 f0 f2 f8 f11 f12 f13 f17 f18 f25 f26 f27 f28 f29 f30 f31 f32 f33 f34 f35 f36 f37 f38 f39 f40 f43)) (z_Pi dC dI o.1 (wX5 cI cZ cJ cA h0 a x1 x3 x4 x5 x6 x7 x9 x10 x14 x15 x16 x19 x20 x21 x22 x23 x24 o.2.1 x42 f0 f2 f8 f11 f12 f13 f17 f18 f25 f26 f27 f28 f29 f30 f31 f32 f33 f34 o.2.2.1 o.2.2.2.1 o.2.2.2.2.1 o.2.2.2.2.2.1 o.2.2.2.2.2.2.1 o.2.2.2.2.2.2.2 f43) sz (wX5 cI cZ cJ cA h0 a x1 x3 x4 x5 x6 x7 x9 x10 x14 x15 x16 x19 x20 x21 x22 x23 x24 x41 x42 f0 f2 f8 f11 f12 f13 f17 f18 f25 f26 f27 f28 f29 f30 f31 f32 f33 f34 f35 f36 f37 f38 f39 f40 f43)) 0 0 (va_A (wX5 cI cZ cJ cA h0 a x1 x3 x4 x5 x6 x7 x9 x10 x14 x15 x16 x19 x20 x21 x22 x23 x24 x41 x42 f0 f2 f8 f11 f12 f13 f17 f18 f25 f26 f27 f28 f29 f30 f31 f32 f33 f34 f35 f36 f37 f38 f39 f40 f43) sz) := by
  refine Met.ofW (cc := cX5_lose) (maxL := 4) (ret := (some .int)) (by decide) rfl ?_
  intro p e s m args below meth c s₁ B hml hv
  obtain ⟨rfl, hsz, hP, hK, hD0, hN⟩ := hv
  subst hsz
  have hl := lv_entry ([.ref h0, .int v1]) (n := 4) (Nat.le_of_ble_eq_true rfl)
  rw [lg_entry_eq]
  refine b_X5_lose N ⟨⟨B.exec, B.bytes, hml, findClass_of_methodNamed B.named, atoms_spec (ws := wsX5_lose) B.pre⟩, Nat.le_refl _, Nat.le_refl _, fun q h => Or.inr h, hN, hK⟩ hf hP hD0.self va_S.rf hl (fun pc H locs ls r hd hr hP hD hS => ?_)
  subst hr
  exact W.iret B.exec B.bytes B.returns (fun t ht hW => ⟨⟨_, (), rfl, rfl, by rw [ht]; exact hP, hD⟩, hS.F ht⟩) hS.2.2 hd
def q_X5_doAgree_L2 (N : Nat) (v1 : Int32) (v2 : Int32) (f38 : (Nat → Int32)) : Nat → Int32 → Option (Sum Int32 Unit)
  | 0, _ => none
  | n + 1, v3 =>
    (if 8 ≤ v3 then
     (some (Sum.inr ()))
    else
     (if z_in ((8 * v1) + v3) 48 then
     (Option.bind (some ((f38 (Int32.toNatClampNeg ((8 * v1) + v3))) : Int32)) (fun n3 =>
     (if z_in ((8 * v2) + v3) 48 then
     (Option.bind (some ((f38 (Int32.toNatClampNeg ((8 * v2) + v3))) : Int32)) (fun n5 =>
     (if n3 ≤ 0 then
      (q_X5_doAgree_L2 N v1 v2 f38 n (v3 + 1))
     else
      (if n5 ≤ 0 then
       (q_X5_doAgree_L2 N v1 v2 f38 n (v3 + 1))
      else
       (if n3 = n5 then
        (q_X5_doAgree_L2 N v1 v2 f38 n (v3 + 1))
       else
        (some (Sum.inl 0)))))))
     else none)))
     else none))
set_option maxHeartbeats 4000000 in
set_option maxRecDepth 100000 in
theorem b_X5_doAgree_L2 {p : Program} {l : Launch} {e : Env} {R : Room} {s : State} {m : MethodId} {args : Array Value} {below : List Frame} {meth : Method} {c : Code} {Q : State → Prop} {A : Nat → Prop} {dC : Nat → ClassId} {dI : Nat → Nat → Nat} {cI cZ cJ cA : ClassId} {h0 : Nat} {a : Nat → Nat} (N : Nat) (C0 : z_Cx p s m args c cX5_doAgree 6 wsX5_doAgree RX5 R 0 0 A dC dI (z_ty cI cZ cJ cA)) : ∀ (n : Nat) {v1 : Int32} {v2 : Int32} {v3 : Int32} {x1 : Int32} {x3 : Int32} {x4 : Int32} {x5 : Int32} {x6 : Int32} {x7 : Int32} {x9 : Int32} {x10 : Int32} {x14 : Int32} {x15 : Int32} {x16 : Int32} {x19 : Int32} {x20 : Int32} {x21 : Int32} {x22 : Int32} {x23 : Int32} {x24 : Int32} {x41 : Int32} {x42 : Int32} {f0 : (Nat → Int32)} {f2 : (Nat → Int32)} {f8 : (Nat → Int32)} {f11 : (Nat → Int32)} {f12 : (Nat → Int32)} {f13 : (Nat → Int32)} {f17 : (Nat → Int32)} {f18 : (Nat → Int32)} {f25 : (Nat → Int32)} {f26 : (Nat → Int32)} {f27 : (Nat → Int32)} {f28 : (Nat → Int32)} {f29 : (Nat → Int32)} {f30 : (Nat → Int32)} {f31 : (Nat → Int32)} {f32 : (Nat → Int32)} {f33 : (Nat → Int32)} {f34 : (Nat → Int32)} {f35 : (Nat → Int32)} {f36 : (Nat → Int32)} {f37 : (Nat → Int32)} {f38 : (Nat → Int32)} {f39 : (Nat → Int32)} {f40 : (Nat → Int32)} {f43 : (Nat → Int32)} {o : (Sum Int32 Unit)} {H : Heap} {locs : List Loc} {ls : Array Slot}, q_X5_doAgree_L2 N v1 v2 f38 n v3 = some o → va_P (dC, dI) vwCl (wX5 cI cZ cJ cA h0 a x1 x3 x4 x5 x6 x7 x9 x10 x14 x15 x16 x19 x20 x21 x22 x23 x24 x41 x42 f0 f2 f8 f11 f12 f13 f17 f18 f25 f26 f27 f28 f29 f30 f31 f32 f33 f34 f35 f36 f37 f38 f39 f40 f43) H → va_D A (wX5 cI cZ cJ cA h0 a x1 x3 x4 x5 x6 x7 x9 x10 x14 x15 x16 x19 x20 x21 x22 x23 x24 x41 x42 f0 f2 f8 f11 f12 f13 f17 f18 f25 f26 f27 f28 f29 f30 f31 f32 f33 f34 f35 f36 f37 f38 f39 f40 f43) → va_S A s.heap H locs → lv_has ls 6 [(0, .ref h0), (1, .int v1), (2, .int v2), (3, .int v3)] →
    (∀ (t : Int32), o = Sum.inl t → ∀ (pc : Nat) (H : Heap) (locs : List Loc) (ls : Array Slot) (r : Int32), decode cX5_doAgree pc = .ok (.ireturn, 1) → r = t → narrow .boolean (.int r) = .int r → va_P (dC, dI) vwCl (wX5 cI cZ cJ cA h0 a x1 x3 x4 x5 x6 x7 x9 x10 x14 x15 x16 x19 x20 x21 x22 x23 x24 x41 x42 f0 f2 f8 f11 f12 f13 f17 f18 f25 f26 f27 f28 f29 f30 f31 f32 f33 f34 f35 f36 f37 f38 f39 f40 f43) H → va_D A (wX5 cI cZ cJ cA h0 a x1 x3 x4 x5 x6 x7 x9 x10 x14 x15 x16 x19 x20 x21 x22 x23 x24 x41 x42 f0 f2 f8 f11 f12 f13 f17 f18 f25 f26 f27 f28 f29 f30 f31 f32 f33 f34 f35 f36 f37 f38 f39 f40 f43) → va_S A s.heap H locs → W p l e R s m args below meth c H locs 0 0 Q (F0 m pc ls [.int r])) →
    (∀ (t : Unit) (H : Heap) (locs : List Loc) (ls : Array Slot), o = Sum.inr t → va_P (dC, dI) vwCl (wX5 cI cZ cJ cA h0 a x1 x3 x4 x5 x6 x7 x9 x10 x14 x15 x16 x19 x20 x21 x22 x23 x24 x41 x42 f0 f2 f8 f11 f12 f13 f17 f18 f25 f26 f27 f28 f29 f30 f31 f32 f33 f34 f35 f36 f37 f38 f39 f40 f43) H → va_D A (wX5 cI cZ cJ cA h0 a x1 x3 x4 x5 x6 x7 x9 x10 x14 x15 x16 x19 x20 x21 x22 x23 x24 x41 x42 f0 f2 f8 f11 f12 f13 f17 f18 f25 f26 f27 f28 f29 f30 f31 f32 f33 f34 f35 f36 f37 f38 f39 f40 f43) → va_S A s.heap H locs → lv_has ls 6 [(0, .ref h0), (1, .int v1), (2, .int v2)] → W p l e R s m args below meth c H locs 0 0 Q (F0 m 59 ls [])) →
    W p l e R s m args below meth c H locs 0 0 Q (F0 m 2 ls []) := by
  obtain ⟨⟨hx, hb, hml, hown, hts⟩, hRf, hRl, hA, hN, hK⟩ := C0
  intro n
  induction n with
  | zero =>
    intro v1 v2 v3 x1 x3 x4 x5 x6 x7 x9 x10 x14 x15 x16 x19 x20 x21 x22 x23 x24 x41 x42 f0 f2 f8 f11 f12 f13 f17 f18 f25 f26 f27 f28 f29 f30 f31 f32 f33 f34 f35 f36 f37 f38 f39 f40 f43 o H locs ls hf
    cases hf
  | succ n ih =>
    intro v1 v2 v3 x1 x3 x4 x5 x6 x7 x9 x10 x14 x15 x16 x19 x20 x21 x22 x23 x24 x41 x42 f0 f2 f8 f11 f12 f13 f17 f18 f25 f26 f27 f28 f29 f30 f31 f32 f33 f34 f35 f36 f37 f38 f39 f40 f43 o H locs ls hf hP hD hS hl hret hexit
    rw [q_X5_doAgree_L2] at hf
    refine lv_iload_n hx hb dX5_doAgree_2 rfl (lv_at hl 3 rfl) ?_
    refine lv_bipush (v := 8) hx hb dX5_doAgree_3 (by decide) ?_
    refine lv_icmp_ge (tgt := 59) hx hb dX5_doAgree_5 (by decide) (fun c1 => ?_) (fun c1 => ?_)
    · replace hf := z_ip hf c1
      obtain rfl := Option.some.inj hf
      exact hexit _ _ _ _ rfl hP hD hS (lv_sub hl [0, 1, 2] rfl)
    · replace hf := z_im hf c1
      refine lv_aload_n hx hb dX5_doAgree_8 rfl (lv_at hl 0 rfl) ?_
      refine va_get (D := (dC, dI)) (ci := 5) (v := .ref (a 38)) (C := RX5) (T := TX5) (N := 44) hx hb hts (fun w hw => List.mem_cons_of_mem _ (List.mem_append_right _ hw)) hown hK hP 0 rfl rfl 38 (by decide) (hts (.fieldLink RX5 81 "OldStadiumModel" "letters" "[I") (List.mem_of_getElem? (i := 1) rfl)) (fun _ h9 => h9) rfl dX5_doAgree_9 ?_
      refine lv_bipush (v := 8) hx hb dX5_doAgree_12 (by decide) ?_
      refine lv_iload_n hx hb dX5_doAgree_14 rfl (lv_at hl 1 rfl) ?_
      refine lv_imul hx hb dX5_doAgree_15 ?_
      refine lv_iload_n hx hb dX5_doAgree_16 rfl (lv_at hl 3 rfl) ?_
      refine lv_iadd hx hb dX5_doAgree_17 ?_
      have b2 := z_c1 hf
      replace hf := z_c2 hf
      refine va_iald hx hb hK hP 22 0 rfl rfl b2 dX5_doAgree_18 ?_
      obtain ⟨n3, hn3, hf1⟩ := z_ib hf
      replace hf := hf1
      clear hf1
      refine lv_topi (fun y9 ey9 => ?_)
      obtain rfl : n3 = y9 := (Option.some.inj hn3).symm.trans ey9.symm
      refine lv_istore (lv' := [(4, .int n3), (0, .ref h0), (1, .int v1), (2, .int v2), (3, .int v3)]) hx hb dX5_doAgree_19 hl (by decide) rfl (fun ls hl => ?_)
      refine lv_aload_n hx hb dX5_doAgree_21 rfl (lv_at hl 1 rfl) ?_
      refine va_get (D := (dC, dI)) (ci := 5) (v := .ref (a 38)) (C := RX5) (T := TX5) (N := 44) hx hb hts (fun w hw => List.mem_cons_of_mem _ (List.mem_append_right _ hw)) hown hK hP 0 rfl rfl 38 (by decide) (hts (.fieldLink RX5 81 "OldStadiumModel" "letters" "[I") (List.mem_of_getElem? (i := 1) rfl)) (fun _ h9 => h9) rfl dX5_doAgree_22 ?_
      refine lv_bipush (v := 8) hx hb dX5_doAgree_25 (by decide) ?_
      refine lv_iload_n hx hb dX5_doAgree_27 rfl (lv_at hl 3 rfl) ?_
      refine lv_imul hx hb dX5_doAgree_28 ?_
      refine lv_iload_n hx hb dX5_doAgree_29 rfl (lv_at hl 4 rfl) ?_
      refine lv_iadd hx hb dX5_doAgree_30 ?_
      have b4 := z_c1 hf
      replace hf := z_c2 hf
      refine va_iald hx hb hK hP 22 0 rfl rfl b4 dX5_doAgree_31 ?_
      obtain ⟨n5, hn5, hf1⟩ := z_ib hf
      replace hf := hf1
      clear hf1
      refine lv_topi (fun y9 ey9 => ?_)
      obtain rfl : n5 = y9 := (Option.some.inj hn5).symm.trans ey9.symm
      refine lv_istore (lv' := [(5, .int n5), (4, .int n3), (0, .ref h0), (1, .int v1), (2, .int v2), (3, .int v3)]) hx hb dX5_doAgree_32 hl (by decide) rfl (fun ls hl => ?_)
      refine lv_iload hx hb dX5_doAgree_34 (lv_at hl 1 rfl) ?_
      refine lv_if_le (tgt := 53) hx hb dX5_doAgree_36 (by decide) (fun c6 => ?_) (fun c6 => ?_)
      · replace hf := z_ip hf c6
        refine lv_iinc (v := (v3 + 1)) (lv' := [(3, .int (v3 + 1)), (5, .int n5), (4, .int n3), (0, .ref h0), (1, .int v1), (2, .int v2)]) hx hb dX5_doAgree_53 hl (k := 5) rfl rfl (by decide) rfl (fun ls hl => ?_)
        refine lv_goto (tgt := 2) hx hb dX5_doAgree_56 (by decide) ?_
        exact ih hf hP hD hS (lv_sub hl [3, 4, 5, 0] rfl) hret hexit
      · replace hf := z_im hf c6
        refine lv_iload hx hb dX5_doAgree_39 (lv_at hl 0 rfl) ?_
        refine lv_if_le (tgt := 53) hx hb dX5_doAgree_41 (by decide) (fun c7 => ?_) (fun c7 => ?_)
        · replace hf := z_ip hf c7
          refine lv_iinc (v := (v3 + 1)) (lv' := [(3, .int (v3 + 1)), (5, .int n5), (4, .int n3), (0, .ref h0), (1, .int v1), (2, .int v2)]) hx hb dX5_doAgree_53 hl (k := 5) rfl rfl (by decide) rfl (fun ls hl => ?_)
          refine lv_goto (tgt := 2) hx hb dX5_doAgree_56 (by decide) ?_
          exact ih hf hP hD hS (lv_sub hl [3, 4, 5, 0] rfl) hret hexit
        · replace hf := z_im hf c7
          refine lv_iload hx hb dX5_doAgree_44 (lv_at hl 1 rfl) ?_
          refine lv_iload hx hb dX5_doAgree_46 (lv_at hl 0 rfl) ?_
          refine lv_icmp_eq (tgt := 53) hx hb dX5_doAgree_48 (by decide) (fun c8 => ?_) (fun c8 => ?_)
          · replace hf := z_ip hf c8
            refine lv_iinc (v := (v3 + 1)) (lv' := [(3, .int (v3 + 1)), (5, .int n5), (4, .int n3), (0, .ref h0), (1, .int v1), (2, .int v2)]) hx hb dX5_doAgree_53 hl (k := 5) rfl rfl (by decide) rfl (fun ls hl => ?_)
            refine lv_goto (tgt := 2) hx hb dX5_doAgree_56 (by decide) ?_
            exact ih hf hP hD hS (lv_sub hl [3, 4, 5, 0] rfl) hret hexit
          · replace hf := z_im hf c8
            refine lv_iconst (v := 0) hx hb dX5_doAgree_51 (by decide) ?_
            obtain rfl := Option.some.inj hf
            exact hret _ rfl _ _ _ _ _ dX5_doAgree_52 rfl rfl hP hD hS
def q_X5_doAgree (N : Nat) (v1 : Int32) (v2 : Int32) (f38 : (Nat → Int32)) (f39 : (Nat → Int32)) : Option Int32 :=
  (Option.bind (q_X5_doAgree_L2 N v1 v2 f38 N 0) (Sum.elim (fun r3 => (some r3)) (fun s2 =>
  (if z_in v1 6 then
  (if (f39 (Int32.toNatClampNeg v1)) = (-1) then
   (some 1)
  else
   (if z_in v2 6 then
   (if (f39 (Int32.toNatClampNeg v2)) = (-1) then
    (some 1)
   else
    (if (f39 (Int32.toNatClampNeg v1)) = (f39 (Int32.toNatClampNeg v2)) then
     (some 1)
    else
     (some 0)))
   else none))
  else none))))
set_option maxHeartbeats 4000000 in
set_option maxRecDepth 100000 in
theorem b_X5_doAgree {p : Program} {l : Launch} {e : Env} {R : Room} {s : State} {m : MethodId} {args : Array Value} {below : List Frame} {meth : Method} {c : Code} {Q : State → Prop} {A : Nat → Prop} {dC : Nat → ClassId} {dI : Nat → Nat → Nat} {cI cZ cJ cA : ClassId} {h0 : Nat} {a : Nat → Nat} (N : Nat) (C0 : z_Cx p s m args c cX5_doAgree 6 wsX5_doAgree RX5 R 0 0 A dC dI (z_ty cI cZ cJ cA)) {v1 : Int32} {v2 : Int32} {x1 : Int32} {x3 : Int32} {x4 : Int32} {x5 : Int32} {x6 : Int32} {x7 : Int32} {x9 : Int32} {x10 : Int32} {x14 : Int32} {x15 : Int32} {x16 : Int32} {x19 : Int32} {x20 : Int32} {x21 : Int32} {x22 : Int32} {x23 : Int32} {x24 : Int32} {x41 : Int32} {x42 : Int32} {f0 : (Nat → Int32)} {f2 : (Nat → Int32)} {f8 : (Nat → Int32)} {f11 : (Nat → Int32)} {f12 : (Nat → Int32)} {f13 : (Nat → Int32)} {f17 : (Nat → Int32)} {f18 : (Nat → Int32)} {f25 : (Nat → Int32)} {f26 : (Nat → Int32)} {f27 : (Nat → Int32)} {f28 : (Nat → Int32)} {f29 : (Nat → Int32)} {f30 : (Nat → Int32)} {f31 : (Nat → Int32)} {f32 : (Nat → Int32)} {f33 : (Nat → Int32)} {f34 : (Nat → Int32)} {f35 : (Nat → Int32)} {f36 : (Nat → Int32)} {f37 : (Nat → Int32)} {f38 : (Nat → Int32)} {f39 : (Nat → Int32)} {f40 : (Nat → Int32)} {f43 : (Nat → Int32)} {o : Int32} {H : Heap} {locs : List Loc} {ls : Array Slot} (hf : q_X5_doAgree N v1 v2 f38 f39 = some o) (hP : va_P (dC, dI) vwCl (wX5 cI cZ cJ cA h0 a x1 x3 x4 x5 x6 x7 x9 x10 x14 x15 x16 x19 x20 x21 x22 x23 x24 x41 x42 f0 f2 f8 f11 f12 f13 f17 f18 f25 f26 f27 f28 f29 f30 f31 f32 f33 f34 f35 f36 f37 f38 f39 f40 f43) H) (hD : va_D A (wX5 cI cZ cJ cA h0 a x1 x3 x4 x5 x6 x7 x9 x10 x14 x15 x16 x19 x20 x21 x22 x23 x24 x41 x42 f0 f2 f8 f11 f12 f13 f17 f18 f25 f26 f27 f28 f29 f30 f31 f32 f33 f34 f35 f36 f37 f38 f39 f40 f43)) (hS : va_S A s.heap H locs) (hl : lv_has ls 6 [(0, .ref h0), (1, .int v1), (2, .int v2)])
    (hret : ∀ (pc : Nat) (H : Heap) (locs : List Loc) (ls : Array Slot) (r : Int32), decode cX5_doAgree pc = .ok (.ireturn, 1) → r = o → narrow .boolean (.int r) = .int r → va_P (dC, dI) vwCl (wX5 cI cZ cJ cA h0 a x1 x3 x4 x5 x6 x7 x9 x10 x14 x15 x16 x19 x20 x21 x22 x23 x24 x41 x42 f0 f2 f8 f11 f12 f13 f17 f18 f25 f26 f27 f28 f29 f30 f31 f32 f33 f34 f35 f36 f37 f38 f39 f40 f43) H → va_D A (wX5 cI cZ cJ cA h0 a x1 x3 x4 x5 x6 x7 x9 x10 x14 x15 x16 x19 x20 x21 x22 x23 x24 x41 x42 f0 f2 f8 f11 f12 f13 f17 f18 f25 f26 f27 f28 f29 f30 f31 f32 f33 f34 f35 f36 f37 f38 f39 f40 f43) → va_S A s.heap H locs → W p l e R s m args below meth c H locs 0 0 Q (F0 m pc ls [.int r])) :
    W p l e R s m args below meth c H locs 0 0 Q (F0 m 0 ls []) := by
  obtain ⟨⟨hx, hb, hml, hown, hts⟩, hRf, hRl, hA, hN, hK⟩ := C0
  unfold q_X5_doAgree at hf
  refine lv_iconst (v := 0) hx hb dX5_doAgree_0 (by decide) ?_
  refine lv_istore_n (lv' := [(3, .int 0), (0, .ref h0), (1, .int v1), (2, .int v2)]) hx hb dX5_doAgree_1 rfl hl (by decide) rfl (fun ls hl => ?_)
  obtain ⟨t1, ht1, hf1⟩ := z_ib hf
  replace hf := hf1
  clear hf1
  refine b_X5_doAgree_L2 N ⟨⟨hx, hb, hml, hown, hts⟩, hRf, hRl, hA, hN, hK⟩ N ht1 hP hD hS (lv_sub hl [1, 2, 3, 0] rfl) (fun r3 e1 pc H locs ls r0 hd hr hn hP hD hS => ?_) (fun s2 H locs ls e1 hP hD hS hl => ?_)
  · subst e1
    have hf := z_sl hf
    obtain rfl := Option.some.inj hf
    exact hret pc H locs ls r0 hd hr hn hP hD hS
  subst e1
  replace hf := z_sr hf
  refine lv_aload_n hx hb dX5_doAgree_59 rfl (lv_at hl 0 rfl) ?_
  refine va_get (D := (dC, dI)) (ci := 5) (v := .ref (a 39)) (C := RX5) (T := TX5) (N := 44) hx hb hts (fun w hw => List.mem_cons_of_mem _ (List.mem_append_right _ hw)) hown hK hP 0 rfl rfl 39 (by decide) (hts (.fieldLink RX5 84 "OldStadiumModel" "stoneTown" "[I") (List.mem_of_getElem? (i := 2) rfl)) (fun _ h9 => h9) rfl dX5_doAgree_60 ?_
  refine lv_iload_n hx hb dX5_doAgree_63 rfl (lv_at hl 1 rfl) ?_
  have b4 := z_c1 hf
  replace hf := z_c2 hf
  refine va_iald hx hb hK hP 23 0 rfl rfl b4 dX5_doAgree_64 ?_
  refine lv_iconst (v := (-1)) hx hb dX5_doAgree_65 (by decide) ?_
  refine lv_icmp_eq (tgt := 94) hx hb dX5_doAgree_66 (by decide) (fun c5 => ?_) (fun c5 => ?_)
  · replace hf := z_ip hf c5
    refine lv_iconst (v := 1) hx hb dX5_doAgree_94 (by decide) ?_
    refine lv_goto (tgt := 99) hx hb dX5_doAgree_95 (by decide) ?_
    obtain rfl := Option.some.inj hf
    exact hret _ _ _ _ _ dX5_doAgree_99 rfl rfl hP hD hS
  · replace hf := z_im hf c5
    refine lv_aload_n hx hb dX5_doAgree_69 rfl (lv_at hl 0 rfl) ?_
    refine va_get (D := (dC, dI)) (ci := 5) (v := .ref (a 39)) (C := RX5) (T := TX5) (N := 44) hx hb hts (fun w hw => List.mem_cons_of_mem _ (List.mem_append_right _ hw)) hown hK hP 0 rfl rfl 39 (by decide) (hts (.fieldLink RX5 84 "OldStadiumModel" "stoneTown" "[I") (List.mem_of_getElem? (i := 2) rfl)) (fun _ h9 => h9) rfl dX5_doAgree_70 ?_
    refine lv_iload_n hx hb dX5_doAgree_73 rfl (lv_at hl 2 rfl) ?_
    have b6 := z_c1 hf
    replace hf := z_c2 hf
    refine va_iald hx hb hK hP 23 0 rfl rfl b6 dX5_doAgree_74 ?_
    refine lv_iconst (v := (-1)) hx hb dX5_doAgree_75 (by decide) ?_
    refine lv_icmp_eq (tgt := 94) hx hb dX5_doAgree_76 (by decide) (fun c7 => ?_) (fun c7 => ?_)
    · replace hf := z_ip hf c7
      refine lv_iconst (v := 1) hx hb dX5_doAgree_94 (by decide) ?_
      refine lv_goto (tgt := 99) hx hb dX5_doAgree_95 (by decide) ?_
      obtain rfl := Option.some.inj hf
      exact hret _ _ _ _ _ dX5_doAgree_99 rfl rfl hP hD hS
    · replace hf := z_im hf c7
      refine lv_aload_n hx hb dX5_doAgree_79 rfl (lv_at hl 0 rfl) ?_
      refine va_get (D := (dC, dI)) (ci := 5) (v := .ref (a 39)) (C := RX5) (T := TX5) (N := 44) hx hb hts (fun w hw => List.mem_cons_of_mem _ (List.mem_append_right _ hw)) hown hK hP 0 rfl rfl 39 (by decide) (hts (.fieldLink RX5 84 "OldStadiumModel" "stoneTown" "[I") (List.mem_of_getElem? (i := 2) rfl)) (fun _ h9 => h9) rfl dX5_doAgree_80 ?_
      refine lv_iload_n hx hb dX5_doAgree_83 rfl (lv_at hl 1 rfl) ?_
      refine va_iald hx hb hK hP 23 0 rfl rfl b4 dX5_doAgree_84 ?_
      refine lv_aload_n hx hb dX5_doAgree_85 rfl (lv_at hl 0 rfl) ?_
      refine va_get (D := (dC, dI)) (ci := 5) (v := .ref (a 39)) (C := RX5) (T := TX5) (N := 44) hx hb hts (fun w hw => List.mem_cons_of_mem _ (List.mem_append_right _ hw)) hown hK hP 0 rfl rfl 39 (by decide) (hts (.fieldLink RX5 84 "OldStadiumModel" "stoneTown" "[I") (List.mem_of_getElem? (i := 2) rfl)) (fun _ h9 => h9) rfl dX5_doAgree_86 ?_
      refine lv_iload_n hx hb dX5_doAgree_89 rfl (lv_at hl 2 rfl) ?_
      refine va_iald hx hb hK hP 23 0 rfl rfl b6 dX5_doAgree_90 ?_
      refine lv_icmp_ne (tgt := 98) hx hb dX5_doAgree_91 (by decide) (fun c8 => ?_) (fun c8 => ?_)
      · replace hf := z_im hf c8
        refine lv_iconst (v := 0) hx hb dX5_doAgree_98 (by decide) ?_
        obtain rfl := Option.some.inj hf
        exact hret _ _ _ _ _ dX5_doAgree_99 rfl rfl hP hD hS
      · replace hf := z_ip hf c8
        refine lv_iconst (v := 1) hx hb dX5_doAgree_94 (by decide) ?_
        refine lv_goto (tgt := 99) hx hb dX5_doAgree_95 (by decide) ?_
        obtain rfl := Option.some.inj hf
        exact hret _ _ _ _ _ dX5_doAgree_99 rfl rfl hP hD hS
set_option maxHeartbeats 4000000 in
set_option maxRecDepth 100000 in
theorem k_X5_doAgree (l : Launch) (dC : Nat → ClassId) (dI : Nat → Nat → Nat) (cI cZ cJ cA : ClassId) (h0 : Nat) (a : Nat → Nat) (sz : Nat) (N : Nat) (v1 : Int32) (v2 : Int32) (x1 : Int32) (x3 : Int32) (x4 : Int32) (x5 : Int32) (x6 : Int32) (x7 : Int32) (x9 : Int32) (x10 : Int32) (x14 : Int32) (x15 : Int32) (x16 : Int32) (x19 : Int32) (x20 : Int32) (x21 : Int32) (x22 : Int32) (x23 : Int32) (x24 : Int32) (x41 : Int32) (x42 : Int32) (f0 : (Nat → Int32)) (f2 : (Nat → Int32)) (f8 : (Nat → Int32)) (f11 : (Nat → Int32)) (f12 : (Nat → Int32)) (f13 : (Nat → Int32)) (f17 : (Nat → Int32)) (f18 : (Nat → Int32)) (f25 : (Nat → Int32)) (f26 : (Nat → Int32)) (f27 : (Nat → Int32)) (f28 : (Nat → Int32)) (f29 : (Nat → Int32)) (f30 : (Nat → Int32)) (f31 : (Nat → Int32)) (f32 : (Nat → Int32)) (f33 : (Nat → Int32)) (f34 : (Nat → Int32)) (f35 : (Nat → Int32)) (f36 : (Nat → Int32)) (f37 : (Nat → Int32)) (f38 : (Nat → Int32)) (f39 : (Nat → Int32)) (f40 : (Nat → Int32)) (f43 : (Nat → Int32)) (o : Int32) (hf : q_X5_doAgree N v1 v2 f38 f39 = some o) : Met l yX5_doAgree wsX5_doAgree ({ frames := 0, cells := 0, slots := 0, locals := 0 } : Room) (z_Pre dC dI (z_ty cI cZ cJ cA) [.ref h0, .int v1, .int v2] sz (wX5 cI cZ cJ cA h0 a x1 x3 x4 x5 x6 x7 x9 x10 x14 x15 x16 x19 x20 x21 x22 x23 x24 x41 x42 f0 f2 f8 f11 f12 f13 f17 f18 f25 f26 f27 f28 f29 f30 f31 f32 f33 f34 f35 f36 f37 f38 f39 f40 f43)) (z_Pi dC dI o (wX5 cI cZ cJ cA h0 a x1 x3 x4 x5 x6 x7 x9 x10 x14 x15 x16 x19 x20 x21 x22 x23 x24 x41 x42 f0 f2 f8 f11 f12 f13 f17 f18 f25 f26 f27 f28 f29 f30 f31 f32 f33 f34 f35 f36 f37 f38 f39 f40 f43) sz (wX5 cI cZ cJ cA h0 a x1 x3 x4 x5 x6 x7 x9 x10 x14 x15 x16 x19 x20 x21 x22 x23 x24 x41 x42 f0 f2 f8 f11 f12 f13 f17 f18 f25 f26 f27 f28 f29 f30 f31 f32 f33 f34 f35 f36 f37 f38 f39 f40 f43)) 0 0 (va_A (wX5 cI cZ cJ cA h0 a x1 x3 x4 x5 x6 x7 x9 x10 x14 x15 x16 x19 x20 x21 x22 x23 x24 x41 x42 f0 f2 f8 f11 f12 f13 f17 f18 f25 f26 f27 f28 f29 f30 f31 f32 f33 f34 f35 f36 f37 f38 f39 f40 f43) sz) := by
  refine Met.ofW (cc := cX5_doAgree) (maxL := 6) (ret := (some .boolean)) (by decide) rfl ?_
  intro p e s m args below meth c s₁ B hml hv
  obtain ⟨rfl, hsz, hP, hK, hD0, hN⟩ := hv
  subst hsz
  have hl := lv_entry ([.ref h0, .int v1, .int v2]) (n := 6) (Nat.le_of_ble_eq_true rfl)
  rw [lg_entry_eq]
  refine b_X5_doAgree N ⟨⟨B.exec, B.bytes, hml, findClass_of_methodNamed B.named, atoms_spec (ws := wsX5_doAgree) B.pre⟩, Nat.le_refl _, Nat.le_refl _, fun q h => Or.inr h, hN, hK⟩ hf hP hD0.self va_S.rf hl (fun pc H locs ls r hd hr hn hP hD hS => ?_)
  subst hr
  exact W.zret B.exec B.bytes B.returns hn (fun t ht hW => ⟨⟨_, (), rfl, rfl, by rw [ht]; exact hP, hD⟩, hS.F ht⟩) hS.2.2 hd
def q_X5_agree (N : Nat) (v1 : Int32) (v2 : Int32) (x41 : Int32) (f38 : (Nat → Int32)) (f39 : (Nat → Int32)) : Option Int32 :=
  (Option.bind (q_X5_isStone N v1 x41) (fun o1 =>
  (if o1 = 0 then
   (some (-1))
  else
   (Option.bind (q_X5_isStone N v2 x41) (fun o3 =>
   (if o3 = 0 then
    (some (-1))
   else
    (Option.bind (q_X5_doAgree N v1 v2 f38 f39) (fun o5 =>
    (if o5 = 0 then
     (some 0)
    else
     (some 1))))))))))
set_option maxHeartbeats 4000000 in
set_option maxRecDepth 100000 in
theorem b_X5_agree {p : Program} {l : Launch} {e : Env} {R : Room} {s : State} {m : MethodId} {args : Array Value} {below : List Frame} {meth : Method} {c : Code} {Q : State → Prop} {A : Nat → Prop} {dC : Nat → ClassId} {dI : Nat → Nat → Nat} {cI cZ cJ cA : ClassId} {h0 : Nat} {a : Nat → Nat} (N : Nat) (C0 : z_Cx p s m args c cX5_agree 3 wsX5_agree RX5 R 2 43 A dC dI (z_ty cI cZ cJ cA)) {v1 : Int32} {v2 : Int32} {x1 : Int32} {x3 : Int32} {x4 : Int32} {x5 : Int32} {x6 : Int32} {x7 : Int32} {x9 : Int32} {x10 : Int32} {x14 : Int32} {x15 : Int32} {x16 : Int32} {x19 : Int32} {x20 : Int32} {x21 : Int32} {x22 : Int32} {x23 : Int32} {x24 : Int32} {x41 : Int32} {x42 : Int32} {f0 : (Nat → Int32)} {f2 : (Nat → Int32)} {f8 : (Nat → Int32)} {f11 : (Nat → Int32)} {f12 : (Nat → Int32)} {f13 : (Nat → Int32)} {f17 : (Nat → Int32)} {f18 : (Nat → Int32)} {f25 : (Nat → Int32)} {f26 : (Nat → Int32)} {f27 : (Nat → Int32)} {f28 : (Nat → Int32)} {f29 : (Nat → Int32)} {f30 : (Nat → Int32)} {f31 : (Nat → Int32)} {f32 : (Nat → Int32)} {f33 : (Nat → Int32)} {f34 : (Nat → Int32)} {f35 : (Nat → Int32)} {f36 : (Nat → Int32)} {f37 : (Nat → Int32)} {f38 : (Nat → Int32)} {f39 : (Nat → Int32)} {f40 : (Nat → Int32)} {f43 : (Nat → Int32)} {o : Int32} {H : Heap} {locs : List Loc} {ls : Array Slot} (hf : q_X5_agree N v1 v2 x41 f38 f39 = some o) (hP : va_P (dC, dI) vwCl (wX5 cI cZ cJ cA h0 a x1 x3 x4 x5 x6 x7 x9 x10 x14 x15 x16 x19 x20 x21 x22 x23 x24 x41 x42 f0 f2 f8 f11 f12 f13 f17 f18 f25 f26 f27 f28 f29 f30 f31 f32 f33 f34 f35 f36 f37 f38 f39 f40 f43) H) (hD : va_D A (wX5 cI cZ cJ cA h0 a x1 x3 x4 x5 x6 x7 x9 x10 x14 x15 x16 x19 x20 x21 x22 x23 x24 x41 x42 f0 f2 f8 f11 f12 f13 f17 f18 f25 f26 f27 f28 f29 f30 f31 f32 f33 f34 f35 f36 f37 f38 f39 f40 f43)) (hS : va_S A s.heap H locs) (hl : lv_has ls 3 [(0, .ref h0), (1, .int v1), (2, .int v2)])
    (hret : ∀ (pc : Nat) (H : Heap) (locs : List Loc) (ls : Array Slot) (r : Int32), decode cX5_agree pc = .ok (.ireturn, 1) → r = o → va_P (dC, dI) vwCl (wX5 cI cZ cJ cA h0 a x1 x3 x4 x5 x6 x7 x9 x10 x14 x15 x16 x19 x20 x21 x22 x23 x24 x41 x42 f0 f2 f8 f11 f12 f13 f17 f18 f25 f26 f27 f28 f29 f30 f31 f32 f33 f34 f35 f36 f37 f38 f39 f40 f43) H → va_D A (wX5 cI cZ cJ cA h0 a x1 x3 x4 x5 x6 x7 x9 x10 x14 x15 x16 x19 x20 x21 x22 x23 x24 x41 x42 f0 f2 f8 f11 f12 f13 f17 f18 f25 f26 f27 f28 f29 f30 f31 f32 f33 f34 f35 f36 f37 f38 f39 f40 f43) → va_S A s.heap H locs → W p l e R s m args below meth c H locs 0 0 Q (F0 m pc ls [.int r])) :
    W p l e R s m args below meth c H locs 0 0 Q (F0 m 0 ls []) := by
  obtain ⟨⟨hx, hb, hml, hown, hts⟩, hRf, hRl, hA, hN, hK⟩ := C0
  unfold q_X5_agree at hf
  refine lv_aload_n hx hb dX5_agree_0 rfl (lv_at hl 0 rfl) ?_
  refine lv_iload_n hx hb dX5_agree_1 rfl (lv_at hl 1 rfl) ?_
  obtain ⟨o1, ho1, hf1⟩ := z_ib hf
  replace hf := hf1
  clear hf1
  refine z_Vi (As := [.int v1]) (rest := []) (w := (wX5 cI cZ cJ cA h0 a x1 x3 x4 x5 x6 x7 x9 x10 x14 x15 x16 x19 x20 x21 x22 x23 x24 x41 x42 f0 f2 f8 f11 f12 f13 f17 f18 f25 f26 f27 f28 f29 f30 f31 f32 f33 f34 f35 f36 f37 f38 f39 f40 f43)) (w1 := (wX5 cI cZ cJ cA h0 a x1 x3 x4 x5 x6 x7 x9 x10 x14 x15 x16 x19 x20 x21 x22 x23 x24 x41 x42 f0 f2 f8 f11 f12 f13 f17 f18 f25 f26 f27 f28 f29 f30 f31 f32 f33 f34 f35 f36 f37 f38 f39 f40 f43)) ⟨hx, hb, hml, hown, hts⟩ (k_X5_isStone l dC dI cI cZ cJ cA h0 a H.size N v1 x1 x3 x4 x5 x6 x7 x9 x10 x14 x15 x16 x19 x20 x21 x22 x23 x24 x41 x42 f0 f2 f8 f11 f12 f13 f17 f18 f25 f26 f27 f28 f29 f30 f31 f32 f33 f34 f35 f36 f37 f38 f39 f40 f43 o1 ho1) (cwV 1 hts gX5_agree_X5_isStone rfl rfl rfl (by decide +kernel) ⟨Nat.le_trans (Nat.le_of_ble_eq_true rfl) hRf, Nat.le_trans (Nat.le_of_ble_eq_true rfl) hRl⟩) hK hP hD hS hA hN (ci := 5) rfl rfl rfl rfl hl.1 rfl (Nat.le_of_ble_eq_true rfl) dX5_agree_2 (fun H locs hP hD hS => ?_)
  refine lv_if_eq (tgt := 16) hx hb dX5_agree_5 (by decide) (fun c2 => ?_) (fun c2 => ?_)
  · replace hf := z_ip hf c2
    refine lv_iconst (v := (-1)) hx hb dX5_agree_16 (by decide) ?_
    obtain rfl := Option.some.inj hf
    exact hret _ _ _ _ _ dX5_agree_17 rfl hP hD hS
  · replace hf := z_im hf c2
    refine lv_aload_n hx hb dX5_agree_8 rfl (lv_at hl 0 rfl) ?_
    refine lv_iload_n hx hb dX5_agree_9 rfl (lv_at hl 2 rfl) ?_
    obtain ⟨o3, ho3, hf1⟩ := z_ib hf
    replace hf := hf1
    clear hf1
    refine z_Vi (As := [.int v2]) (rest := []) (w := (wX5 cI cZ cJ cA h0 a x1 x3 x4 x5 x6 x7 x9 x10 x14 x15 x16 x19 x20 x21 x22 x23 x24 x41 x42 f0 f2 f8 f11 f12 f13 f17 f18 f25 f26 f27 f28 f29 f30 f31 f32 f33 f34 f35 f36 f37 f38 f39 f40 f43)) (w1 := (wX5 cI cZ cJ cA h0 a x1 x3 x4 x5 x6 x7 x9 x10 x14 x15 x16 x19 x20 x21 x22 x23 x24 x41 x42 f0 f2 f8 f11 f12 f13 f17 f18 f25 f26 f27 f28 f29 f30 f31 f32 f33 f34 f35 f36 f37 f38 f39 f40 f43)) ⟨hx, hb, hml, hown, hts⟩ (k_X5_isStone l dC dI cI cZ cJ cA h0 a H.size N v2 x1 x3 x4 x5 x6 x7 x9 x10 x14 x15 x16 x19 x20 x21 x22 x23 x24 x41 x42 f0 f2 f8 f11 f12 f13 f17 f18 f25 f26 f27 f28 f29 f30 f31 f32 f33 f34 f35 f36 f37 f38 f39 f40 f43 o3 ho3) (cwV 1 hts gX5_agree_X5_isStone rfl rfl rfl (by decide +kernel) ⟨Nat.le_trans (Nat.le_of_ble_eq_true rfl) hRf, Nat.le_trans (Nat.le_of_ble_eq_true rfl) hRl⟩) hK hP hD hS hA hN (ci := 5) rfl rfl rfl rfl hl.1 rfl (Nat.le_of_ble_eq_true rfl) dX5_agree_10 (fun H locs hP hD hS => ?_)
    refine lv_if_ne (tgt := 18) hx hb dX5_agree_13 (by decide) (fun c4 => ?_) (fun c4 => ?_)
    · replace hf := z_im hf c4
      refine lv_aload_n hx hb dX5_agree_18 rfl (lv_at hl 0 rfl) ?_
      refine lv_iload_n hx hb dX5_agree_19 rfl (lv_at hl 1 rfl) ?_
      refine lv_iload_n hx hb dX5_agree_20 rfl (lv_at hl 2 rfl) ?_
      obtain ⟨o5, ho5, hf1⟩ := z_ib hf
      replace hf := hf1
      clear hf1
      refine z_Vi (As := [.int v1, .int v2]) (rest := []) (w := (wX5 cI cZ cJ cA h0 a x1 x3 x4 x5 x6 x7 x9 x10 x14 x15 x16 x19 x20 x21 x22 x23 x24 x41 x42 f0 f2 f8 f11 f12 f13 f17 f18 f25 f26 f27 f28 f29 f30 f31 f32 f33 f34 f35 f36 f37 f38 f39 f40 f43)) (w1 := (wX5 cI cZ cJ cA h0 a x1 x3 x4 x5 x6 x7 x9 x10 x14 x15 x16 x19 x20 x21 x22 x23 x24 x41 x42 f0 f2 f8 f11 f12 f13 f17 f18 f25 f26 f27 f28 f29 f30 f31 f32 f33 f34 f35 f36 f37 f38 f39 f40 f43)) ⟨hx, hb, hml, hown, hts⟩ (k_X5_doAgree l dC dI cI cZ cJ cA h0 a H.size N v1 v2 x1 x3 x4 x5 x6 x7 x9 x10 x14 x15 x16 x19 x20 x21 x22 x23 x24 x41 x42 f0 f2 f8 f11 f12 f13 f17 f18 f25 f26 f27 f28 f29 f30 f31 f32 f33 f34 f35 f36 f37 f38 f39 f40 f43 o5 ho5) (cwV 2 hts gX5_agree_X5_doAgree rfl rfl rfl (by decide +kernel) ⟨Nat.le_trans (Nat.le_of_ble_eq_true rfl) hRf, Nat.le_trans (Nat.le_of_ble_eq_true rfl) hRl⟩) hK hP hD hS hA hN (ci := 5) rfl rfl rfl rfl hl.1 rfl (Nat.le_of_ble_eq_true rfl) dX5_agree_21 (fun H locs hP hD hS => ?_)
      refine lv_if_eq (tgt := 31) hx hb dX5_agree_24 (by decide) (fun c6 => ?_) (fun c6 => ?_)
      · replace hf := z_ip hf c6
        refine lv_iconst (v := 0) hx hb dX5_agree_31 (by decide) ?_
        obtain rfl := Option.some.inj hf
        exact hret _ _ _ _ _ dX5_agree_32 rfl hP hD hS
      · replace hf := z_im hf c6
        refine lv_iconst (v := 1) hx hb dX5_agree_27 (by decide) ?_
        refine lv_goto (tgt := 32) hx hb dX5_agree_28 (by decide) ?_
        obtain rfl := Option.some.inj hf
        exact hret _ _ _ _ _ dX5_agree_32 rfl hP hD hS
    · replace hf := z_ip hf c4
      refine lv_iconst (v := (-1)) hx hb dX5_agree_16 (by decide) ?_
      obtain rfl := Option.some.inj hf
      exact hret _ _ _ _ _ dX5_agree_17 rfl hP hD hS
set_option maxHeartbeats 4000000 in
set_option maxRecDepth 100000 in
theorem k_X5_agree (l : Launch) (dC : Nat → ClassId) (dI : Nat → Nat → Nat) (cI cZ cJ cA : ClassId) (h0 : Nat) (a : Nat → Nat) (sz : Nat) (N : Nat) (v1 : Int32) (v2 : Int32) (x1 : Int32) (x3 : Int32) (x4 : Int32) (x5 : Int32) (x6 : Int32) (x7 : Int32) (x9 : Int32) (x10 : Int32) (x14 : Int32) (x15 : Int32) (x16 : Int32) (x19 : Int32) (x20 : Int32) (x21 : Int32) (x22 : Int32) (x23 : Int32) (x24 : Int32) (x41 : Int32) (x42 : Int32) (f0 : (Nat → Int32)) (f2 : (Nat → Int32)) (f8 : (Nat → Int32)) (f11 : (Nat → Int32)) (f12 : (Nat → Int32)) (f13 : (Nat → Int32)) (f17 : (Nat → Int32)) (f18 : (Nat → Int32)) (f25 : (Nat → Int32)) (f26 : (Nat → Int32)) (f27 : (Nat → Int32)) (f28 : (Nat → Int32)) (f29 : (Nat → Int32)) (f30 : (Nat → Int32)) (f31 : (Nat → Int32)) (f32 : (Nat → Int32)) (f33 : (Nat → Int32)) (f34 : (Nat → Int32)) (f35 : (Nat → Int32)) (f36 : (Nat → Int32)) (f37 : (Nat → Int32)) (f38 : (Nat → Int32)) (f39 : (Nat → Int32)) (f40 : (Nat → Int32)) (f43 : (Nat → Int32)) (o : Int32) (hf : q_X5_agree N v1 v2 x41 f38 f39 = some o) : Met l yX5_agree wsX5_agree ({ frames := 2, cells := 0, slots := 0, locals := 43 } : Room) (z_Pre dC dI (z_ty cI cZ cJ cA) [.ref h0, .int v1, .int v2] sz (wX5 cI cZ cJ cA h0 a x1 x3 x4 x5 x6 x7 x9 x10 x14 x15 x16 x19 x20 x21 x22 x23 x24 x41 x42 f0 f2 f8 f11 f12 f13 f17 f18 f25 f26 f27 f28 f29 f30 f31 f32 f33 f34 f35 f36 f37 f38 f39 f40 f43)) (z_Pi dC dI o (wX5 cI cZ cJ cA h0 a x1 x3 x4 x5 x6 x7 x9 x10 x14 x15 x16 x19 x20 x21 x22 x23 x24 x41 x42 f0 f2 f8 f11 f12 f13 f17 f18 f25 f26 f27 f28 f29 f30 f31 f32 f33 f34 f35 f36 f37 f38 f39 f40 f43) sz (wX5 cI cZ cJ cA h0 a x1 x3 x4 x5 x6 x7 x9 x10 x14 x15 x16 x19 x20 x21 x22 x23 x24 x41 x42 f0 f2 f8 f11 f12 f13 f17 f18 f25 f26 f27 f28 f29 f30 f31 f32 f33 f34 f35 f36 f37 f38 f39 f40 f43)) 0 0 (va_A (wX5 cI cZ cJ cA h0 a x1 x3 x4 x5 x6 x7 x9 x10 x14 x15 x16 x19 x20 x21 x22 x23 x24 x41 x42 f0 f2 f8 f11 f12 f13 f17 f18 f25 f26 f27 f28 f29 f30 f31 f32 f33 f34 f35 f36 f37 f38 f39 f40 f43) sz) := by
  refine Met.ofW (cc := cX5_agree) (maxL := 3) (ret := (some .int)) (by decide) rfl ?_
  intro p e s m args below meth c s₁ B hml hv
  obtain ⟨rfl, hsz, hP, hK, hD0, hN⟩ := hv
  subst hsz
  have hl := lv_entry ([.ref h0, .int v1, .int v2]) (n := 3) (Nat.le_of_ble_eq_true rfl)
  rw [lg_entry_eq]
  refine b_X5_agree N ⟨⟨B.exec, B.bytes, hml, findClass_of_methodNamed B.named, atoms_spec (ws := wsX5_agree) B.pre⟩, Nat.le_refl _, Nat.le_refl _, fun q h => Or.inr h, hN, hK⟩ hf hP hD0.self va_S.rf hl (fun pc H locs ls r hd hr hP hD hS => ?_)
  subst hr
  exact W.iret B.exec B.bytes B.returns (fun t ht hW => ⟨⟨_, (), rfl, rfl, by rw [ht]; exact hP, hD⟩, hS.F ht⟩) hS.2.2 hd
def q_X5_codes_L4 (N : Nat) (x41 : Int32) (f36 : (Nat → Int32)) (f37 : (Nat → Int32)) : Nat → Int32 → Int32 → Option Int32
  | 0, _, _ => none
  | n + 1, v1, v2 =>
    (if x41 ≤ v2 then
     (some v1)
    else
     (if z_in v2 6 then
     (Option.bind (some ((v1 * (((f37 (Int32.toNatClampNeg v2)) - (f36 (Int32.toNatClampNeg v2))) + 1)) : Int32)) (fun n3 =>
     (q_X5_codes_L4 N x41 f36 f37 n n3 (v2 + 1))))
     else none))
set_option maxHeartbeats 4000000 in
set_option maxRecDepth 100000 in
theorem b_X5_codes_L4 {p : Program} {l : Launch} {e : Env} {R : Room} {s : State} {m : MethodId} {args : Array Value} {below : List Frame} {meth : Method} {c : Code} {Q : State → Prop} {A : Nat → Prop} {dC : Nat → ClassId} {dI : Nat → Nat → Nat} {cI cZ cJ cA : ClassId} {h0 : Nat} {a : Nat → Nat} (N : Nat) (C0 : z_Cx p s m args c cX5_codes 3 wsX5_codes RX5 R 0 0 A dC dI (z_ty cI cZ cJ cA)) : ∀ (n : Nat) {v1 : Int32} {v2 : Int32} {x1 : Int32} {x3 : Int32} {x4 : Int32} {x5 : Int32} {x6 : Int32} {x7 : Int32} {x9 : Int32} {x10 : Int32} {x14 : Int32} {x15 : Int32} {x16 : Int32} {x19 : Int32} {x20 : Int32} {x21 : Int32} {x22 : Int32} {x23 : Int32} {x24 : Int32} {x41 : Int32} {x42 : Int32} {f0 : (Nat → Int32)} {f2 : (Nat → Int32)} {f8 : (Nat → Int32)} {f11 : (Nat → Int32)} {f12 : (Nat → Int32)} {f13 : (Nat → Int32)} {f17 : (Nat → Int32)} {f18 : (Nat → Int32)} {f25 : (Nat → Int32)} {f26 : (Nat → Int32)} {f27 : (Nat → Int32)} {f28 : (Nat → Int32)} {f29 : (Nat → Int32)} {f30 : (Nat → Int32)} {f31 : (Nat → Int32)} {f32 : (Nat → Int32)} {f33 : (Nat → Int32)} {f34 : (Nat → Int32)} {f35 : (Nat → Int32)} {f36 : (Nat → Int32)} {f37 : (Nat → Int32)} {f38 : (Nat → Int32)} {f39 : (Nat → Int32)} {f40 : (Nat → Int32)} {f43 : (Nat → Int32)} {o : Int32} {H : Heap} {locs : List Loc} {ls : Array Slot}, q_X5_codes_L4 N x41 f36 f37 n v1 v2 = some o → va_P (dC, dI) vwCl (wX5 cI cZ cJ cA h0 a x1 x3 x4 x5 x6 x7 x9 x10 x14 x15 x16 x19 x20 x21 x22 x23 x24 x41 x42 f0 f2 f8 f11 f12 f13 f17 f18 f25 f26 f27 f28 f29 f30 f31 f32 f33 f34 f35 f36 f37 f38 f39 f40 f43) H → va_D A (wX5 cI cZ cJ cA h0 a x1 x3 x4 x5 x6 x7 x9 x10 x14 x15 x16 x19 x20 x21 x22 x23 x24 x41 x42 f0 f2 f8 f11 f12 f13 f17 f18 f25 f26 f27 f28 f29 f30 f31 f32 f33 f34 f35 f36 f37 f38 f39 f40 f43) → va_S A s.heap H locs → lv_has ls 3 [(0, .ref h0), (1, .int v1), (2, .int v2)] →
    (∀ (H : Heap) (locs : List Loc) (ls : Array Slot), va_P (dC, dI) vwCl (wX5 cI cZ cJ cA h0 a x1 x3 x4 x5 x6 x7 x9 x10 x14 x15 x16 x19 x20 x21 x22 x23 x24 x41 x42 f0 f2 f8 f11 f12 f13 f17 f18 f25 f26 f27 f28 f29 f30 f31 f32 f33 f34 f35 f36 f37 f38 f39 f40 f43) H → va_D A (wX5 cI cZ cJ cA h0 a x1 x3 x4 x5 x6 x7 x9 x10 x14 x15 x16 x19 x20 x21 x22 x23 x24 x41 x42 f0 f2 f8 f11 f12 f13 f17 f18 f25 f26 f27 f28 f29 f30 f31 f32 f33 f34 f35 f36 f37 f38 f39 f40 f43) → va_S A s.heap H locs → lv_has ls 3 [(1, .int o)] → W p l e R s m args below meth c H locs 0 0 Q (F0 m 36 ls [])) →
    W p l e R s m args below meth c H locs 0 0 Q (F0 m 4 ls []) := by
  obtain ⟨⟨hx, hb, hml, hown, hts⟩, hRf, hRl, hA, hN, hK⟩ := C0
  intro n
  induction n with
  | zero =>
    intro v1 v2 x1 x3 x4 x5 x6 x7 x9 x10 x14 x15 x16 x19 x20 x21 x22 x23 x24 x41 x42 f0 f2 f8 f11 f12 f13 f17 f18 f25 f26 f27 f28 f29 f30 f31 f32 f33 f34 f35 f36 f37 f38 f39 f40 f43 o H locs ls hf
    cases hf
  | succ n ih =>
    intro v1 v2 x1 x3 x4 x5 x6 x7 x9 x10 x14 x15 x16 x19 x20 x21 x22 x23 x24 x41 x42 f0 f2 f8 f11 f12 f13 f17 f18 f25 f26 f27 f28 f29 f30 f31 f32 f33 f34 f35 f36 f37 f38 f39 f40 f43 o H locs ls hf hP hD hS hl hexit
    rw [q_X5_codes_L4] at hf
    refine lv_iload_n hx hb dX5_codes_4 rfl (lv_at hl 2 rfl) ?_
    refine lv_aload_n hx hb dX5_codes_5 rfl (lv_at hl 0 rfl) ?_
    refine va_get (D := (dC, dI)) (ci := 5) (v := .int x41) (C := RX5) (T := TX5) (N := 44) hx hb hts (fun w hw => List.mem_cons_of_mem _ (List.mem_append_right _ hw)) hown hK hP 0 rfl rfl 41 (by decide) (hts (.fieldLink RX5 187 "OldStadiumModel" "stones" "I") (List.mem_of_getElem? (i := 1) rfl)) (fun _ h9 => h9) rfl dX5_codes_6 ?_
    refine lv_icmp_ge (tgt := 36) hx hb dX5_codes_9 (by decide) (fun c1 => ?_) (fun c1 => ?_)
    · replace hf := z_ip hf c1
      obtain rfl := Option.some.inj hf
      exact hexit _ _ _ hP hD hS (lv_sub hl [1] rfl)
    · replace hf := z_im hf c1
      refine lv_iload_n hx hb dX5_codes_12 rfl (lv_at hl 1 rfl) ?_
      refine lv_aload_n hx hb dX5_codes_13 rfl (lv_at hl 0 rfl) ?_
      refine va_get (D := (dC, dI)) (ci := 5) (v := .ref (a 37)) (C := RX5) (T := TX5) (N := 44) hx hb hts (fun w hw => List.mem_cons_of_mem _ (List.mem_append_right _ hw)) hown hK hP 0 rfl rfl 37 (by decide) (hts (.fieldLink RX5 78 "OldStadiumModel" "to" "[I") (List.mem_of_getElem? (i := 2) rfl)) (fun _ h9 => h9) rfl dX5_codes_14 ?_
      refine lv_iload_n hx hb dX5_codes_17 rfl (lv_at hl 2 rfl) ?_
      have b2 := z_c1 hf
      replace hf := z_c2 hf
      refine va_iald hx hb hK hP 21 0 rfl rfl b2 dX5_codes_18 ?_
      refine lv_aload_n hx hb dX5_codes_19 rfl (lv_at hl 0 rfl) ?_
      refine va_get (D := (dC, dI)) (ci := 5) (v := .ref (a 36)) (C := RX5) (T := TX5) (N := 44) hx hb hts (fun w hw => List.mem_cons_of_mem _ (List.mem_append_right _ hw)) hown hK hP 0 rfl rfl 36 (by decide) (hts (.fieldLink RX5 75 "OldStadiumModel" "from" "[I") (List.mem_of_getElem? (i := 3) rfl)) (fun _ h9 => h9) rfl dX5_codes_20 ?_
      refine lv_iload_n hx hb dX5_codes_23 rfl (lv_at hl 2 rfl) ?_
      refine va_iald hx hb hK hP 20 0 rfl rfl b2 dX5_codes_24 ?_
      refine lv_isub hx hb dX5_codes_25 ?_
      refine lv_iconst (v := 1) hx hb dX5_codes_26 (by decide) ?_
      refine lv_iadd hx hb dX5_codes_27 ?_
      refine lv_imul hx hb dX5_codes_28 ?_
      obtain ⟨n3, hn3, hf1⟩ := z_ib hf
      replace hf := hf1
      clear hf1
      refine lv_topi (fun y9 ey9 => ?_)
      obtain rfl : n3 = y9 := (Option.some.inj hn3).symm.trans ey9.symm
      refine lv_istore_n (lv' := [(1, .int n3), (0, .ref h0), (2, .int v2)]) hx hb dX5_codes_29 rfl hl (by decide) rfl (fun ls hl => ?_)
      refine lv_iinc (v := (v2 + 1)) (lv' := [(2, .int (v2 + 1)), (1, .int n3), (0, .ref h0)]) hx hb dX5_codes_30 hl (k := 2) rfl rfl (by decide) rfl (fun ls hl => ?_)
      refine lv_goto (tgt := 4) hx hb dX5_codes_33 (by decide) ?_
      exact ih hf hP hD hS (lv_sub hl [2, 1, 0] rfl) hexit
def q_X5_codes (N : Nat) (x41 : Int32) (f36 : (Nat → Int32)) (f37 : (Nat → Int32)) : Option Int32 :=
  (Option.bind (q_X5_codes_L4 N x41 f36 f37 N 1 0) (fun t1 =>
  (some t1)))
set_option maxHeartbeats 4000000 in
set_option maxRecDepth 100000 in
theorem b_X5_codes {p : Program} {l : Launch} {e : Env} {R : Room} {s : State} {m : MethodId} {args : Array Value} {below : List Frame} {meth : Method} {c : Code} {Q : State → Prop} {A : Nat → Prop} {dC : Nat → ClassId} {dI : Nat → Nat → Nat} {cI cZ cJ cA : ClassId} {h0 : Nat} {a : Nat → Nat} (N : Nat) (C0 : z_Cx p s m args c cX5_codes 3 wsX5_codes RX5 R 0 0 A dC dI (z_ty cI cZ cJ cA)) {x1 : Int32} {x3 : Int32} {x4 : Int32} {x5 : Int32} {x6 : Int32} {x7 : Int32} {x9 : Int32} {x10 : Int32} {x14 : Int32} {x15 : Int32} {x16 : Int32} {x19 : Int32} {x20 : Int32} {x21 : Int32} {x22 : Int32} {x23 : Int32} {x24 : Int32} {x41 : Int32} {x42 : Int32} {f0 : (Nat → Int32)} {f2 : (Nat → Int32)} {f8 : (Nat → Int32)} {f11 : (Nat → Int32)} {f12 : (Nat → Int32)} {f13 : (Nat → Int32)} {f17 : (Nat → Int32)} {f18 : (Nat → Int32)} {f25 : (Nat → Int32)} {f26 : (Nat → Int32)} {f27 : (Nat → Int32)} {f28 : (Nat → Int32)} {f29 : (Nat → Int32)} {f30 : (Nat → Int32)} {f31 : (Nat → Int32)} {f32 : (Nat → Int32)} {f33 : (Nat → Int32)} {f34 : (Nat → Int32)} {f35 : (Nat → Int32)} {f36 : (Nat → Int32)} {f37 : (Nat → Int32)} {f38 : (Nat → Int32)} {f39 : (Nat → Int32)} {f40 : (Nat → Int32)} {f43 : (Nat → Int32)} {o : Int32} {H : Heap} {locs : List Loc} {ls : Array Slot} (hf : q_X5_codes N x41 f36 f37 = some o) (hP : va_P (dC, dI) vwCl (wX5 cI cZ cJ cA h0 a x1 x3 x4 x5 x6 x7 x9 x10 x14 x15 x16 x19 x20 x21 x22 x23 x24 x41 x42 f0 f2 f8 f11 f12 f13 f17 f18 f25 f26 f27 f28 f29 f30 f31 f32 f33 f34 f35 f36 f37 f38 f39 f40 f43) H) (hD : va_D A (wX5 cI cZ cJ cA h0 a x1 x3 x4 x5 x6 x7 x9 x10 x14 x15 x16 x19 x20 x21 x22 x23 x24 x41 x42 f0 f2 f8 f11 f12 f13 f17 f18 f25 f26 f27 f28 f29 f30 f31 f32 f33 f34 f35 f36 f37 f38 f39 f40 f43)) (hS : va_S A s.heap H locs) (hl : lv_has ls 3 [(0, .ref h0)])
    (hret : ∀ (pc : Nat) (H : Heap) (locs : List Loc) (ls : Array Slot) (r : Int32), decode cX5_codes pc = .ok (.ireturn, 1) → r = o → va_P (dC, dI) vwCl (wX5 cI cZ cJ cA h0 a x1 x3 x4 x5 x6 x7 x9 x10 x14 x15 x16 x19 x20 x21 x22 x23 x24 x41 x42 f0 f2 f8 f11 f12 f13 f17 f18 f25 f26 f27 f28 f29 f30 f31 f32 f33 f34 f35 f36 f37 f38 f39 f40 f43) H → va_D A (wX5 cI cZ cJ cA h0 a x1 x3 x4 x5 x6 x7 x9 x10 x14 x15 x16 x19 x20 x21 x22 x23 x24 x41 x42 f0 f2 f8 f11 f12 f13 f17 f18 f25 f26 f27 f28 f29 f30 f31 f32 f33 f34 f35 f36 f37 f38 f39 f40 f43) → va_S A s.heap H locs → W p l e R s m args below meth c H locs 0 0 Q (F0 m pc ls [.int r])) :
    W p l e R s m args below meth c H locs 0 0 Q (F0 m 0 ls []) := by
  obtain ⟨⟨hx, hb, hml, hown, hts⟩, hRf, hRl, hA, hN, hK⟩ := C0
  unfold q_X5_codes at hf
  refine lv_iconst (v := 1) hx hb dX5_codes_0 (by decide) ?_
  refine lv_istore_n (lv' := [(1, .int 1), (0, .ref h0)]) hx hb dX5_codes_1 rfl hl (by decide) rfl (fun ls hl => ?_)
  refine lv_iconst (v := 0) hx hb dX5_codes_2 (by decide) ?_
  refine lv_istore_n (lv' := [(2, .int 0), (1, .int 1), (0, .ref h0)]) hx hb dX5_codes_3 rfl hl (by decide) rfl (fun ls hl => ?_)
  obtain ⟨t1, ht1, hf1⟩ := z_ib hf
  replace hf := hf1
  clear hf1
  refine b_X5_codes_L4 N ⟨⟨hx, hb, hml, hown, hts⟩, hRf, hRl, hA, hN, hK⟩ N ht1 hP hD hS (lv_sub hl [2, 1, 0] rfl) (fun H locs ls hP hD hS hl => ?_)
  refine lv_iload_n hx hb dX5_codes_36 rfl (lv_at hl 0 rfl) ?_
  obtain rfl := Option.some.inj hf
  exact hret _ _ _ _ _ dX5_codes_37 rfl hP hD hS
set_option maxHeartbeats 4000000 in
set_option maxRecDepth 100000 in
theorem k_X5_codes (l : Launch) (dC : Nat → ClassId) (dI : Nat → Nat → Nat) (cI cZ cJ cA : ClassId) (h0 : Nat) (a : Nat → Nat) (sz : Nat) (N : Nat) (x1 : Int32) (x3 : Int32) (x4 : Int32) (x5 : Int32) (x6 : Int32) (x7 : Int32) (x9 : Int32) (x10 : Int32) (x14 : Int32) (x15 : Int32) (x16 : Int32) (x19 : Int32) (x20 : Int32) (x21 : Int32) (x22 : Int32) (x23 : Int32) (x24 : Int32) (x41 : Int32) (x42 : Int32) (f0 : (Nat → Int32)) (f2 : (Nat → Int32)) (f8 : (Nat → Int32)) (f11 : (Nat → Int32)) (f12 : (Nat → Int32)) (f13 : (Nat → Int32)) (f17 : (Nat → Int32)) (f18 : (Nat → Int32)) (f25 : (Nat → Int32)) (f26 : (Nat → Int32)) (f27 : (Nat → Int32)) (f28 : (Nat → Int32)) (f29 : (Nat → Int32)) (f30 : (Nat → Int32)) (f31 : (Nat → Int32)) (f32 : (Nat → Int32)) (f33 : (Nat → Int32)) (f34 : (Nat → Int32)) (f35 : (Nat → Int32)) (f36 : (Nat → Int32)) (f37 : (Nat → Int32)) (f38 : (Nat → Int32)) (f39 : (Nat → Int32)) (f40 : (Nat → Int32)) (f43 : (Nat → Int32)) (o : Int32) (hf : q_X5_codes N x41 f36 f37 = some o) : Met l yX5_codes wsX5_codes ({ frames := 0, cells := 0, slots := 0, locals := 0 } : Room) (z_Pre dC dI (z_ty cI cZ cJ cA) [.ref h0] sz (wX5 cI cZ cJ cA h0 a x1 x3 x4 x5 x6 x7 x9 x10 x14 x15 x16 x19 x20 x21 x22 x23 x24 x41 x42 f0 f2 f8 f11 f12 f13 f17 f18 f25 f26 f27 f28 f29 f30 f31 f32 f33 f34 f35 f36 f37 f38 f39 f40 f43)) (z_Pi dC dI o (wX5 cI cZ cJ cA h0 a x1 x3 x4 x5 x6 x7 x9 x10 x14 x15 x16 x19 x20 x21 x22 x23 x24 x41 x42 f0 f2 f8 f11 f12 f13 f17 f18 f25 f26 f27 f28 f29 f30 f31 f32 f33 f34 f35 f36 f37 f38 f39 f40 f43) sz (wX5 cI cZ cJ cA h0 a x1 x3 x4 x5 x6 x7 x9 x10 x14 x15 x16 x19 x20 x21 x22 x23 x24 x41 x42 f0 f2 f8 f11 f12 f13 f17 f18 f25 f26 f27 f28 f29 f30 f31 f32 f33 f34 f35 f36 f37 f38 f39 f40 f43)) 0 0 (va_A (wX5 cI cZ cJ cA h0 a x1 x3 x4 x5 x6 x7 x9 x10 x14 x15 x16 x19 x20 x21 x22 x23 x24 x41 x42 f0 f2 f8 f11 f12 f13 f17 f18 f25 f26 f27 f28 f29 f30 f31 f32 f33 f34 f35 f36 f37 f38 f39 f40 f43) sz) := by
  refine Met.ofW (cc := cX5_codes) (maxL := 3) (ret := (some .int)) (by decide) rfl ?_
  intro p e s m args below meth c s₁ B hml hv
  obtain ⟨rfl, hsz, hP, hK, hD0, hN⟩ := hv
  subst hsz
  have hl := lv_entry ([.ref h0]) (n := 3) (Nat.le_of_ble_eq_true rfl)
  rw [lg_entry_eq]
  refine b_X5_codes N ⟨⟨B.exec, B.bytes, hml, findClass_of_methodNamed B.named, atoms_spec (ws := wsX5_codes) B.pre⟩, Nat.le_refl _, Nat.le_refl _, fun q h => Or.inr h, hN, hK⟩ hf hP hD0.self va_S.rf hl (fun pc H locs ls r hd hr hP hD hS => ?_)
  subst hr
  exact W.iret B.exec B.bytes B.returns (fun t ht hW => ⟨⟨_, (), rfl, rfl, by rw [ht]; exact hP, hD⟩, hS.F ht⟩) hS.2.2 hd
def q_X5_yearOf_L5 (N : Nat) (v2 : Int32) (f36 : (Nat → Int32)) (f37 : (Nat → Int32)) : Nat → Int32 → Int32 → Option Int32
  | 0, _, _ => none
  | n + 1, v3, v4 =>
    (if v2 ≤ v4 then
     (some v3)
    else
     (if z_in v4 6 then
     (if (((f37 (Int32.toNatClampNeg v4)) - (f36 (Int32.toNatClampNeg v4))) + 1) = 0 then none else
     (Option.bind (some ((v3 / (((f37 (Int32.toNatClampNeg v4)) - (f36 (Int32.toNatClampNeg v4))) + 1)) : Int32)) (fun n4 =>
     (q_X5_yearOf_L5 N v2 f36 f37 n n4 (v4 + 1)))))
     else none))
set_option maxHeartbeats 4000000 in
set_option maxRecDepth 100000 in
theorem b_X5_yearOf_L5 {p : Program} {l : Launch} {e : Env} {R : Room} {s : State} {m : MethodId} {args : Array Value} {below : List Frame} {meth : Method} {c : Code} {Q : State → Prop} {A : Nat → Prop} {dC : Nat → ClassId} {dI : Nat → Nat → Nat} {cI cZ cJ cA : ClassId} {h0 : Nat} {a : Nat → Nat} (N : Nat) (C0 : z_Cx p s m args c cX5_yearOf 5 wsX5_yearOf RX5 R 0 0 A dC dI (z_ty cI cZ cJ cA)) : ∀ (n : Nat) {v2 : Int32} {v3 : Int32} {v4 : Int32} {x1 : Int32} {x3 : Int32} {x4 : Int32} {x5 : Int32} {x6 : Int32} {x7 : Int32} {x9 : Int32} {x10 : Int32} {x14 : Int32} {x15 : Int32} {x16 : Int32} {x19 : Int32} {x20 : Int32} {x21 : Int32} {x22 : Int32} {x23 : Int32} {x24 : Int32} {x41 : Int32} {x42 : Int32} {f0 : (Nat → Int32)} {f2 : (Nat → Int32)} {f8 : (Nat → Int32)} {f11 : (Nat → Int32)} {f12 : (Nat → Int32)} {f13 : (Nat → Int32)} {f17 : (Nat → Int32)} {f18 : (Nat → Int32)} {f25 : (Nat → Int32)} {f26 : (Nat → Int32)} {f27 : (Nat → Int32)} {f28 : (Nat → Int32)} {f29 : (Nat → Int32)} {f30 : (Nat → Int32)} {f31 : (Nat → Int32)} {f32 : (Nat → Int32)} {f33 : (Nat → Int32)} {f34 : (Nat → Int32)} {f35 : (Nat → Int32)} {f36 : (Nat → Int32)} {f37 : (Nat → Int32)} {f38 : (Nat → Int32)} {f39 : (Nat → Int32)} {f40 : (Nat → Int32)} {f43 : (Nat → Int32)} {o : Int32} {H : Heap} {locs : List Loc} {ls : Array Slot}, q_X5_yearOf_L5 N v2 f36 f37 n v3 v4 = some o → va_P (dC, dI) vwCl (wX5 cI cZ cJ cA h0 a x1 x3 x4 x5 x6 x7 x9 x10 x14 x15 x16 x19 x20 x21 x22 x23 x24 x41 x42 f0 f2 f8 f11 f12 f13 f17 f18 f25 f26 f27 f28 f29 f30 f31 f32 f33 f34 f35 f36 f37 f38 f39 f40 f43) H → va_D A (wX5 cI cZ cJ cA h0 a x1 x3 x4 x5 x6 x7 x9 x10 x14 x15 x16 x19 x20 x21 x22 x23 x24 x41 x42 f0 f2 f8 f11 f12 f13 f17 f18 f25 f26 f27 f28 f29 f30 f31 f32 f33 f34 f35 f36 f37 f38 f39 f40 f43) → va_S A s.heap H locs → lv_has ls 5 [(0, .ref h0), (2, .int v2), (3, .int v3), (4, .int v4)] →
    (∀ (H : Heap) (locs : List Loc) (ls : Array Slot), va_P (dC, dI) vwCl (wX5 cI cZ cJ cA h0 a x1 x3 x4 x5 x6 x7 x9 x10 x14 x15 x16 x19 x20 x21 x22 x23 x24 x41 x42 f0 f2 f8 f11 f12 f13 f17 f18 f25 f26 f27 f28 f29 f30 f31 f32 f33 f34 f35 f36 f37 f38 f39 f40 f43) H → va_D A (wX5 cI cZ cJ cA h0 a x1 x3 x4 x5 x6 x7 x9 x10 x14 x15 x16 x19 x20 x21 x22 x23 x24 x41 x42 f0 f2 f8 f11 f12 f13 f17 f18 f25 f26 f27 f28 f29 f30 f31 f32 f33 f34 f35 f36 f37 f38 f39 f40 f43) → va_S A s.heap H locs → lv_has ls 5 [(0, .ref h0), (2, .int v2), (3, .int o)] → W p l e R s m args below meth c H locs 0 0 Q (F0 m 37 ls [])) →
    W p l e R s m args below meth c H locs 0 0 Q (F0 m 5 ls []) := by
  obtain ⟨⟨hx, hb, hml, hown, hts⟩, hRf, hRl, hA, hN, hK⟩ := C0
  intro n
  induction n with
  | zero =>
    intro v2 v3 v4 x1 x3 x4 x5 x6 x7 x9 x10 x14 x15 x16 x19 x20 x21 x22 x23 x24 x41 x42 f0 f2 f8 f11 f12 f13 f17 f18 f25 f26 f27 f28 f29 f30 f31 f32 f33 f34 f35 f36 f37 f38 f39 f40 f43 o H locs ls hf
    cases hf
  | succ n ih =>
    intro v2 v3 v4 x1 x3 x4 x5 x6 x7 x9 x10 x14 x15 x16 x19 x20 x21 x22 x23 x24 x41 x42 f0 f2 f8 f11 f12 f13 f17 f18 f25 f26 f27 f28 f29 f30 f31 f32 f33 f34 f35 f36 f37 f38 f39 f40 f43 o H locs ls hf hP hD hS hl hexit
    rw [q_X5_yearOf_L5] at hf
    refine lv_iload hx hb dX5_yearOf_5 (lv_at hl 3 rfl) ?_
    refine lv_iload_n hx hb dX5_yearOf_7 rfl (lv_at hl 1 rfl) ?_
    refine lv_icmp_ge (tgt := 37) hx hb dX5_yearOf_8 (by decide) (fun c1 => ?_) (fun c1 => ?_)
    · replace hf := z_ip hf c1
      obtain rfl := Option.some.inj hf
      exact hexit _ _ _ hP hD hS (lv_sub hl [0, 1, 2] rfl)
    · replace hf := z_im hf c1
      refine lv_iload_n hx hb dX5_yearOf_11 rfl (lv_at hl 2 rfl) ?_
      refine lv_aload_n hx hb dX5_yearOf_12 rfl (lv_at hl 0 rfl) ?_
      refine va_get (D := (dC, dI)) (ci := 5) (v := .ref (a 37)) (C := RX5) (T := TX5) (N := 44) hx hb hts (fun w hw => List.mem_cons_of_mem _ (List.mem_append_right _ hw)) hown hK hP 0 rfl rfl 37 (by decide) (hts (.fieldLink RX5 78 "OldStadiumModel" "to" "[I") (List.mem_of_getElem? (i := 1) rfl)) (fun _ h9 => h9) rfl dX5_yearOf_13 ?_
      refine lv_iload hx hb dX5_yearOf_16 (lv_at hl 3 rfl) ?_
      have b2 := z_c1 hf
      replace hf := z_c2 hf
      refine va_iald hx hb hK hP 21 0 rfl rfl b2 dX5_yearOf_18 ?_
      refine lv_aload_n hx hb dX5_yearOf_19 rfl (lv_at hl 0 rfl) ?_
      refine va_get (D := (dC, dI)) (ci := 5) (v := .ref (a 36)) (C := RX5) (T := TX5) (N := 44) hx hb hts (fun w hw => List.mem_cons_of_mem _ (List.mem_append_right _ hw)) hown hK hP 0 rfl rfl 36 (by decide) (hts (.fieldLink RX5 75 "OldStadiumModel" "from" "[I") (List.mem_of_getElem? (i := 2) rfl)) (fun _ h9 => h9) rfl dX5_yearOf_20 ?_
      refine lv_iload hx hb dX5_yearOf_23 (lv_at hl 3 rfl) ?_
      refine va_iald hx hb hK hP 20 0 rfl rfl b2 dX5_yearOf_25 ?_
      refine lv_isub hx hb dX5_yearOf_26 ?_
      refine lv_iconst (v := 1) hx hb dX5_yearOf_27 (by decide) ?_
      refine lv_iadd hx hb dX5_yearOf_28 ?_
      have d3 := z_n1 hf
      replace hf := z_n2 hf
      refine lv_idiv hx hb dX5_yearOf_29 d3 ?_
      obtain ⟨n4, hn4, hf1⟩ := z_ib hf
      replace hf := hf1
      clear hf1
      refine lv_topi (fun y9 ey9 => ?_)
      obtain rfl : n4 = y9 := (Option.some.inj hn4).symm.trans ey9.symm
      refine lv_istore_n (lv' := [(3, .int n4), (0, .ref h0), (2, .int v2), (4, .int v4)]) hx hb dX5_yearOf_30 rfl hl (by decide) rfl (fun ls hl => ?_)
      refine lv_iinc (v := (v4 + 1)) (lv' := [(4, .int (v4 + 1)), (3, .int n4), (0, .ref h0), (2, .int v2)]) hx hb dX5_yearOf_31 hl (k := 3) rfl rfl (by decide) rfl (fun ls hl => ?_)
      refine lv_goto (tgt := 5) hx hb dX5_yearOf_34 (by decide) ?_
      exact ih hf hP hD hS (lv_sub hl [2, 3, 1, 0] rfl) hexit
def q_X5_yearOf (N : Nat) (v1 : Int32) (v2 : Int32) (f36 : (Nat → Int32)) (f37 : (Nat → Int32)) : Option Int32 :=
  (Option.bind (q_X5_yearOf_L5 N v2 f36 f37 N v1 0) (fun t1 =>
  (if z_in v2 6 then
  (if (((f37 (Int32.toNatClampNeg v2)) - (f36 (Int32.toNatClampNeg v2))) + 1) = 0 then none else
  (some ((f36 (Int32.toNatClampNeg v2)) + (z_rem t1 (((f37 (Int32.toNatClampNeg v2)) - (f36 (Int32.toNatClampNeg v2))) + 1)))))
  else none)))
set_option maxHeartbeats 4000000 in
set_option maxRecDepth 100000 in
theorem b_X5_yearOf {p : Program} {l : Launch} {e : Env} {R : Room} {s : State} {m : MethodId} {args : Array Value} {below : List Frame} {meth : Method} {c : Code} {Q : State → Prop} {A : Nat → Prop} {dC : Nat → ClassId} {dI : Nat → Nat → Nat} {cI cZ cJ cA : ClassId} {h0 : Nat} {a : Nat → Nat} (N : Nat) (C0 : z_Cx p s m args c cX5_yearOf 5 wsX5_yearOf RX5 R 0 0 A dC dI (z_ty cI cZ cJ cA)) {v1 : Int32} {v2 : Int32} {x1 : Int32} {x3 : Int32} {x4 : Int32} {x5 : Int32} {x6 : Int32} {x7 : Int32} {x9 : Int32} {x10 : Int32} {x14 : Int32} {x15 : Int32} {x16 : Int32} {x19 : Int32} {x20 : Int32} {x21 : Int32} {x22 : Int32} {x23 : Int32} {x24 : Int32} {x41 : Int32} {x42 : Int32} {f0 : (Nat → Int32)} {f2 : (Nat → Int32)} {f8 : (Nat → Int32)} {f11 : (Nat → Int32)} {f12 : (Nat → Int32)} {f13 : (Nat → Int32)} {f17 : (Nat → Int32)} {f18 : (Nat → Int32)} {f25 : (Nat → Int32)} {f26 : (Nat → Int32)} {f27 : (Nat → Int32)} {f28 : (Nat → Int32)} {f29 : (Nat → Int32)} {f30 : (Nat → Int32)} {f31 : (Nat → Int32)} {f32 : (Nat → Int32)} {f33 : (Nat → Int32)} {f34 : (Nat → Int32)} {f35 : (Nat → Int32)} {f36 : (Nat → Int32)} {f37 : (Nat → Int32)} {f38 : (Nat → Int32)} {f39 : (Nat → Int32)} {f40 : (Nat → Int32)} {f43 : (Nat → Int32)} {o : Int32} {H : Heap} {locs : List Loc} {ls : Array Slot} (hf : q_X5_yearOf N v1 v2 f36 f37 = some o) (hP : va_P (dC, dI) vwCl (wX5 cI cZ cJ cA h0 a x1 x3 x4 x5 x6 x7 x9 x10 x14 x15 x16 x19 x20 x21 x22 x23 x24 x41 x42 f0 f2 f8 f11 f12 f13 f17 f18 f25 f26 f27 f28 f29 f30 f31 f32 f33 f34 f35 f36 f37 f38 f39 f40 f43) H) (hD : va_D A (wX5 cI cZ cJ cA h0 a x1 x3 x4 x5 x6 x7 x9 x10 x14 x15 x16 x19 x20 x21 x22 x23 x24 x41 x42 f0 f2 f8 f11 f12 f13 f17 f18 f25 f26 f27 f28 f29 f30 f31 f32 f33 f34 f35 f36 f37 f38 f39 f40 f43)) (hS : va_S A s.heap H locs) (hl : lv_has ls 5 [(0, .ref h0), (1, .int v1), (2, .int v2)])
    (hret : ∀ (pc : Nat) (H : Heap) (locs : List Loc) (ls : Array Slot) (r : Int32), decode cX5_yearOf pc = .ok (.ireturn, 1) → r = o → va_P (dC, dI) vwCl (wX5 cI cZ cJ cA h0 a x1 x3 x4 x5 x6 x7 x9 x10 x14 x15 x16 x19 x20 x21 x22 x23 x24 x41 x42 f0 f2 f8 f11 f12 f13 f17 f18 f25 f26 f27 f28 f29 f30 f31 f32 f33 f34 f35 f36 f37 f38 f39 f40 f43) H → va_D A (wX5 cI cZ cJ cA h0 a x1 x3 x4 x5 x6 x7 x9 x10 x14 x15 x16 x19 x20 x21 x22 x23 x24 x41 x42 f0 f2 f8 f11 f12 f13 f17 f18 f25 f26 f27 f28 f29 f30 f31 f32 f33 f34 f35 f36 f37 f38 f39 f40 f43) → va_S A s.heap H locs → W p l e R s m args below meth c H locs 0 0 Q (F0 m pc ls [.int r])) :
    W p l e R s m args below meth c H locs 0 0 Q (F0 m 0 ls []) := by
  obtain ⟨⟨hx, hb, hml, hown, hts⟩, hRf, hRl, hA, hN, hK⟩ := C0
  unfold q_X5_yearOf at hf
  refine lv_iload_n hx hb dX5_yearOf_0 rfl (lv_at hl 1 rfl) ?_
  refine lv_istore_n (lv' := [(3, .int v1), (0, .ref h0), (1, .int v1), (2, .int v2)]) hx hb dX5_yearOf_1 rfl hl (by decide) rfl (fun ls hl => ?_)
  refine lv_iconst (v := 0) hx hb dX5_yearOf_2 (by decide) ?_
  refine lv_istore (lv' := [(4, .int 0), (3, .int v1), (0, .ref h0), (1, .int v1), (2, .int v2)]) hx hb dX5_yearOf_3 hl (by decide) rfl (fun ls hl => ?_)
  obtain ⟨t1, ht1, hf1⟩ := z_ib hf
  replace hf := hf1
  clear hf1
  refine b_X5_yearOf_L5 N ⟨⟨hx, hb, hml, hown, hts⟩, hRf, hRl, hA, hN, hK⟩ N ht1 hP hD hS (lv_sub hl [2, 4, 1, 0] rfl) (fun H locs ls hP hD hS hl => ?_)
  refine lv_aload_n hx hb dX5_yearOf_37 rfl (lv_at hl 0 rfl) ?_
  refine va_get (D := (dC, dI)) (ci := 5) (v := .ref (a 36)) (C := RX5) (T := TX5) (N := 44) hx hb hts (fun w hw => List.mem_cons_of_mem _ (List.mem_append_right _ hw)) hown hK hP 0 rfl rfl 36 (by decide) (hts (.fieldLink RX5 75 "OldStadiumModel" "from" "[I") (List.mem_of_getElem? (i := 2) rfl)) (fun _ h9 => h9) rfl dX5_yearOf_38 ?_
  refine lv_iload_n hx hb dX5_yearOf_41 rfl (lv_at hl 1 rfl) ?_
  have b2 := z_c1 hf
  replace hf := z_c2 hf
  refine va_iald hx hb hK hP 20 0 rfl rfl b2 dX5_yearOf_42 ?_
  refine lv_iload_n hx hb dX5_yearOf_43 rfl (lv_at hl 2 rfl) ?_
  refine lv_aload_n hx hb dX5_yearOf_44 rfl (lv_at hl 0 rfl) ?_
  refine va_get (D := (dC, dI)) (ci := 5) (v := .ref (a 37)) (C := RX5) (T := TX5) (N := 44) hx hb hts (fun w hw => List.mem_cons_of_mem _ (List.mem_append_right _ hw)) hown hK hP 0 rfl rfl 37 (by decide) (hts (.fieldLink RX5 78 "OldStadiumModel" "to" "[I") (List.mem_of_getElem? (i := 1) rfl)) (fun _ h9 => h9) rfl dX5_yearOf_45 ?_
  refine lv_iload_n hx hb dX5_yearOf_48 rfl (lv_at hl 1 rfl) ?_
  refine va_iald hx hb hK hP 21 0 rfl rfl b2 dX5_yearOf_49 ?_
  refine lv_aload_n hx hb dX5_yearOf_50 rfl (lv_at hl 0 rfl) ?_
  refine va_get (D := (dC, dI)) (ci := 5) (v := .ref (a 36)) (C := RX5) (T := TX5) (N := 44) hx hb hts (fun w hw => List.mem_cons_of_mem _ (List.mem_append_right _ hw)) hown hK hP 0 rfl rfl 36 (by decide) (hts (.fieldLink RX5 75 "OldStadiumModel" "from" "[I") (List.mem_of_getElem? (i := 2) rfl)) (fun _ h9 => h9) rfl dX5_yearOf_51 ?_
  refine lv_iload_n hx hb dX5_yearOf_54 rfl (lv_at hl 1 rfl) ?_
  refine va_iald hx hb hK hP 20 0 rfl rfl b2 dX5_yearOf_55 ?_
  refine lv_isub hx hb dX5_yearOf_56 ?_
  refine lv_iconst (v := 1) hx hb dX5_yearOf_57 (by decide) ?_
  refine lv_iadd hx hb dX5_yearOf_58 ?_
  have d3 := z_n1 hf
  replace hf := z_n2 hf
  refine z_irem hx hb dX5_yearOf_59 d3 ?_
  refine lv_iadd hx hb dX5_yearOf_60 ?_
  obtain rfl := Option.some.inj hf
  exact hret _ _ _ _ _ dX5_yearOf_61 rfl hP hD hS
set_option maxHeartbeats 4000000 in
set_option maxRecDepth 100000 in
theorem k_X5_yearOf (l : Launch) (dC : Nat → ClassId) (dI : Nat → Nat → Nat) (cI cZ cJ cA : ClassId) (h0 : Nat) (a : Nat → Nat) (sz : Nat) (N : Nat) (v1 : Int32) (v2 : Int32) (x1 : Int32) (x3 : Int32) (x4 : Int32) (x5 : Int32) (x6 : Int32) (x7 : Int32) (x9 : Int32) (x10 : Int32) (x14 : Int32) (x15 : Int32) (x16 : Int32) (x19 : Int32) (x20 : Int32) (x21 : Int32) (x22 : Int32) (x23 : Int32) (x24 : Int32) (x41 : Int32) (x42 : Int32) (f0 : (Nat → Int32)) (f2 : (Nat → Int32)) (f8 : (Nat → Int32)) (f11 : (Nat → Int32)) (f12 : (Nat → Int32)) (f13 : (Nat → Int32)) (f17 : (Nat → Int32)) (f18 : (Nat → Int32)) (f25 : (Nat → Int32)) (f26 : (Nat → Int32)) (f27 : (Nat → Int32)) (f28 : (Nat → Int32)) (f29 : (Nat → Int32)) (f30 : (Nat → Int32)) (f31 : (Nat → Int32)) (f32 : (Nat → Int32)) (f33 : (Nat → Int32)) (f34 : (Nat → Int32)) (f35 : (Nat → Int32)) (f36 : (Nat → Int32)) (f37 : (Nat → Int32)) (f38 : (Nat → Int32)) (f39 : (Nat → Int32)) (f40 : (Nat → Int32)) (f43 : (Nat → Int32)) (o : Int32) (hf : q_X5_yearOf N v1 v2 f36 f37 = some o) : Met l yX5_yearOf wsX5_yearOf ({ frames := 0, cells := 0, slots := 0, locals := 0 } : Room) (z_Pre dC dI (z_ty cI cZ cJ cA) [.ref h0, .int v1, .int v2] sz (wX5 cI cZ cJ cA h0 a x1 x3 x4 x5 x6 x7 x9 x10 x14 x15 x16 x19 x20 x21 x22 x23 x24 x41 x42 f0 f2 f8 f11 f12 f13 f17 f18 f25 f26 f27 f28 f29 f30 f31 f32 f33 f34 f35 f36 f37 f38 f39 f40 f43)) (z_Pi dC dI o (wX5 cI cZ cJ cA h0 a x1 x3 x4 x5 x6 x7 x9 x10 x14 x15 x16 x19 x20 x21 x22 x23 x24 x41 x42 f0 f2 f8 f11 f12 f13 f17 f18 f25 f26 f27 f28 f29 f30 f31 f32 f33 f34 f35 f36 f37 f38 f39 f40 f43) sz (wX5 cI cZ cJ cA h0 a x1 x3 x4 x5 x6 x7 x9 x10 x14 x15 x16 x19 x20 x21 x22 x23 x24 x41 x42 f0 f2 f8 f11 f12 f13 f17 f18 f25 f26 f27 f28 f29 f30 f31 f32 f33 f34 f35 f36 f37 f38 f39 f40 f43)) 0 0 (va_A (wX5 cI cZ cJ cA h0 a x1 x3 x4 x5 x6 x7 x9 x10 x14 x15 x16 x19 x20 x21 x22 x23 x24 x41 x42 f0 f2 f8 f11 f12 f13 f17 f18 f25 f26 f27 f28 f29 f30 f31 f32 f33 f34 f35 f36 f37 f38 f39 f40 f43) sz) := by
  refine Met.ofW (cc := cX5_yearOf) (maxL := 5) (ret := (some .int)) (by decide) rfl ?_
  intro p e s m args below meth c s₁ B hml hv
  obtain ⟨rfl, hsz, hP, hK, hD0, hN⟩ := hv
  subst hsz
  have hl := lv_entry ([.ref h0, .int v1, .int v2]) (n := 5) (Nat.le_of_ble_eq_true rfl)
  rw [lg_entry_eq]
  refine b_X5_yearOf N ⟨⟨B.exec, B.bytes, hml, findClass_of_methodNamed B.named, atoms_spec (ws := wsX5_yearOf) B.pre⟩, Nat.le_refl _, Nat.le_refl _, fun q h => Or.inr h, hN, hK⟩ hf hP hD0.self va_S.rf hl (fun pc H locs ls r hd hr hP hD hS => ?_)
  subst hr
  exact W.iret B.exec B.bytes B.returns (fun t ht hW => ⟨⟨_, (), rfl, rfl, by rw [ht]; exact hP, hD⟩, hS.F ht⟩) hS.2.2 hd
def q_X5_isRoll_L2 (N : Nat) (v1 : Int32) (v2 : Int32) (x41 : Int32) (f36 : (Nat → Int32)) (f37 : (Nat → Int32)) : Nat → Int32 → Option (Sum Int32 Unit)
  | 0, _ => none
  | n + 1, v3 =>
    (if x41 ≤ v3 then
     (some (Sum.inr ()))
    else
     (if ((v2 >>> (v3 &&& 31)) &&& 1) = 1 then
      (Option.bind (q_X5_yearOf N v1 v3 f36 f37) (fun o3 =>
      (if z_in v3 6 then
      (if o3 = (f36 (Int32.toNatClampNeg v3)) then
       (q_X5_isRoll_L2 N v1 v2 x41 f36 f37 n (v3 + 1))
      else
       (some (Sum.inl 0)))
      else none)))
     else
      (q_X5_isRoll_L2 N v1 v2 x41 f36 f37 n (v3 + 1))))
set_option maxHeartbeats 4000000 in
set_option maxRecDepth 100000 in
theorem b_X5_isRoll_L2 {p : Program} {l : Launch} {e : Env} {R : Room} {s : State} {m : MethodId} {args : Array Value} {below : List Frame} {meth : Method} {c : Code} {Q : State → Prop} {A : Nat → Prop} {dC : Nat → ClassId} {dI : Nat → Nat → Nat} {cI cZ cJ cA : ClassId} {h0 : Nat} {a : Nat → Nat} (N : Nat) (C0 : z_Cx p s m args c cX5_isRoll 8 wsX5_isRoll RX5 R 1 25 A dC dI (z_ty cI cZ cJ cA)) : ∀ (n : Nat) {v1 : Int32} {v2 : Int32} {v3 : Int32} {x1 : Int32} {x3 : Int32} {x4 : Int32} {x5 : Int32} {x6 : Int32} {x7 : Int32} {x9 : Int32} {x10 : Int32} {x14 : Int32} {x15 : Int32} {x16 : Int32} {x19 : Int32} {x20 : Int32} {x21 : Int32} {x22 : Int32} {x23 : Int32} {x24 : Int32} {x41 : Int32} {x42 : Int32} {f0 : (Nat → Int32)} {f2 : (Nat → Int32)} {f8 : (Nat → Int32)} {f11 : (Nat → Int32)} {f12 : (Nat → Int32)} {f13 : (Nat → Int32)} {f17 : (Nat → Int32)} {f18 : (Nat → Int32)} {f25 : (Nat → Int32)} {f26 : (Nat → Int32)} {f27 : (Nat → Int32)} {f28 : (Nat → Int32)} {f29 : (Nat → Int32)} {f30 : (Nat → Int32)} {f31 : (Nat → Int32)} {f32 : (Nat → Int32)} {f33 : (Nat → Int32)} {f34 : (Nat → Int32)} {f35 : (Nat → Int32)} {f36 : (Nat → Int32)} {f37 : (Nat → Int32)} {f38 : (Nat → Int32)} {f39 : (Nat → Int32)} {f40 : (Nat → Int32)} {f43 : (Nat → Int32)} {o : (Sum Int32 Unit)} {H : Heap} {locs : List Loc} {ls : Array Slot}, q_X5_isRoll_L2 N v1 v2 x41 f36 f37 n v3 = some o → va_P (dC, dI) vwCl (wX5 cI cZ cJ cA h0 a x1 x3 x4 x5 x6 x7 x9 x10 x14 x15 x16 x19 x20 x21 x22 x23 x24 x41 x42 f0 f2 f8 f11 f12 f13 f17 f18 f25 f26 f27 f28 f29 f30 f31 f32 f33 f34 f35 f36 f37 f38 f39 f40 f43) H → va_D A (wX5 cI cZ cJ cA h0 a x1 x3 x4 x5 x6 x7 x9 x10 x14 x15 x16 x19 x20 x21 x22 x23 x24 x41 x42 f0 f2 f8 f11 f12 f13 f17 f18 f25 f26 f27 f28 f29 f30 f31 f32 f33 f34 f35 f36 f37 f38 f39 f40 f43) → va_S A s.heap H locs → lv_has ls 8 [(0, .ref h0), (1, .int v1), (2, .int v2), (3, .int v3)] →
    (∀ (t : Int32), o = Sum.inl t → ∀ (pc : Nat) (H : Heap) (locs : List Loc) (ls : Array Slot) (r : Int32), decode cX5_isRoll pc = .ok (.ireturn, 1) → r = t → narrow .boolean (.int r) = .int r → va_P (dC, dI) vwCl (wX5 cI cZ cJ cA h0 a x1 x3 x4 x5 x6 x7 x9 x10 x14 x15 x16 x19 x20 x21 x22 x23 x24 x41 x42 f0 f2 f8 f11 f12 f13 f17 f18 f25 f26 f27 f28 f29 f30 f31 f32 f33 f34 f35 f36 f37 f38 f39 f40 f43) H → va_D A (wX5 cI cZ cJ cA h0 a x1 x3 x4 x5 x6 x7 x9 x10 x14 x15 x16 x19 x20 x21 x22 x23 x24 x41 x42 f0 f2 f8 f11 f12 f13 f17 f18 f25 f26 f27 f28 f29 f30 f31 f32 f33 f34 f35 f36 f37 f38 f39 f40 f43) → va_S A s.heap H locs → W p l e R s m args below meth c H locs 0 0 Q (F0 m pc ls [.int r])) →
    (∀ (t : Unit) (H : Heap) (locs : List Loc) (ls : Array Slot), o = Sum.inr t → va_P (dC, dI) vwCl (wX5 cI cZ cJ cA h0 a x1 x3 x4 x5 x6 x7 x9 x10 x14 x15 x16 x19 x20 x21 x22 x23 x24 x41 x42 f0 f2 f8 f11 f12 f13 f17 f18 f25 f26 f27 f28 f29 f30 f31 f32 f33 f34 f35 f36 f37 f38 f39 f40 f43) H → va_D A (wX5 cI cZ cJ cA h0 a x1 x3 x4 x5 x6 x7 x9 x10 x14 x15 x16 x19 x20 x21 x22 x23 x24 x41 x42 f0 f2 f8 f11 f12 f13 f17 f18 f25 f26 f27 f28 f29 f30 f31 f32 f33 f34 f35 f36 f37 f38 f39 f40 f43) → va_S A s.heap H locs → lv_has ls 8 [(0, .ref h0), (1, .int v1), (2, .int v2)] → W p l e R s m args below meth c H locs 0 0 Q (F0 m 42 ls [])) →
    W p l e R s m args below meth c H locs 0 0 Q (F0 m 2 ls []) := by
  obtain ⟨⟨hx, hb, hml, hown, hts⟩, hRf, hRl, hA, hN, hK⟩ := C0
  intro n
  induction n with
  | zero =>
    intro v1 v2 v3 x1 x3 x4 x5 x6 x7 x9 x10 x14 x15 x16 x19 x20 x21 x22 x23 x24 x41 x42 f0 f2 f8 f11 f12 f13 f17 f18 f25 f26 f27 f28 f29 f30 f31 f32 f33 f34 f35 f36 f37 f38 f39 f40 f43 o H locs ls hf
    cases hf
  | succ n ih =>
    intro v1 v2 v3 x1 x3 x4 x5 x6 x7 x9 x10 x14 x15 x16 x19 x20 x21 x22 x23 x24 x41 x42 f0 f2 f8 f11 f12 f13 f17 f18 f25 f26 f27 f28 f29 f30 f31 f32 f33 f34 f35 f36 f37 f38 f39 f40 f43 o H locs ls hf hP hD hS hl hret hexit
    rw [q_X5_isRoll_L2] at hf
    refine lv_iload_n hx hb dX5_isRoll_2 rfl (lv_at hl 3 rfl) ?_
    refine lv_aload_n hx hb dX5_isRoll_3 rfl (lv_at hl 0 rfl) ?_
    refine va_get (D := (dC, dI)) (ci := 5) (v := .int x41) (C := RX5) (T := TX5) (N := 44) hx hb hts (fun w hw => List.mem_cons_of_mem _ (List.mem_append_right _ hw)) hown hK hP 0 rfl rfl 41 (by decide) (hts (.fieldLink RX5 187 "OldStadiumModel" "stones" "I") (List.mem_of_getElem? (i := 1) rfl)) (fun _ h9 => h9) rfl dX5_isRoll_4 ?_
    refine lv_icmp_ge (tgt := 42) hx hb dX5_isRoll_7 (by decide) (fun c1 => ?_) (fun c1 => ?_)
    · replace hf := z_ip hf c1
      obtain rfl := Option.some.inj hf
      exact hexit _ _ _ _ rfl hP hD hS (lv_sub hl [0, 1, 2] rfl)
    · replace hf := z_im hf c1
      refine lv_iload_n hx hb dX5_isRoll_10 rfl (lv_at hl 2 rfl) ?_
      refine lv_iload_n hx hb dX5_isRoll_11 rfl (lv_at hl 3 rfl) ?_
      refine lv_ishr hx hb dX5_isRoll_12 ?_
      refine lv_iconst (v := 1) hx hb dX5_isRoll_13 (by decide) ?_
      refine lv_iand hx hb dX5_isRoll_14 ?_
      refine lv_iconst (v := 1) hx hb dX5_isRoll_15 (by decide) ?_
      refine lv_icmp_ne (tgt := 36) hx hb dX5_isRoll_16 (by decide) (fun c2 => ?_) (fun c2 => ?_)
      · replace hf := z_im hf c2
        refine lv_iinc (v := (v3 + 1)) (lv' := [(3, .int (v3 + 1)), (0, .ref h0), (1, .int v1), (2, .int v2)]) hx hb dX5_isRoll_36 hl (k := 3) rfl rfl (by decide) rfl (fun ls hl => ?_)
        refine lv_goto (tgt := 2) hx hb dX5_isRoll_39 (by decide) ?_
        exact ih hf hP hD hS (lv_sub hl [1, 2, 3, 0] rfl) hret hexit
      · replace hf := z_ip hf c2
        refine lv_aload_n hx hb dX5_isRoll_19 rfl (lv_at hl 0 rfl) ?_
        refine lv_iload_n hx hb dX5_isRoll_20 rfl (lv_at hl 1 rfl) ?_
        refine lv_iload_n hx hb dX5_isRoll_21 rfl (lv_at hl 3 rfl) ?_
        obtain ⟨o3, ho3, hf1⟩ := z_ib hf
        replace hf := hf1
        clear hf1
        refine z_Vi (As := [.int v1, .int v3]) (rest := []) (w := (wX5 cI cZ cJ cA h0 a x1 x3 x4 x5 x6 x7 x9 x10 x14 x15 x16 x19 x20 x21 x22 x23 x24 x41 x42 f0 f2 f8 f11 f12 f13 f17 f18 f25 f26 f27 f28 f29 f30 f31 f32 f33 f34 f35 f36 f37 f38 f39 f40 f43)) (w1 := (wX5 cI cZ cJ cA h0 a x1 x3 x4 x5 x6 x7 x9 x10 x14 x15 x16 x19 x20 x21 x22 x23 x24 x41 x42 f0 f2 f8 f11 f12 f13 f17 f18 f25 f26 f27 f28 f29 f30 f31 f32 f33 f34 f35 f36 f37 f38 f39 f40 f43)) ⟨hx, hb, hml, hown, hts⟩ (k_X5_yearOf l dC dI cI cZ cJ cA h0 a H.size N v1 v3 x1 x3 x4 x5 x6 x7 x9 x10 x14 x15 x16 x19 x20 x21 x22 x23 x24 x41 x42 f0 f2 f8 f11 f12 f13 f17 f18 f25 f26 f27 f28 f29 f30 f31 f32 f33 f34 f35 f36 f37 f38 f39 f40 f43 o3 ho3) (cwV 2 hts gX5_isRoll_X5_yearOf rfl rfl rfl (by decide +kernel) ⟨Nat.le_trans (Nat.le_of_ble_eq_true rfl) hRf, Nat.le_trans (Nat.le_of_ble_eq_true rfl) hRl⟩) hK hP hD hS hA hN (ci := 5) rfl rfl rfl rfl hl.1 rfl (Nat.le_of_ble_eq_true rfl) dX5_isRoll_22 (fun H locs hP hD hS => ?_)
        refine lv_aload_n hx hb dX5_isRoll_25 rfl (lv_at hl 0 rfl) ?_
        refine va_get (D := (dC, dI)) (ci := 5) (v := .ref (a 36)) (C := RX5) (T := TX5) (N := 44) hx hb hts (fun w hw => List.mem_cons_of_mem _ (List.mem_append_right _ hw)) hown hK hP 0 rfl rfl 36 (by decide) (hts (.fieldLink RX5 75 "OldStadiumModel" "from" "[I") (List.mem_of_getElem? (i := 2) rfl)) (fun _ h9 => h9) rfl dX5_isRoll_26 ?_
        refine lv_iload_n hx hb dX5_isRoll_29 rfl (lv_at hl 3 rfl) ?_
        have b4 := z_c1 hf
        replace hf := z_c2 hf
        refine va_iald hx hb hK hP 20 0 rfl rfl b4 dX5_isRoll_30 ?_
        refine lv_icmp_eq (tgt := 36) hx hb dX5_isRoll_31 (by decide) (fun c5 => ?_) (fun c5 => ?_)
        · replace hf := z_ip hf c5
          refine lv_iinc (v := (v3 + 1)) (lv' := [(3, .int (v3 + 1)), (0, .ref h0), (1, .int v1), (2, .int v2)]) hx hb dX5_isRoll_36 hl (k := 3) rfl rfl (by decide) rfl (fun ls hl => ?_)
          refine lv_goto (tgt := 2) hx hb dX5_isRoll_39 (by decide) ?_
          exact ih hf hP hD hS (lv_sub hl [1, 2, 3, 0] rfl) hret hexit
        · replace hf := z_im hf c5
          refine lv_iconst (v := 0) hx hb dX5_isRoll_34 (by decide) ?_
          obtain rfl := Option.some.inj hf
          exact hret _ rfl _ _ _ _ _ dX5_isRoll_35 rfl rfl hP hD hS
def q_X5_isRoll_L69 (N : Nat) (v1 : Int32) (v2 : Int32) (v3 : Int32) (x41 : Int32) (x42 : Int32) (f35 : (Nat → Int32)) (f36 : (Nat → Int32)) (f37 : (Nat → Int32)) (f38 : (Nat → Int32)) (f39 : (Nat → Int32)) (f40 : (Nat → Int32)) : Nat → Int32 → Option (Sum Int32 Unit)
  | 0, _ => none
  | n + 1, v4 =>
    (if x41 ≤ v4 then
     (some (Sum.inr ()))
    else
     (if ((v2 >>> (v4 &&& 31)) &&& 1) = 1 then
      (q_X5_isRoll_L69 N v1 v2 v3 x41 x42 f35 f36 f37 f38 f39 f40 n (v4 + 1))
     else
      (Option.bind (q_X5_yearOf N v1 v3 f36 f37) (fun o3 =>
      (Option.bind (q_X5_yearOf N v1 v4 f36 f37) (fun o4 =>
      (if z_in ((6 * v3) + v4) 36 then
      (Option.bind (some ((f40 (Int32.toNatClampNeg ((6 * v3) + v4))) : Int32)) (fun n6 =>
      (if n6 = 0 then
       (if z_in v3 6 then
       (if z_in v4 6 then
       (if (f35 (Int32.toNatClampNeg v3)) = (f35 (Int32.toNatClampNeg v4)) then
        (if o3 = o4 then
         (Option.bind (q_X5_doAgree N v3 v4 f38 f39) (fun o12 =>
         (if o12 = 0 then
          (some (Sum.inl 0))
         else
          (q_X5_isRoll_L69 N v1 v2 v3 x41 x42 f35 f36 f37 f38 f39 f40 n (v4 + 1)))))
        else
         (q_X5_isRoll_L69 N v1 v2 v3 x41 x42 f35 f36 f37 f38 f39 f40 n (v4 + 1)))
       else
        (q_X5_isRoll_L69 N v1 v2 v3 x41 x42 f35 f36 f37 f38 f39 f40 n (v4 + 1)))
       else none)
       else none)
      else
       (if x42 < (o3 - o4) then
        (some (Sum.inl 0))
       else
        (if (o4 - o3) ≤ x42 then
         (Option.bind (q_X5_doAgree N v3 v4 f38 f39) (fun o16 =>
         (if o16 = 0 then
          (some (Sum.inl 0))
         else
          (q_X5_isRoll_L69 N v1 v2 v3 x41 x42 f35 f36 f37 f38 f39 f40 n (v4 + 1)))))
        else
         (some (Sum.inl 0)))))))
      else none)))))))
set_option maxHeartbeats 4000000 in
set_option maxRecDepth 100000 in
theorem b_X5_isRoll_L69 {p : Program} {l : Launch} {e : Env} {R : Room} {s : State} {m : MethodId} {args : Array Value} {below : List Frame} {meth : Method} {c : Code} {Q : State → Prop} {A : Nat → Prop} {dC : Nat → ClassId} {dI : Nat → Nat → Nat} {cI cZ cJ cA : ClassId} {h0 : Nat} {a : Nat → Nat} (N : Nat) (C0 : z_Cx p s m args c cX5_isRoll 8 wsX5_isRoll RX5 R 1 25 A dC dI (z_ty cI cZ cJ cA)) : ∀ (n : Nat) {v1 : Int32} {v2 : Int32} {v3 : Int32} {v4 : Int32} {x1 : Int32} {x3 : Int32} {x4 : Int32} {x5 : Int32} {x6 : Int32} {x7 : Int32} {x9 : Int32} {x10 : Int32} {x14 : Int32} {x15 : Int32} {x16 : Int32} {x19 : Int32} {x20 : Int32} {x21 : Int32} {x22 : Int32} {x23 : Int32} {x24 : Int32} {x41 : Int32} {x42 : Int32} {f0 : (Nat → Int32)} {f2 : (Nat → Int32)} {f8 : (Nat → Int32)} {f11 : (Nat → Int32)} {f12 : (Nat → Int32)} {f13 : (Nat → Int32)} {f17 : (Nat → Int32)} {f18 : (Nat → Int32)} {f25 : (Nat → Int32)} {f26 : (Nat → Int32)} {f27 : (Nat → Int32)} {f28 : (Nat → Int32)} {f29 : (Nat → Int32)} {f30 : (Nat → Int32)} {f31 : (Nat → Int32)} {f32 : (Nat → Int32)} {f33 : (Nat → Int32)} {f34 : (Nat → Int32)} {f35 : (Nat → Int32)} {f36 : (Nat → Int32)} {f37 : (Nat → Int32)} {f38 : (Nat → Int32)} {f39 : (Nat → Int32)} {f40 : (Nat → Int32)} {f43 : (Nat → Int32)} {o : (Sum Int32 Unit)} {H : Heap} {locs : List Loc} {ls : Array Slot}, q_X5_isRoll_L69 N v1 v2 v3 x41 x42 f35 f36 f37 f38 f39 f40 n v4 = some o → va_P (dC, dI) vwCl (wX5 cI cZ cJ cA h0 a x1 x3 x4 x5 x6 x7 x9 x10 x14 x15 x16 x19 x20 x21 x22 x23 x24 x41 x42 f0 f2 f8 f11 f12 f13 f17 f18 f25 f26 f27 f28 f29 f30 f31 f32 f33 f34 f35 f36 f37 f38 f39 f40 f43) H → va_D A (wX5 cI cZ cJ cA h0 a x1 x3 x4 x5 x6 x7 x9 x10 x14 x15 x16 x19 x20 x21 x22 x23 x24 x41 x42 f0 f2 f8 f11 f12 f13 f17 f18 f25 f26 f27 f28 f29 f30 f31 f32 f33 f34 f35 f36 f37 f38 f39 f40 f43) → va_S A s.heap H locs → lv_has ls 8 [(0, .ref h0), (1, .int v1), (2, .int v2), (3, .int v3), (4, .int v4)] →
    (∀ (t : Int32), o = Sum.inl t → ∀ (pc : Nat) (H : Heap) (locs : List Loc) (ls : Array Slot) (r : Int32), decode cX5_isRoll pc = .ok (.ireturn, 1) → r = t → narrow .boolean (.int r) = .int r → va_P (dC, dI) vwCl (wX5 cI cZ cJ cA h0 a x1 x3 x4 x5 x6 x7 x9 x10 x14 x15 x16 x19 x20 x21 x22 x23 x24 x41 x42 f0 f2 f8 f11 f12 f13 f17 f18 f25 f26 f27 f28 f29 f30 f31 f32 f33 f34 f35 f36 f37 f38 f39 f40 f43) H → va_D A (wX5 cI cZ cJ cA h0 a x1 x3 x4 x5 x6 x7 x9 x10 x14 x15 x16 x19 x20 x21 x22 x23 x24 x41 x42 f0 f2 f8 f11 f12 f13 f17 f18 f25 f26 f27 f28 f29 f30 f31 f32 f33 f34 f35 f36 f37 f38 f39 f40 f43) → va_S A s.heap H locs → W p l e R s m args below meth c H locs 0 0 Q (F0 m pc ls [.int r])) →
    (∀ (t : Unit) (H : Heap) (locs : List Loc) (ls : Array Slot), o = Sum.inr t → va_P (dC, dI) vwCl (wX5 cI cZ cJ cA h0 a x1 x3 x4 x5 x6 x7 x9 x10 x14 x15 x16 x19 x20 x21 x22 x23 x24 x41 x42 f0 f2 f8 f11 f12 f13 f17 f18 f25 f26 f27 f28 f29 f30 f31 f32 f33 f34 f35 f36 f37 f38 f39 f40 f43) H → va_D A (wX5 cI cZ cJ cA h0 a x1 x3 x4 x5 x6 x7 x9 x10 x14 x15 x16 x19 x20 x21 x22 x23 x24 x41 x42 f0 f2 f8 f11 f12 f13 f17 f18 f25 f26 f27 f28 f29 f30 f31 f32 f33 f34 f35 f36 f37 f38 f39 f40 f43) → va_S A s.heap H locs → lv_has ls 8 [(0, .ref h0), (1, .int v1), (2, .int v2), (3, .int v3)] → W p l e R s m args below meth c H locs 0 0 Q (F0 m 199 ls [])) →
    W p l e R s m args below meth c H locs 0 0 Q (F0 m 69 ls []) := by
  obtain ⟨⟨hx, hb, hml, hown, hts⟩, hRf, hRl, hA, hN, hK⟩ := C0
  intro n
  induction n with
  | zero =>
    intro v1 v2 v3 v4 x1 x3 x4 x5 x6 x7 x9 x10 x14 x15 x16 x19 x20 x21 x22 x23 x24 x41 x42 f0 f2 f8 f11 f12 f13 f17 f18 f25 f26 f27 f28 f29 f30 f31 f32 f33 f34 f35 f36 f37 f38 f39 f40 f43 o H locs ls hf
    cases hf
  | succ n ih =>
    intro v1 v2 v3 v4 x1 x3 x4 x5 x6 x7 x9 x10 x14 x15 x16 x19 x20 x21 x22 x23 x24 x41 x42 f0 f2 f8 f11 f12 f13 f17 f18 f25 f26 f27 f28 f29 f30 f31 f32 f33 f34 f35 f36 f37 f38 f39 f40 f43 o H locs ls hf hP hD hS hl hret hexit
    rw [q_X5_isRoll_L69] at hf
    refine lv_iload hx hb dX5_isRoll_69 (lv_at hl 4 rfl) ?_
    refine lv_aload_n hx hb dX5_isRoll_71 rfl (lv_at hl 0 rfl) ?_
    refine va_get (D := (dC, dI)) (ci := 5) (v := .int x41) (C := RX5) (T := TX5) (N := 44) hx hb hts (fun w hw => List.mem_cons_of_mem _ (List.mem_append_right _ hw)) hown hK hP 0 rfl rfl 41 (by decide) (hts (.fieldLink RX5 187 "OldStadiumModel" "stones" "I") (List.mem_of_getElem? (i := 1) rfl)) (fun _ h9 => h9) rfl dX5_isRoll_72 ?_
    refine lv_icmp_ge (tgt := 199) hx hb dX5_isRoll_75 (by decide) (fun c1 => ?_) (fun c1 => ?_)
    · replace hf := z_ip hf c1
      obtain rfl := Option.some.inj hf
      exact hexit _ _ _ _ rfl hP hD hS (lv_sub hl [0, 1, 2, 3] rfl)
    · replace hf := z_im hf c1
      refine lv_iload_n hx hb dX5_isRoll_78 rfl (lv_at hl 2 rfl) ?_
      refine lv_iload hx hb dX5_isRoll_79 (lv_at hl 4 rfl) ?_
      refine lv_ishr hx hb dX5_isRoll_81 ?_
      refine lv_iconst (v := 1) hx hb dX5_isRoll_82 (by decide) ?_
      refine lv_iand hx hb dX5_isRoll_83 ?_
      refine lv_iconst (v := 1) hx hb dX5_isRoll_84 (by decide) ?_
      refine lv_icmp_ne (tgt := 91) hx hb dX5_isRoll_85 (by decide) (fun c2 => ?_) (fun c2 => ?_)
      · replace hf := z_im hf c2
        refine lv_aload_n hx hb dX5_isRoll_91 rfl (lv_at hl 0 rfl) ?_
        refine lv_iload_n hx hb dX5_isRoll_92 rfl (lv_at hl 1 rfl) ?_
        refine lv_iload_n hx hb dX5_isRoll_93 rfl (lv_at hl 3 rfl) ?_
        obtain ⟨o3, ho3, hf1⟩ := z_ib hf
        replace hf := hf1
        clear hf1
        refine z_Vi (As := [.int v1, .int v3]) (rest := []) (w := (wX5 cI cZ cJ cA h0 a x1 x3 x4 x5 x6 x7 x9 x10 x14 x15 x16 x19 x20 x21 x22 x23 x24 x41 x42 f0 f2 f8 f11 f12 f13 f17 f18 f25 f26 f27 f28 f29 f30 f31 f32 f33 f34 f35 f36 f37 f38 f39 f40 f43)) (w1 := (wX5 cI cZ cJ cA h0 a x1 x3 x4 x5 x6 x7 x9 x10 x14 x15 x16 x19 x20 x21 x22 x23 x24 x41 x42 f0 f2 f8 f11 f12 f13 f17 f18 f25 f26 f27 f28 f29 f30 f31 f32 f33 f34 f35 f36 f37 f38 f39 f40 f43)) ⟨hx, hb, hml, hown, hts⟩ (k_X5_yearOf l dC dI cI cZ cJ cA h0 a H.size N v1 v3 x1 x3 x4 x5 x6 x7 x9 x10 x14 x15 x16 x19 x20 x21 x22 x23 x24 x41 x42 f0 f2 f8 f11 f12 f13 f17 f18 f25 f26 f27 f28 f29 f30 f31 f32 f33 f34 f35 f36 f37 f38 f39 f40 f43 o3 ho3) (cwV 2 hts gX5_isRoll_X5_yearOf rfl rfl rfl (by decide +kernel) ⟨Nat.le_trans (Nat.le_of_ble_eq_true rfl) hRf, Nat.le_trans (Nat.le_of_ble_eq_true rfl) hRl⟩) hK hP hD hS hA hN (ci := 5) rfl rfl rfl rfl hl.1 rfl (Nat.le_of_ble_eq_true rfl) dX5_isRoll_94 (fun H locs hP hD hS => ?_)
        refine lv_istore (lv' := [(5, .int o3), (0, .ref h0), (1, .int v1), (2, .int v2), (3, .int v3), (4, .int v4)]) hx hb dX5_isRoll_97 hl (by decide) rfl (fun ls hl => ?_)
        refine lv_aload_n hx hb dX5_isRoll_99 rfl (lv_at hl 1 rfl) ?_
        refine lv_iload_n hx hb dX5_isRoll_100 rfl (lv_at hl 2 rfl) ?_
        refine lv_iload hx hb dX5_isRoll_101 (lv_at hl 5 rfl) ?_
        obtain ⟨o4, ho4, hf1⟩ := z_ib hf
        replace hf := hf1
        clear hf1
        refine z_Vi (As := [.int v1, .int v4]) (rest := []) (w := (wX5 cI cZ cJ cA h0 a x1 x3 x4 x5 x6 x7 x9 x10 x14 x15 x16 x19 x20 x21 x22 x23 x24 x41 x42 f0 f2 f8 f11 f12 f13 f17 f18 f25 f26 f27 f28 f29 f30 f31 f32 f33 f34 f35 f36 f37 f38 f39 f40 f43)) (w1 := (wX5 cI cZ cJ cA h0 a x1 x3 x4 x5 x6 x7 x9 x10 x14 x15 x16 x19 x20 x21 x22 x23 x24 x41 x42 f0 f2 f8 f11 f12 f13 f17 f18 f25 f26 f27 f28 f29 f30 f31 f32 f33 f34 f35 f36 f37 f38 f39 f40 f43)) ⟨hx, hb, hml, hown, hts⟩ (k_X5_yearOf l dC dI cI cZ cJ cA h0 a H.size N v1 v4 x1 x3 x4 x5 x6 x7 x9 x10 x14 x15 x16 x19 x20 x21 x22 x23 x24 x41 x42 f0 f2 f8 f11 f12 f13 f17 f18 f25 f26 f27 f28 f29 f30 f31 f32 f33 f34 f35 f36 f37 f38 f39 f40 f43 o4 ho4) (cwV 2 hts gX5_isRoll_X5_yearOf rfl rfl rfl (by decide +kernel) ⟨Nat.le_trans (Nat.le_of_ble_eq_true rfl) hRf, Nat.le_trans (Nat.le_of_ble_eq_true rfl) hRl⟩) hK hP hD hS hA hN (ci := 5) rfl rfl rfl rfl hl.1 rfl (Nat.le_of_ble_eq_true rfl) dX5_isRoll_103 (fun H locs hP hD hS => ?_)
        refine lv_istore (lv' := [(6, .int o4), (5, .int o3), (0, .ref h0), (1, .int v1), (2, .int v2), (3, .int v3), (4, .int v4)]) hx hb dX5_isRoll_106 hl (by decide) rfl (fun ls hl => ?_)
        refine lv_aload_n hx hb dX5_isRoll_108 rfl (lv_at hl 2 rfl) ?_
        refine va_get (D := (dC, dI)) (ci := 5) (v := .ref (a 40)) (C := RX5) (T := TX5) (N := 44) hx hb hts (fun w hw => List.mem_cons_of_mem _ (List.mem_append_right _ hw)) hown hK hP 0 rfl rfl 40 (by decide) (hts (.fieldLink RX5 87 "OldStadiumModel" "joined" "[Z") (List.mem_of_getElem? (i := 3) rfl)) (fun _ h9 => h9) rfl dX5_isRoll_109 ?_
        refine lv_bipush (v := 6) hx hb dX5_isRoll_112 (by decide) ?_
        refine lv_iload_n hx hb dX5_isRoll_114 rfl (lv_at hl 5 rfl) ?_
        refine lv_imul hx hb dX5_isRoll_115 ?_
        refine lv_iload hx hb dX5_isRoll_116 (lv_at hl 6 rfl) ?_
        refine lv_iadd hx hb dX5_isRoll_118 ?_
        have b5 := z_c1 hf
        replace hf := z_c2 hf
        refine va_zald hx hb hK hP 24 1 rfl rfl b5 dX5_isRoll_119 ?_
        obtain ⟨n6, hn6, hf1⟩ := z_ib hf
        replace hf := hf1
        clear hf1
        refine lv_topi (fun y9 ey9 => ?_)
        obtain rfl : n6 = y9 := (Option.some.inj hn6).symm.trans ey9.symm
        refine lv_istore (lv' := [(7, .int n6), (6, .int o4), (5, .int o3), (0, .ref h0), (1, .int v1), (2, .int v2), (3, .int v3), (4, .int v4)]) hx hb dX5_isRoll_120 hl (by decide) rfl (fun ls hl => ?_)
        refine lv_iload hx hb dX5_isRoll_122 (lv_at hl 0 rfl) ?_
        refine lv_if_eq (tgt := 153) hx hb dX5_isRoll_124 (by decide) (fun c7 => ?_) (fun c7 => ?_)
        · replace hf := z_ip hf c7
          refine lv_iload hx hb dX5_isRoll_153 (lv_at hl 0 rfl) ?_
          refine lv_if_ne (tgt := 181) hx hb dX5_isRoll_155 (by decide) (fun c0 => absurd c7 c0) (fun _ => ?_)
          refine lv_aload_n hx hb dX5_isRoll_158 rfl (lv_at hl 3 rfl) ?_
          refine va_get (D := (dC, dI)) (ci := 5) (v := .ref (a 35)) (C := RX5) (T := TX5) (N := 44) hx hb hts (fun w hw => List.mem_cons_of_mem _ (List.mem_append_right _ hw)) hown hK hP 0 rfl rfl 35 (by decide) (hts (.fieldLink RX5 72 "OldStadiumModel" "event" "[I") (List.mem_of_getElem? (i := 5) rfl)) (fun _ h9 => h9) rfl dX5_isRoll_159 ?_
          refine lv_iload_n hx hb dX5_isRoll_162 rfl (lv_at hl 6 rfl) ?_
          have b8 := z_c1 hf
          replace hf := z_c2 hf
          refine va_iald hx hb hK hP 19 0 rfl rfl b8 dX5_isRoll_163 ?_
          refine lv_aload_n hx hb dX5_isRoll_164 rfl (lv_at hl 3 rfl) ?_
          refine va_get (D := (dC, dI)) (ci := 5) (v := .ref (a 35)) (C := RX5) (T := TX5) (N := 44) hx hb hts (fun w hw => List.mem_cons_of_mem _ (List.mem_append_right _ hw)) hown hK hP 0 rfl rfl 35 (by decide) (hts (.fieldLink RX5 72 "OldStadiumModel" "event" "[I") (List.mem_of_getElem? (i := 5) rfl)) (fun _ h9 => h9) rfl dX5_isRoll_165 ?_
          refine lv_iload hx hb dX5_isRoll_168 (lv_at hl 7 rfl) ?_
          have b9 := z_c1 hf
          replace hf := z_c2 hf
          refine va_iald hx hb hK hP 19 0 rfl rfl b9 dX5_isRoll_170 ?_
          refine lv_icmp_ne (tgt := 193) hx hb dX5_isRoll_171 (by decide) (fun c10 => ?_) (fun c10 => ?_)
          · replace hf := z_im hf c10
            refine lv_iinc (v := (v4 + 1)) (lv' := [(4, .int (v4 + 1)), (7, .int n6), (6, .int o4), (5, .int o3), (0, .ref h0), (1, .int v1), (2, .int v2), (3, .int v3)]) hx hb dX5_isRoll_193 hl (k := 7) rfl rfl (by decide) rfl (fun ls hl => ?_)
            refine lv_goto (tgt := 69) hx hb dX5_isRoll_196 (by decide) ?_
            exact ih hf hP hD hS (lv_sub hl [4, 5, 6, 7, 0] rfl) hret hexit
          · replace hf := z_ip hf c10
            refine lv_iload hx hb dX5_isRoll_174 (lv_at hl 2 rfl) ?_
            refine lv_iload hx hb dX5_isRoll_176 (lv_at hl 1 rfl) ?_
            refine lv_icmp_ne (tgt := 193) hx hb dX5_isRoll_178 (by decide) (fun c11 => ?_) (fun c11 => ?_)
            · replace hf := z_im hf c11
              refine lv_iinc (v := (v4 + 1)) (lv' := [(4, .int (v4 + 1)), (7, .int n6), (6, .int o4), (5, .int o3), (0, .ref h0), (1, .int v1), (2, .int v2), (3, .int v3)]) hx hb dX5_isRoll_193 hl (k := 7) rfl rfl (by decide) rfl (fun ls hl => ?_)
              refine lv_goto (tgt := 69) hx hb dX5_isRoll_196 (by decide) ?_
              exact ih hf hP hD hS (lv_sub hl [4, 5, 6, 7, 0] rfl) hret hexit
            · replace hf := z_ip hf c11
              refine lv_aload_n hx hb dX5_isRoll_181 rfl (lv_at hl 3 rfl) ?_
              refine lv_iload_n hx hb dX5_isRoll_182 rfl (lv_at hl 6 rfl) ?_
              refine lv_iload hx hb dX5_isRoll_183 (lv_at hl 7 rfl) ?_
              obtain ⟨o12, ho12, hf1⟩ := z_ib hf
              replace hf := hf1
              clear hf1
              refine z_Vi (As := [.int v3, .int v4]) (rest := []) (w := (wX5 cI cZ cJ cA h0 a x1 x3 x4 x5 x6 x7 x9 x10 x14 x15 x16 x19 x20 x21 x22 x23 x24 x41 x42 f0 f2 f8 f11 f12 f13 f17 f18 f25 f26 f27 f28 f29 f30 f31 f32 f33 f34 f35 f36 f37 f38 f39 f40 f43)) (w1 := (wX5 cI cZ cJ cA h0 a x1 x3 x4 x5 x6 x7 x9 x10 x14 x15 x16 x19 x20 x21 x22 x23 x24 x41 x42 f0 f2 f8 f11 f12 f13 f17 f18 f25 f26 f27 f28 f29 f30 f31 f32 f33 f34 f35 f36 f37 f38 f39 f40 f43)) ⟨hx, hb, hml, hown, hts⟩ (k_X5_doAgree l dC dI cI cZ cJ cA h0 a H.size N v3 v4 x1 x3 x4 x5 x6 x7 x9 x10 x14 x15 x16 x19 x20 x21 x22 x23 x24 x41 x42 f0 f2 f8 f11 f12 f13 f17 f18 f25 f26 f27 f28 f29 f30 f31 f32 f33 f34 f35 f36 f37 f38 f39 f40 f43 o12 ho12) (cwV 2 hts gX5_isRoll_X5_doAgree rfl rfl rfl (by decide +kernel) ⟨Nat.le_trans (Nat.le_of_ble_eq_true rfl) hRf, Nat.le_trans (Nat.le_of_ble_eq_true rfl) hRl⟩) hK hP hD hS hA hN (ci := 5) rfl rfl rfl rfl hl.1 rfl (Nat.le_of_ble_eq_true rfl) dX5_isRoll_185 (fun H locs hP hD hS => ?_)
              refine lv_if_ne (tgt := 193) hx hb dX5_isRoll_188 (by decide) (fun c13 => ?_) (fun c13 => ?_)
              · replace hf := z_im hf c13
                refine lv_iinc (v := (v4 + 1)) (lv' := [(4, .int (v4 + 1)), (7, .int n6), (6, .int o4), (5, .int o3), (0, .ref h0), (1, .int v1), (2, .int v2), (3, .int v3)]) hx hb dX5_isRoll_193 hl (k := 7) rfl rfl (by decide) rfl (fun ls hl => ?_)
                refine lv_goto (tgt := 69) hx hb dX5_isRoll_196 (by decide) ?_
                exact ih hf hP hD hS (lv_sub hl [4, 5, 6, 7, 0] rfl) hret hexit
              · replace hf := z_ip hf c13
                refine lv_iconst (v := 0) hx hb dX5_isRoll_191 (by decide) ?_
                obtain rfl := Option.some.inj hf
                exact hret _ rfl _ _ _ _ _ dX5_isRoll_192 rfl rfl hP hD hS
        · replace hf := z_im hf c7
          refine lv_iload hx hb dX5_isRoll_127 (lv_at hl 2 rfl) ?_
          refine lv_iload hx hb dX5_isRoll_129 (lv_at hl 1 rfl) ?_
          refine lv_isub hx hb dX5_isRoll_131 ?_
          refine lv_aload_n hx hb dX5_isRoll_132 rfl (lv_at hl 3 rfl) ?_
          refine va_get (D := (dC, dI)) (ci := 5) (v := .int x42) (C := RX5) (T := TX5) (N := 44) hx hb hts (fun w hw => List.mem_cons_of_mem _ (List.mem_append_right _ hw)) hown hK hP 0 rfl rfl 42 (by decide) (hts (.fieldLink RX5 90 "OldStadiumModel" "span" "I") (List.mem_of_getElem? (i := 4) rfl)) (fun _ h9 => h9) rfl dX5_isRoll_133 ?_
          refine lv_icmp_gt (tgt := 151) hx hb dX5_isRoll_136 (by decide) (fun c14 => ?_) (fun c14 => ?_)
          · replace hf := z_ip hf c14
            refine lv_iconst (v := 0) hx hb dX5_isRoll_151 (by decide) ?_
            obtain rfl := Option.some.inj hf
            exact hret _ rfl _ _ _ _ _ dX5_isRoll_152 rfl rfl hP hD hS
          · replace hf := z_im hf c14
            refine lv_iload hx hb dX5_isRoll_139 (lv_at hl 1 rfl) ?_
            refine lv_iload hx hb dX5_isRoll_141 (lv_at hl 2 rfl) ?_
            refine lv_isub hx hb dX5_isRoll_143 ?_
            refine lv_aload_n hx hb dX5_isRoll_144 rfl (lv_at hl 3 rfl) ?_
            refine va_get (D := (dC, dI)) (ci := 5) (v := .int x42) (C := RX5) (T := TX5) (N := 44) hx hb hts (fun w hw => List.mem_cons_of_mem _ (List.mem_append_right _ hw)) hown hK hP 0 rfl rfl 42 (by decide) (hts (.fieldLink RX5 90 "OldStadiumModel" "span" "I") (List.mem_of_getElem? (i := 4) rfl)) (fun _ h9 => h9) rfl dX5_isRoll_145 ?_
            refine lv_icmp_le (tgt := 153) hx hb dX5_isRoll_148 (by decide) (fun c15 => ?_) (fun c15 => ?_)
            · replace hf := z_ip hf c15
              refine lv_iload hx hb dX5_isRoll_153 (lv_at hl 0 rfl) ?_
              refine lv_if_ne (tgt := 181) hx hb dX5_isRoll_155 (by decide) (fun _ => ?_) (fun c0 => absurd c0 c7)
              refine lv_aload_n hx hb dX5_isRoll_181 rfl (lv_at hl 3 rfl) ?_
              refine lv_iload_n hx hb dX5_isRoll_182 rfl (lv_at hl 6 rfl) ?_
              refine lv_iload hx hb dX5_isRoll_183 (lv_at hl 7 rfl) ?_
              obtain ⟨o16, ho16, hf1⟩ := z_ib hf
              replace hf := hf1
              clear hf1
              refine z_Vi (As := [.int v3, .int v4]) (rest := []) (w := (wX5 cI cZ cJ cA h0 a x1 x3 x4 x5 x6 x7 x9 x10 x14 x15 x16 x19 x20 x21 x22 x23 x24 x41 x42 f0 f2 f8 f11 f12 f13 f17 f18 f25 f26 f27 f28 f29 f30 f31 f32 f33 f34 f35 f36 f37 f38 f39 f40 f43)) (w1 := (wX5 cI cZ cJ cA h0 a x1 x3 x4 x5 x6 x7 x9 x10 x14 x15 x16 x19 x20 x21 x22 x23 x24 x41 x42 f0 f2 f8 f11 f12 f13 f17 f18 f25 f26 f27 f28 f29 f30 f31 f32 f33 f34 f35 f36 f37 f38 f39 f40 f43)) ⟨hx, hb, hml, hown, hts⟩ (k_X5_doAgree l dC dI cI cZ cJ cA h0 a H.size N v3 v4 x1 x3 x4 x5 x6 x7 x9 x10 x14 x15 x16 x19 x20 x21 x22 x23 x24 x41 x42 f0 f2 f8 f11 f12 f13 f17 f18 f25 f26 f27 f28 f29 f30 f31 f32 f33 f34 f35 f36 f37 f38 f39 f40 f43 o16 ho16) (cwV 2 hts gX5_isRoll_X5_doAgree rfl rfl rfl (by decide +kernel) ⟨Nat.le_trans (Nat.le_of_ble_eq_true rfl) hRf, Nat.le_trans (Nat.le_of_ble_eq_true rfl) hRl⟩) hK hP hD hS hA hN (ci := 5) rfl rfl rfl rfl hl.1 rfl (Nat.le_of_ble_eq_true rfl) dX5_isRoll_185 (fun H locs hP hD hS => ?_)
              refine lv_if_ne (tgt := 193) hx hb dX5_isRoll_188 (by decide) (fun c17 => ?_) (fun c17 => ?_)
              · replace hf := z_im hf c17
                refine lv_iinc (v := (v4 + 1)) (lv' := [(4, .int (v4 + 1)), (7, .int n6), (6, .int o4), (5, .int o3), (0, .ref h0), (1, .int v1), (2, .int v2), (3, .int v3)]) hx hb dX5_isRoll_193 hl (k := 7) rfl rfl (by decide) rfl (fun ls hl => ?_)
                refine lv_goto (tgt := 69) hx hb dX5_isRoll_196 (by decide) ?_
                exact ih hf hP hD hS (lv_sub hl [4, 5, 6, 7, 0] rfl) hret hexit
              · replace hf := z_ip hf c17
                refine lv_iconst (v := 0) hx hb dX5_isRoll_191 (by decide) ?_
                obtain rfl := Option.some.inj hf
                exact hret _ rfl _ _ _ _ _ dX5_isRoll_192 rfl rfl hP hD hS
            · replace hf := z_im hf c15
              refine lv_iconst (v := 0) hx hb dX5_isRoll_151 (by decide) ?_
              obtain rfl := Option.some.inj hf
              exact hret _ rfl _ _ _ _ _ dX5_isRoll_152 rfl rfl hP hD hS
      · replace hf := z_ip hf c2
        refine lv_goto (tgt := 193) hx hb dX5_isRoll_88 (by decide) ?_
        refine lv_iinc (v := (v4 + 1)) (lv' := [(4, .int (v4 + 1)), (0, .ref h0), (1, .int v1), (2, .int v2), (3, .int v3)]) hx hb dX5_isRoll_193 hl (k := 4) rfl rfl (by decide) rfl (fun ls hl => ?_)
        refine lv_goto (tgt := 69) hx hb dX5_isRoll_196 (by decide) ?_
        exact ih hf hP hD hS (lv_sub hl [1, 2, 3, 4, 0] rfl) hret hexit
def q_X5_isRoll_L44 (N : Nat) (v1 : Int32) (v2 : Int32) (x41 : Int32) (x42 : Int32) (f35 : (Nat → Int32)) (f36 : (Nat → Int32)) (f37 : (Nat → Int32)) (f38 : (Nat → Int32)) (f39 : (Nat → Int32)) (f40 : (Nat → Int32)) : Nat → Int32 → Option (Sum Int32 Unit)
  | 0, _ => none
  | n + 1, v3 =>
    (if x41 ≤ v3 then
     (some (Sum.inr ()))
    else
     (if ((v2 >>> (v3 &&& 31)) &&& 1) = 1 then
      (q_X5_isRoll_L44 N v1 v2 x41 x42 f35 f36 f37 f38 f39 f40 n (v3 + 1))
     else
      (Option.bind (q_X5_isRoll_L69 N v1 v2 v3 x41 x42 f35 f36 f37 f38 f39 f40 N (v3 + 1)) (Sum.elim (fun r5 => (some (Sum.inl r5))) (fun s4 =>
      (q_X5_isRoll_L44 N v1 v2 x41 x42 f35 f36 f37 f38 f39 f40 n (v3 + 1)))))))
set_option maxHeartbeats 4000000 in
set_option maxRecDepth 100000 in
theorem b_X5_isRoll_L44 {p : Program} {l : Launch} {e : Env} {R : Room} {s : State} {m : MethodId} {args : Array Value} {below : List Frame} {meth : Method} {c : Code} {Q : State → Prop} {A : Nat → Prop} {dC : Nat → ClassId} {dI : Nat → Nat → Nat} {cI cZ cJ cA : ClassId} {h0 : Nat} {a : Nat → Nat} (N : Nat) (C0 : z_Cx p s m args c cX5_isRoll 8 wsX5_isRoll RX5 R 1 25 A dC dI (z_ty cI cZ cJ cA)) : ∀ (n : Nat) {v1 : Int32} {v2 : Int32} {v3 : Int32} {x1 : Int32} {x3 : Int32} {x4 : Int32} {x5 : Int32} {x6 : Int32} {x7 : Int32} {x9 : Int32} {x10 : Int32} {x14 : Int32} {x15 : Int32} {x16 : Int32} {x19 : Int32} {x20 : Int32} {x21 : Int32} {x22 : Int32} {x23 : Int32} {x24 : Int32} {x41 : Int32} {x42 : Int32} {f0 : (Nat → Int32)} {f2 : (Nat → Int32)} {f8 : (Nat → Int32)} {f11 : (Nat → Int32)} {f12 : (Nat → Int32)} {f13 : (Nat → Int32)} {f17 : (Nat → Int32)} {f18 : (Nat → Int32)} {f25 : (Nat → Int32)} {f26 : (Nat → Int32)} {f27 : (Nat → Int32)} {f28 : (Nat → Int32)} {f29 : (Nat → Int32)} {f30 : (Nat → Int32)} {f31 : (Nat → Int32)} {f32 : (Nat → Int32)} {f33 : (Nat → Int32)} {f34 : (Nat → Int32)} {f35 : (Nat → Int32)} {f36 : (Nat → Int32)} {f37 : (Nat → Int32)} {f38 : (Nat → Int32)} {f39 : (Nat → Int32)} {f40 : (Nat → Int32)} {f43 : (Nat → Int32)} {o : (Sum Int32 Unit)} {H : Heap} {locs : List Loc} {ls : Array Slot}, q_X5_isRoll_L44 N v1 v2 x41 x42 f35 f36 f37 f38 f39 f40 n v3 = some o → va_P (dC, dI) vwCl (wX5 cI cZ cJ cA h0 a x1 x3 x4 x5 x6 x7 x9 x10 x14 x15 x16 x19 x20 x21 x22 x23 x24 x41 x42 f0 f2 f8 f11 f12 f13 f17 f18 f25 f26 f27 f28 f29 f30 f31 f32 f33 f34 f35 f36 f37 f38 f39 f40 f43) H → va_D A (wX5 cI cZ cJ cA h0 a x1 x3 x4 x5 x6 x7 x9 x10 x14 x15 x16 x19 x20 x21 x22 x23 x24 x41 x42 f0 f2 f8 f11 f12 f13 f17 f18 f25 f26 f27 f28 f29 f30 f31 f32 f33 f34 f35 f36 f37 f38 f39 f40 f43) → va_S A s.heap H locs → lv_has ls 8 [(0, .ref h0), (1, .int v1), (2, .int v2), (3, .int v3)] →
    (∀ (t : Int32), o = Sum.inl t → ∀ (pc : Nat) (H : Heap) (locs : List Loc) (ls : Array Slot) (r : Int32), decode cX5_isRoll pc = .ok (.ireturn, 1) → r = t → narrow .boolean (.int r) = .int r → va_P (dC, dI) vwCl (wX5 cI cZ cJ cA h0 a x1 x3 x4 x5 x6 x7 x9 x10 x14 x15 x16 x19 x20 x21 x22 x23 x24 x41 x42 f0 f2 f8 f11 f12 f13 f17 f18 f25 f26 f27 f28 f29 f30 f31 f32 f33 f34 f35 f36 f37 f38 f39 f40 f43) H → va_D A (wX5 cI cZ cJ cA h0 a x1 x3 x4 x5 x6 x7 x9 x10 x14 x15 x16 x19 x20 x21 x22 x23 x24 x41 x42 f0 f2 f8 f11 f12 f13 f17 f18 f25 f26 f27 f28 f29 f30 f31 f32 f33 f34 f35 f36 f37 f38 f39 f40 f43) → va_S A s.heap H locs → W p l e R s m args below meth c H locs 0 0 Q (F0 m pc ls [.int r])) →
    (∀ (t : Unit) (H : Heap) (locs : List Loc) (ls : Array Slot), o = Sum.inr t → va_P (dC, dI) vwCl (wX5 cI cZ cJ cA h0 a x1 x3 x4 x5 x6 x7 x9 x10 x14 x15 x16 x19 x20 x21 x22 x23 x24 x41 x42 f0 f2 f8 f11 f12 f13 f17 f18 f25 f26 f27 f28 f29 f30 f31 f32 f33 f34 f35 f36 f37 f38 f39 f40 f43) H → va_D A (wX5 cI cZ cJ cA h0 a x1 x3 x4 x5 x6 x7 x9 x10 x14 x15 x16 x19 x20 x21 x22 x23 x24 x41 x42 f0 f2 f8 f11 f12 f13 f17 f18 f25 f26 f27 f28 f29 f30 f31 f32 f33 f34 f35 f36 f37 f38 f39 f40 f43) → va_S A s.heap H locs → lv_has ls 8 [] → W p l e R s m args below meth c H locs 0 0 Q (F0 m 205 ls [])) →
    W p l e R s m args below meth c H locs 0 0 Q (F0 m 44 ls []) := by
  obtain ⟨⟨hx, hb, hml, hown, hts⟩, hRf, hRl, hA, hN, hK⟩ := C0
  intro n
  induction n with
  | zero =>
    intro v1 v2 v3 x1 x3 x4 x5 x6 x7 x9 x10 x14 x15 x16 x19 x20 x21 x22 x23 x24 x41 x42 f0 f2 f8 f11 f12 f13 f17 f18 f25 f26 f27 f28 f29 f30 f31 f32 f33 f34 f35 f36 f37 f38 f39 f40 f43 o H locs ls hf
    cases hf
  | succ n ih =>
    intro v1 v2 v3 x1 x3 x4 x5 x6 x7 x9 x10 x14 x15 x16 x19 x20 x21 x22 x23 x24 x41 x42 f0 f2 f8 f11 f12 f13 f17 f18 f25 f26 f27 f28 f29 f30 f31 f32 f33 f34 f35 f36 f37 f38 f39 f40 f43 o H locs ls hf hP hD hS hl hret hexit
    rw [q_X5_isRoll_L44] at hf
    refine lv_iload_n hx hb dX5_isRoll_44 rfl (lv_at hl 3 rfl) ?_
    refine lv_aload_n hx hb dX5_isRoll_45 rfl (lv_at hl 0 rfl) ?_
    refine va_get (D := (dC, dI)) (ci := 5) (v := .int x41) (C := RX5) (T := TX5) (N := 44) hx hb hts (fun w hw => List.mem_cons_of_mem _ (List.mem_append_right _ hw)) hown hK hP 0 rfl rfl 41 (by decide) (hts (.fieldLink RX5 187 "OldStadiumModel" "stones" "I") (List.mem_of_getElem? (i := 1) rfl)) (fun _ h9 => h9) rfl dX5_isRoll_46 ?_
    refine lv_icmp_ge (tgt := 205) hx hb dX5_isRoll_49 (by decide) (fun c1 => ?_) (fun c1 => ?_)
    · replace hf := z_ip hf c1
      obtain rfl := Option.some.inj hf
      exact hexit _ _ _ _ rfl hP hD hS (lv_sub hl [] rfl)
    · replace hf := z_im hf c1
      refine lv_iload_n hx hb dX5_isRoll_52 rfl (lv_at hl 2 rfl) ?_
      refine lv_iload_n hx hb dX5_isRoll_53 rfl (lv_at hl 3 rfl) ?_
      refine lv_ishr hx hb dX5_isRoll_54 ?_
      refine lv_iconst (v := 1) hx hb dX5_isRoll_55 (by decide) ?_
      refine lv_iand hx hb dX5_isRoll_56 ?_
      refine lv_iconst (v := 1) hx hb dX5_isRoll_57 (by decide) ?_
      refine lv_icmp_ne (tgt := 64) hx hb dX5_isRoll_58 (by decide) (fun c2 => ?_) (fun c2 => ?_)
      · replace hf := z_im hf c2
        refine lv_iload_n hx hb dX5_isRoll_64 rfl (lv_at hl 3 rfl) ?_
        refine lv_iconst (v := 1) hx hb dX5_isRoll_65 (by decide) ?_
        refine lv_iadd hx hb dX5_isRoll_66 ?_
        refine lv_istore (lv' := [(4, .int (v3 + 1)), (0, .ref h0), (1, .int v1), (2, .int v2), (3, .int v3)]) hx hb dX5_isRoll_67 hl (by decide) rfl (fun ls hl => ?_)
        obtain ⟨t3, ht3, hf1⟩ := z_ib hf
        replace hf := hf1
        clear hf1
        refine b_X5_isRoll_L69 N ⟨⟨hx, hb, hml, hown, hts⟩, hRf, hRl, hA, hN, hK⟩ N ht3 hP hD hS (lv_sub hl [1, 2, 3, 4, 0] rfl) (fun r5 e1 pc H locs ls r0 hd hr hn hP hD hS => ?_) (fun s4 H locs ls e1 hP hD hS hl => ?_)
        · subst e1
          have hf := z_sl hf
          obtain rfl := Option.some.inj hf
          exact hret _ rfl pc H locs ls r0 hd hr hn hP hD hS
        subst e1
        replace hf := z_sr hf
        refine lv_iinc (v := (v3 + 1)) (lv' := [(3, .int (v3 + 1)), (0, .ref h0), (1, .int v1), (2, .int v2)]) hx hb dX5_isRoll_199 hl (k := 3) rfl rfl (by decide) rfl (fun ls hl => ?_)
        refine lv_goto (tgt := 44) hx hb dX5_isRoll_202 (by decide) ?_
        exact ih hf hP hD hS (lv_sub hl [1, 2, 3, 0] rfl) hret hexit
      · replace hf := z_ip hf c2
        refine lv_goto (tgt := 199) hx hb dX5_isRoll_61 (by decide) ?_
        refine lv_iinc (v := (v3 + 1)) (lv' := [(3, .int (v3 + 1)), (0, .ref h0), (1, .int v1), (2, .int v2)]) hx hb dX5_isRoll_199 hl (k := 3) rfl rfl (by decide) rfl (fun ls hl => ?_)
        refine lv_goto (tgt := 44) hx hb dX5_isRoll_202 (by decide) ?_
        exact ih hf hP hD hS (lv_sub hl [1, 2, 3, 0] rfl) hret hexit
def q_X5_isRoll (N : Nat) (v1 : Int32) (v2 : Int32) (x41 : Int32) (x42 : Int32) (f35 : (Nat → Int32)) (f36 : (Nat → Int32)) (f37 : (Nat → Int32)) (f38 : (Nat → Int32)) (f39 : (Nat → Int32)) (f40 : (Nat → Int32)) : Option Int32 :=
  (Option.bind (q_X5_isRoll_L2 N v1 v2 x41 f36 f37 N 0) (Sum.elim (fun r3 => (some r3)) (fun s2 =>
  (Option.bind (q_X5_isRoll_L44 N v1 v2 x41 x42 f35 f36 f37 f38 f39 f40 N 0) (Sum.elim (fun r6 => (some r6)) (fun s5 =>
  (some 1)))))))
set_option maxHeartbeats 4000000 in
set_option maxRecDepth 100000 in
theorem b_X5_isRoll {p : Program} {l : Launch} {e : Env} {R : Room} {s : State} {m : MethodId} {args : Array Value} {below : List Frame} {meth : Method} {c : Code} {Q : State → Prop} {A : Nat → Prop} {dC : Nat → ClassId} {dI : Nat → Nat → Nat} {cI cZ cJ cA : ClassId} {h0 : Nat} {a : Nat → Nat} (N : Nat) (C0 : z_Cx p s m args c cX5_isRoll 8 wsX5_isRoll RX5 R 1 25 A dC dI (z_ty cI cZ cJ cA)) {v1 : Int32} {v2 : Int32} {x1 : Int32} {x3 : Int32} {x4 : Int32} {x5 : Int32} {x6 : Int32} {x7 : Int32} {x9 : Int32} {x10 : Int32} {x14 : Int32} {x15 : Int32} {x16 : Int32} {x19 : Int32} {x20 : Int32} {x21 : Int32} {x22 : Int32} {x23 : Int32} {x24 : Int32} {x41 : Int32} {x42 : Int32} {f0 : (Nat → Int32)} {f2 : (Nat → Int32)} {f8 : (Nat → Int32)} {f11 : (Nat → Int32)} {f12 : (Nat → Int32)} {f13 : (Nat → Int32)} {f17 : (Nat → Int32)} {f18 : (Nat → Int32)} {f25 : (Nat → Int32)} {f26 : (Nat → Int32)} {f27 : (Nat → Int32)} {f28 : (Nat → Int32)} {f29 : (Nat → Int32)} {f30 : (Nat → Int32)} {f31 : (Nat → Int32)} {f32 : (Nat → Int32)} {f33 : (Nat → Int32)} {f34 : (Nat → Int32)} {f35 : (Nat → Int32)} {f36 : (Nat → Int32)} {f37 : (Nat → Int32)} {f38 : (Nat → Int32)} {f39 : (Nat → Int32)} {f40 : (Nat → Int32)} {f43 : (Nat → Int32)} {o : Int32} {H : Heap} {locs : List Loc} {ls : Array Slot} (hf : q_X5_isRoll N v1 v2 x41 x42 f35 f36 f37 f38 f39 f40 = some o) (hP : va_P (dC, dI) vwCl (wX5 cI cZ cJ cA h0 a x1 x3 x4 x5 x6 x7 x9 x10 x14 x15 x16 x19 x20 x21 x22 x23 x24 x41 x42 f0 f2 f8 f11 f12 f13 f17 f18 f25 f26 f27 f28 f29 f30 f31 f32 f33 f34 f35 f36 f37 f38 f39 f40 f43) H) (hD : va_D A (wX5 cI cZ cJ cA h0 a x1 x3 x4 x5 x6 x7 x9 x10 x14 x15 x16 x19 x20 x21 x22 x23 x24 x41 x42 f0 f2 f8 f11 f12 f13 f17 f18 f25 f26 f27 f28 f29 f30 f31 f32 f33 f34 f35 f36 f37 f38 f39 f40 f43)) (hS : va_S A s.heap H locs) (hl : lv_has ls 8 [(0, .ref h0), (1, .int v1), (2, .int v2)])
    (hret : ∀ (pc : Nat) (H : Heap) (locs : List Loc) (ls : Array Slot) (r : Int32), decode cX5_isRoll pc = .ok (.ireturn, 1) → r = o → narrow .boolean (.int r) = .int r → va_P (dC, dI) vwCl (wX5 cI cZ cJ cA h0 a x1 x3 x4 x5 x6 x7 x9 x10 x14 x15 x16 x19 x20 x21 x22 x23 x24 x41 x42 f0 f2 f8 f11 f12 f13 f17 f18 f25 f26 f27 f28 f29 f30 f31 f32 f33 f34 f35 f36 f37 f38 f39 f40 f43) H → va_D A (wX5 cI cZ cJ cA h0 a x1 x3 x4 x5 x6 x7 x9 x10 x14 x15 x16 x19 x20 x21 x22 x23 x24 x41 x42 f0 f2 f8 f11 f12 f13 f17 f18 f25 f26 f27 f28 f29 f30 f31 f32 f33 f34 f35 f36 f37 f38 f39 f40 f43) → va_S A s.heap H locs → W p l e R s m args below meth c H locs 0 0 Q (F0 m pc ls [.int r])) :
    W p l e R s m args below meth c H locs 0 0 Q (F0 m 0 ls []) := by
  obtain ⟨⟨hx, hb, hml, hown, hts⟩, hRf, hRl, hA, hN, hK⟩ := C0
  unfold q_X5_isRoll at hf
  refine lv_iconst (v := 0) hx hb dX5_isRoll_0 (by decide) ?_
  refine lv_istore_n (lv' := [(3, .int 0), (0, .ref h0), (1, .int v1), (2, .int v2)]) hx hb dX5_isRoll_1 rfl hl (by decide) rfl (fun ls hl => ?_)
  obtain ⟨t1, ht1, hf1⟩ := z_ib hf
  replace hf := hf1
  clear hf1
  refine b_X5_isRoll_L2 N ⟨⟨hx, hb, hml, hown, hts⟩, hRf, hRl, hA, hN, hK⟩ N ht1 hP hD hS (lv_sub hl [1, 2, 3, 0] rfl) (fun r3 e1 pc H locs ls r0 hd hr hn hP hD hS => ?_) (fun s2 H locs ls e1 hP hD hS hl => ?_)
  · subst e1
    have hf := z_sl hf
    obtain rfl := Option.some.inj hf
    exact hret pc H locs ls r0 hd hr hn hP hD hS
  subst e1
  replace hf := z_sr hf
  refine lv_iconst (v := 0) hx hb dX5_isRoll_42 (by decide) ?_
  refine lv_istore_n (lv' := [(3, .int 0), (0, .ref h0), (1, .int v1), (2, .int v2)]) hx hb dX5_isRoll_43 rfl hl (by decide) rfl (fun ls hl => ?_)
  obtain ⟨t4, ht4, hf1⟩ := z_ib hf
  replace hf := hf1
  clear hf1
  refine b_X5_isRoll_L44 N ⟨⟨hx, hb, hml, hown, hts⟩, hRf, hRl, hA, hN, hK⟩ N ht4 hP hD hS (lv_sub hl [1, 2, 3, 0] rfl) (fun r6 e1 pc H locs ls r0 hd hr hn hP hD hS => ?_) (fun s5 H locs ls e1 hP hD hS hl => ?_)
  · subst e1
    have hf := z_sl hf
    obtain rfl := Option.some.inj hf
    exact hret pc H locs ls r0 hd hr hn hP hD hS
  subst e1
  replace hf := z_sr hf
  refine lv_iconst (v := 1) hx hb dX5_isRoll_205 (by decide) ?_
  obtain rfl := Option.some.inj hf
  exact hret _ _ _ _ _ dX5_isRoll_206 rfl rfl hP hD hS
set_option maxHeartbeats 4000000 in
set_option maxRecDepth 100000 in
theorem k_X5_isRoll (l : Launch) (dC : Nat → ClassId) (dI : Nat → Nat → Nat) (cI cZ cJ cA : ClassId) (h0 : Nat) (a : Nat → Nat) (sz : Nat) (N : Nat) (v1 : Int32) (v2 : Int32) (x1 : Int32) (x3 : Int32) (x4 : Int32) (x5 : Int32) (x6 : Int32) (x7 : Int32) (x9 : Int32) (x10 : Int32) (x14 : Int32) (x15 : Int32) (x16 : Int32) (x19 : Int32) (x20 : Int32) (x21 : Int32) (x22 : Int32) (x23 : Int32) (x24 : Int32) (x41 : Int32) (x42 : Int32) (f0 : (Nat → Int32)) (f2 : (Nat → Int32)) (f8 : (Nat → Int32)) (f11 : (Nat → Int32)) (f12 : (Nat → Int32)) (f13 : (Nat → Int32)) (f17 : (Nat → Int32)) (f18 : (Nat → Int32)) (f25 : (Nat → Int32)) (f26 : (Nat → Int32)) (f27 : (Nat → Int32)) (f28 : (Nat → Int32)) (f29 : (Nat → Int32)) (f30 : (Nat → Int32)) (f31 : (Nat → Int32)) (f32 : (Nat → Int32)) (f33 : (Nat → Int32)) (f34 : (Nat → Int32)) (f35 : (Nat → Int32)) (f36 : (Nat → Int32)) (f37 : (Nat → Int32)) (f38 : (Nat → Int32)) (f39 : (Nat → Int32)) (f40 : (Nat → Int32)) (f43 : (Nat → Int32)) (o : Int32) (hf : q_X5_isRoll N v1 v2 x41 x42 f35 f36 f37 f38 f39 f40 = some o) : Met l yX5_isRoll wsX5_isRoll ({ frames := 1, cells := 0, slots := 0, locals := 25 } : Room) (z_Pre dC dI (z_ty cI cZ cJ cA) [.ref h0, .int v1, .int v2] sz (wX5 cI cZ cJ cA h0 a x1 x3 x4 x5 x6 x7 x9 x10 x14 x15 x16 x19 x20 x21 x22 x23 x24 x41 x42 f0 f2 f8 f11 f12 f13 f17 f18 f25 f26 f27 f28 f29 f30 f31 f32 f33 f34 f35 f36 f37 f38 f39 f40 f43)) (z_Pi dC dI o (wX5 cI cZ cJ cA h0 a x1 x3 x4 x5 x6 x7 x9 x10 x14 x15 x16 x19 x20 x21 x22 x23 x24 x41 x42 f0 f2 f8 f11 f12 f13 f17 f18 f25 f26 f27 f28 f29 f30 f31 f32 f33 f34 f35 f36 f37 f38 f39 f40 f43) sz (wX5 cI cZ cJ cA h0 a x1 x3 x4 x5 x6 x7 x9 x10 x14 x15 x16 x19 x20 x21 x22 x23 x24 x41 x42 f0 f2 f8 f11 f12 f13 f17 f18 f25 f26 f27 f28 f29 f30 f31 f32 f33 f34 f35 f36 f37 f38 f39 f40 f43)) 0 0 (va_A (wX5 cI cZ cJ cA h0 a x1 x3 x4 x5 x6 x7 x9 x10 x14 x15 x16 x19 x20 x21 x22 x23 x24 x41 x42 f0 f2 f8 f11 f12 f13 f17 f18 f25 f26 f27 f28 f29 f30 f31 f32 f33 f34 f35 f36 f37 f38 f39 f40 f43) sz) := by
  refine Met.ofW (cc := cX5_isRoll) (maxL := 8) (ret := (some .boolean)) (by decide) rfl ?_
  intro p e s m args below meth c s₁ B hml hv
  obtain ⟨rfl, hsz, hP, hK, hD0, hN⟩ := hv
  subst hsz
  have hl := lv_entry ([.ref h0, .int v1, .int v2]) (n := 8) (Nat.le_of_ble_eq_true rfl)
  rw [lg_entry_eq]
  refine b_X5_isRoll N ⟨⟨B.exec, B.bytes, hml, findClass_of_methodNamed B.named, atoms_spec (ws := wsX5_isRoll) B.pre⟩, Nat.le_refl _, Nat.le_refl _, fun q h => Or.inr h, hN, hK⟩ hf hP hD0.self va_S.rf hl (fun pc H locs ls r hd hr hn hP hD hS => ?_)
  subst hr
  exact W.zret B.exec B.bytes B.returns hn (fun t ht hW => ⟨⟨_, (), rfl, rfl, by rw [ht]; exact hP, hD⟩, hS.F ht⟩) hS.2.2 hd
def q_X5_rolls_L4 (N : Nat) (x41 : Int32) (x42 : Int32) (f35 : (Nat → Int32)) (f36 : (Nat → Int32)) (f37 : (Nat → Int32)) (f38 : (Nat → Int32)) (f39 : (Nat → Int32)) (f40 : (Nat → Int32)) : Nat → Int32 → Int32 → Option Int32
  | 0, _, _ => none
  | n + 1, v1, v2 =>
    (Option.bind (q_X5_codes N x41 f36 f37) (fun o1 =>
    (if o1 ≤ v2 then
     (some v1)
    else
     (Option.bind (q_X5_isRoll N v2 0 x41 x42 f35 f36 f37 f38 f39 f40) (fun o3 =>
     (if o3 = 0 then
      (q_X5_rolls_L4 N x41 x42 f35 f36 f37 f38 f39 f40 n v1 (v2 + 1))
     else
      (q_X5_rolls_L4 N x41 x42 f35 f36 f37 f38 f39 f40 n (v1 + 1) (v2 + 1))))))))
set_option maxHeartbeats 4000000 in
set_option maxRecDepth 100000 in
theorem b_X5_rolls_L4 {p : Program} {l : Launch} {e : Env} {R : Room} {s : State} {m : MethodId} {args : Array Value} {below : List Frame} {meth : Method} {c : Code} {Q : State → Prop} {A : Nat → Prop} {dC : Nat → ClassId} {dI : Nat → Nat → Nat} {cI cZ cJ cA : ClassId} {h0 : Nat} {a : Nat → Nat} (N : Nat) (C0 : z_Cx p s m args c cX5_rolls 3 wsX5_rolls RX5 R 2 52 A dC dI (z_ty cI cZ cJ cA)) : ∀ (n : Nat) {v1 : Int32} {v2 : Int32} {x1 : Int32} {x3 : Int32} {x4 : Int32} {x5 : Int32} {x6 : Int32} {x7 : Int32} {x9 : Int32} {x10 : Int32} {x14 : Int32} {x15 : Int32} {x16 : Int32} {x19 : Int32} {x20 : Int32} {x21 : Int32} {x22 : Int32} {x23 : Int32} {x24 : Int32} {x41 : Int32} {x42 : Int32} {f0 : (Nat → Int32)} {f2 : (Nat → Int32)} {f8 : (Nat → Int32)} {f11 : (Nat → Int32)} {f12 : (Nat → Int32)} {f13 : (Nat → Int32)} {f17 : (Nat → Int32)} {f18 : (Nat → Int32)} {f25 : (Nat → Int32)} {f26 : (Nat → Int32)} {f27 : (Nat → Int32)} {f28 : (Nat → Int32)} {f29 : (Nat → Int32)} {f30 : (Nat → Int32)} {f31 : (Nat → Int32)} {f32 : (Nat → Int32)} {f33 : (Nat → Int32)} {f34 : (Nat → Int32)} {f35 : (Nat → Int32)} {f36 : (Nat → Int32)} {f37 : (Nat → Int32)} {f38 : (Nat → Int32)} {f39 : (Nat → Int32)} {f40 : (Nat → Int32)} {f43 : (Nat → Int32)} {o : Int32} {H : Heap} {locs : List Loc} {ls : Array Slot}, q_X5_rolls_L4 N x41 x42 f35 f36 f37 f38 f39 f40 n v1 v2 = some o → va_P (dC, dI) vwCl (wX5 cI cZ cJ cA h0 a x1 x3 x4 x5 x6 x7 x9 x10 x14 x15 x16 x19 x20 x21 x22 x23 x24 x41 x42 f0 f2 f8 f11 f12 f13 f17 f18 f25 f26 f27 f28 f29 f30 f31 f32 f33 f34 f35 f36 f37 f38 f39 f40 f43) H → va_D A (wX5 cI cZ cJ cA h0 a x1 x3 x4 x5 x6 x7 x9 x10 x14 x15 x16 x19 x20 x21 x22 x23 x24 x41 x42 f0 f2 f8 f11 f12 f13 f17 f18 f25 f26 f27 f28 f29 f30 f31 f32 f33 f34 f35 f36 f37 f38 f39 f40 f43) → va_S A s.heap H locs → lv_has ls 3 [(0, .ref h0), (1, .int v1), (2, .int v2)] →
    (∀ (H : Heap) (locs : List Loc) (ls : Array Slot), va_P (dC, dI) vwCl (wX5 cI cZ cJ cA h0 a x1 x3 x4 x5 x6 x7 x9 x10 x14 x15 x16 x19 x20 x21 x22 x23 x24 x41 x42 f0 f2 f8 f11 f12 f13 f17 f18 f25 f26 f27 f28 f29 f30 f31 f32 f33 f34 f35 f36 f37 f38 f39 f40 f43) H → va_D A (wX5 cI cZ cJ cA h0 a x1 x3 x4 x5 x6 x7 x9 x10 x14 x15 x16 x19 x20 x21 x22 x23 x24 x41 x42 f0 f2 f8 f11 f12 f13 f17 f18 f25 f26 f27 f28 f29 f30 f31 f32 f33 f34 f35 f36 f37 f38 f39 f40 f43) → va_S A s.heap H locs → lv_has ls 3 [(1, .int o)] → W p l e R s m args below meth c H locs 0 0 Q (F0 m 30 ls [])) →
    W p l e R s m args below meth c H locs 0 0 Q (F0 m 4 ls []) := by
  obtain ⟨⟨hx, hb, hml, hown, hts⟩, hRf, hRl, hA, hN, hK⟩ := C0
  intro n
  induction n with
  | zero =>
    intro v1 v2 x1 x3 x4 x5 x6 x7 x9 x10 x14 x15 x16 x19 x20 x21 x22 x23 x24 x41 x42 f0 f2 f8 f11 f12 f13 f17 f18 f25 f26 f27 f28 f29 f30 f31 f32 f33 f34 f35 f36 f37 f38 f39 f40 f43 o H locs ls hf
    cases hf
  | succ n ih =>
    intro v1 v2 x1 x3 x4 x5 x6 x7 x9 x10 x14 x15 x16 x19 x20 x21 x22 x23 x24 x41 x42 f0 f2 f8 f11 f12 f13 f17 f18 f25 f26 f27 f28 f29 f30 f31 f32 f33 f34 f35 f36 f37 f38 f39 f40 f43 o H locs ls hf hP hD hS hl hexit
    rw [q_X5_rolls_L4] at hf
    refine lv_iload_n hx hb dX5_rolls_4 rfl (lv_at hl 2 rfl) ?_
    refine lv_aload_n hx hb dX5_rolls_5 rfl (lv_at hl 0 rfl) ?_
    obtain ⟨o1, ho1, hf1⟩ := z_ib hf
    replace hf := hf1
    clear hf1
    refine z_Vi (As := []) (rest := [.int v2]) (w := (wX5 cI cZ cJ cA h0 a x1 x3 x4 x5 x6 x7 x9 x10 x14 x15 x16 x19 x20 x21 x22 x23 x24 x41 x42 f0 f2 f8 f11 f12 f13 f17 f18 f25 f26 f27 f28 f29 f30 f31 f32 f33 f34 f35 f36 f37 f38 f39 f40 f43)) (w1 := (wX5 cI cZ cJ cA h0 a x1 x3 x4 x5 x6 x7 x9 x10 x14 x15 x16 x19 x20 x21 x22 x23 x24 x41 x42 f0 f2 f8 f11 f12 f13 f17 f18 f25 f26 f27 f28 f29 f30 f31 f32 f33 f34 f35 f36 f37 f38 f39 f40 f43)) ⟨hx, hb, hml, hown, hts⟩ (k_X5_codes l dC dI cI cZ cJ cA h0 a H.size N x1 x3 x4 x5 x6 x7 x9 x10 x14 x15 x16 x19 x20 x21 x22 x23 x24 x41 x42 f0 f2 f8 f11 f12 f13 f17 f18 f25 f26 f27 f28 f29 f30 f31 f32 f33 f34 f35 f36 f37 f38 f39 f40 f43 o1 ho1) (cwV 0 hts gX5_rolls_X5_codes rfl rfl rfl (by decide +kernel) ⟨Nat.le_trans (Nat.le_of_ble_eq_true rfl) hRf, Nat.le_trans (Nat.le_of_ble_eq_true rfl) hRl⟩) hK hP hD hS hA hN (ci := 5) rfl rfl rfl rfl hl.1 rfl (Nat.le_of_ble_eq_true rfl) dX5_rolls_6 (fun H locs hP hD hS => ?_)
    refine lv_icmp_ge (tgt := 30) hx hb dX5_rolls_9 (by decide) (fun c2 => ?_) (fun c2 => ?_)
    · replace hf := z_ip hf c2
      obtain rfl := Option.some.inj hf
      exact hexit _ _ _ hP hD hS (lv_sub hl [1] rfl)
    · replace hf := z_im hf c2
      refine lv_aload_n hx hb dX5_rolls_12 rfl (lv_at hl 0 rfl) ?_
      refine lv_iload_n hx hb dX5_rolls_13 rfl (lv_at hl 2 rfl) ?_
      refine lv_iconst (v := 0) hx hb dX5_rolls_14 (by decide) ?_
      obtain ⟨o3, ho3, hf1⟩ := z_ib hf
      replace hf := hf1
      clear hf1
      refine z_Vi (As := [.int v2, .int 0]) (rest := []) (w := (wX5 cI cZ cJ cA h0 a x1 x3 x4 x5 x6 x7 x9 x10 x14 x15 x16 x19 x20 x21 x22 x23 x24 x41 x42 f0 f2 f8 f11 f12 f13 f17 f18 f25 f26 f27 f28 f29 f30 f31 f32 f33 f34 f35 f36 f37 f38 f39 f40 f43)) (w1 := (wX5 cI cZ cJ cA h0 a x1 x3 x4 x5 x6 x7 x9 x10 x14 x15 x16 x19 x20 x21 x22 x23 x24 x41 x42 f0 f2 f8 f11 f12 f13 f17 f18 f25 f26 f27 f28 f29 f30 f31 f32 f33 f34 f35 f36 f37 f38 f39 f40 f43)) ⟨hx, hb, hml, hown, hts⟩ (k_X5_isRoll l dC dI cI cZ cJ cA h0 a H.size N v2 0 x1 x3 x4 x5 x6 x7 x9 x10 x14 x15 x16 x19 x20 x21 x22 x23 x24 x41 x42 f0 f2 f8 f11 f12 f13 f17 f18 f25 f26 f27 f28 f29 f30 f31 f32 f33 f34 f35 f36 f37 f38 f39 f40 f43 o3 ho3) (cwV 2 hts gX5_rolls_X5_isRoll rfl rfl rfl (by decide +kernel) ⟨Nat.le_trans (Nat.le_of_ble_eq_true rfl) hRf, Nat.le_trans (Nat.le_of_ble_eq_true rfl) hRl⟩) hK hP hD hS hA hN (ci := 5) rfl rfl rfl rfl hl.1 rfl (Nat.le_of_ble_eq_true rfl) dX5_rolls_15 (fun H locs hP hD hS => ?_)
      refine lv_if_eq (tgt := 24) hx hb dX5_rolls_18 (by decide) (fun c4 => ?_) (fun c4 => ?_)
      · replace hf := z_ip hf c4
        refine lv_iinc (v := (v2 + 1)) (lv' := [(2, .int (v2 + 1)), (0, .ref h0), (1, .int v1)]) hx hb dX5_rolls_24 hl (k := 2) rfl rfl (by decide) rfl (fun ls hl => ?_)
        refine lv_goto (tgt := 4) hx hb dX5_rolls_27 (by decide) ?_
        exact ih hf hP hD hS (lv_sub hl [1, 2, 0] rfl) hexit
      · replace hf := z_im hf c4
        refine lv_iinc (v := (v1 + 1)) (lv' := [(1, .int (v1 + 1)), (0, .ref h0), (2, .int v2)]) hx hb dX5_rolls_21 hl (k := 1) rfl rfl (by decide) rfl (fun ls hl => ?_)
        refine lv_iinc (v := (v2 + 1)) (lv' := [(2, .int (v2 + 1)), (1, .int (v1 + 1)), (0, .ref h0)]) hx hb dX5_rolls_24 hl (k := 2) rfl rfl (by decide) rfl (fun ls hl => ?_)
        refine lv_goto (tgt := 4) hx hb dX5_rolls_27 (by decide) ?_
        exact ih hf hP hD hS (lv_sub hl [2, 1, 0] rfl) hexit
def q_X5_rolls (N : Nat) (x41 : Int32) (x42 : Int32) (f35 : (Nat → Int32)) (f36 : (Nat → Int32)) (f37 : (Nat → Int32)) (f38 : (Nat → Int32)) (f39 : (Nat → Int32)) (f40 : (Nat → Int32)) : Option Int32 :=
  (Option.bind (q_X5_rolls_L4 N x41 x42 f35 f36 f37 f38 f39 f40 N 0 0) (fun t1 =>
  (some t1)))
set_option maxHeartbeats 4000000 in
set_option maxRecDepth 100000 in
theorem b_X5_rolls {p : Program} {l : Launch} {e : Env} {R : Room} {s : State} {m : MethodId} {args : Array Value} {below : List Frame} {meth : Method} {c : Code} {Q : State → Prop} {A : Nat → Prop} {dC : Nat → ClassId} {dI : Nat → Nat → Nat} {cI cZ cJ cA : ClassId} {h0 : Nat} {a : Nat → Nat} (N : Nat) (C0 : z_Cx p s m args c cX5_rolls 3 wsX5_rolls RX5 R 2 52 A dC dI (z_ty cI cZ cJ cA)) {x1 : Int32} {x3 : Int32} {x4 : Int32} {x5 : Int32} {x6 : Int32} {x7 : Int32} {x9 : Int32} {x10 : Int32} {x14 : Int32} {x15 : Int32} {x16 : Int32} {x19 : Int32} {x20 : Int32} {x21 : Int32} {x22 : Int32} {x23 : Int32} {x24 : Int32} {x41 : Int32} {x42 : Int32} {f0 : (Nat → Int32)} {f2 : (Nat → Int32)} {f8 : (Nat → Int32)} {f11 : (Nat → Int32)} {f12 : (Nat → Int32)} {f13 : (Nat → Int32)} {f17 : (Nat → Int32)} {f18 : (Nat → Int32)} {f25 : (Nat → Int32)} {f26 : (Nat → Int32)} {f27 : (Nat → Int32)} {f28 : (Nat → Int32)} {f29 : (Nat → Int32)} {f30 : (Nat → Int32)} {f31 : (Nat → Int32)} {f32 : (Nat → Int32)} {f33 : (Nat → Int32)} {f34 : (Nat → Int32)} {f35 : (Nat → Int32)} {f36 : (Nat → Int32)} {f37 : (Nat → Int32)} {f38 : (Nat → Int32)} {f39 : (Nat → Int32)} {f40 : (Nat → Int32)} {f43 : (Nat → Int32)} {o : Int32} {H : Heap} {locs : List Loc} {ls : Array Slot} (hf : q_X5_rolls N x41 x42 f35 f36 f37 f38 f39 f40 = some o) (hP : va_P (dC, dI) vwCl (wX5 cI cZ cJ cA h0 a x1 x3 x4 x5 x6 x7 x9 x10 x14 x15 x16 x19 x20 x21 x22 x23 x24 x41 x42 f0 f2 f8 f11 f12 f13 f17 f18 f25 f26 f27 f28 f29 f30 f31 f32 f33 f34 f35 f36 f37 f38 f39 f40 f43) H) (hD : va_D A (wX5 cI cZ cJ cA h0 a x1 x3 x4 x5 x6 x7 x9 x10 x14 x15 x16 x19 x20 x21 x22 x23 x24 x41 x42 f0 f2 f8 f11 f12 f13 f17 f18 f25 f26 f27 f28 f29 f30 f31 f32 f33 f34 f35 f36 f37 f38 f39 f40 f43)) (hS : va_S A s.heap H locs) (hl : lv_has ls 3 [(0, .ref h0)])
    (hret : ∀ (pc : Nat) (H : Heap) (locs : List Loc) (ls : Array Slot) (r : Int32), decode cX5_rolls pc = .ok (.ireturn, 1) → r = o → va_P (dC, dI) vwCl (wX5 cI cZ cJ cA h0 a x1 x3 x4 x5 x6 x7 x9 x10 x14 x15 x16 x19 x20 x21 x22 x23 x24 x41 x42 f0 f2 f8 f11 f12 f13 f17 f18 f25 f26 f27 f28 f29 f30 f31 f32 f33 f34 f35 f36 f37 f38 f39 f40 f43) H → va_D A (wX5 cI cZ cJ cA h0 a x1 x3 x4 x5 x6 x7 x9 x10 x14 x15 x16 x19 x20 x21 x22 x23 x24 x41 x42 f0 f2 f8 f11 f12 f13 f17 f18 f25 f26 f27 f28 f29 f30 f31 f32 f33 f34 f35 f36 f37 f38 f39 f40 f43) → va_S A s.heap H locs → W p l e R s m args below meth c H locs 0 0 Q (F0 m pc ls [.int r])) :
    W p l e R s m args below meth c H locs 0 0 Q (F0 m 0 ls []) := by
  obtain ⟨⟨hx, hb, hml, hown, hts⟩, hRf, hRl, hA, hN, hK⟩ := C0
  unfold q_X5_rolls at hf
  refine lv_iconst (v := 0) hx hb dX5_rolls_0 (by decide) ?_
  refine lv_istore_n (lv' := [(1, .int 0), (0, .ref h0)]) hx hb dX5_rolls_1 rfl hl (by decide) rfl (fun ls hl => ?_)
  refine lv_iconst (v := 0) hx hb dX5_rolls_2 (by decide) ?_
  refine lv_istore_n (lv' := [(2, .int 0), (1, .int 0), (0, .ref h0)]) hx hb dX5_rolls_3 rfl hl (by decide) rfl (fun ls hl => ?_)
  obtain ⟨t1, ht1, hf1⟩ := z_ib hf
  replace hf := hf1
  clear hf1
  refine b_X5_rolls_L4 N ⟨⟨hx, hb, hml, hown, hts⟩, hRf, hRl, hA, hN, hK⟩ N ht1 hP hD hS (lv_sub hl [2, 1, 0] rfl) (fun H locs ls hP hD hS hl => ?_)
  refine lv_iload_n hx hb dX5_rolls_30 rfl (lv_at hl 0 rfl) ?_
  obtain rfl := Option.some.inj hf
  exact hret _ _ _ _ _ dX5_rolls_31 rfl hP hD hS
set_option maxHeartbeats 4000000 in
set_option maxRecDepth 100000 in
theorem k_X5_rolls (l : Launch) (dC : Nat → ClassId) (dI : Nat → Nat → Nat) (cI cZ cJ cA : ClassId) (h0 : Nat) (a : Nat → Nat) (sz : Nat) (N : Nat) (x1 : Int32) (x3 : Int32) (x4 : Int32) (x5 : Int32) (x6 : Int32) (x7 : Int32) (x9 : Int32) (x10 : Int32) (x14 : Int32) (x15 : Int32) (x16 : Int32) (x19 : Int32) (x20 : Int32) (x21 : Int32) (x22 : Int32) (x23 : Int32) (x24 : Int32) (x41 : Int32) (x42 : Int32) (f0 : (Nat → Int32)) (f2 : (Nat → Int32)) (f8 : (Nat → Int32)) (f11 : (Nat → Int32)) (f12 : (Nat → Int32)) (f13 : (Nat → Int32)) (f17 : (Nat → Int32)) (f18 : (Nat → Int32)) (f25 : (Nat → Int32)) (f26 : (Nat → Int32)) (f27 : (Nat → Int32)) (f28 : (Nat → Int32)) (f29 : (Nat → Int32)) (f30 : (Nat → Int32)) (f31 : (Nat → Int32)) (f32 : (Nat → Int32)) (f33 : (Nat → Int32)) (f34 : (Nat → Int32)) (f35 : (Nat → Int32)) (f36 : (Nat → Int32)) (f37 : (Nat → Int32)) (f38 : (Nat → Int32)) (f39 : (Nat → Int32)) (f40 : (Nat → Int32)) (f43 : (Nat → Int32)) (o : Int32) (hf : q_X5_rolls N x41 x42 f35 f36 f37 f38 f39 f40 = some o) : Met l yX5_rolls wsX5_rolls ({ frames := 2, cells := 0, slots := 0, locals := 52 } : Room) (z_Pre dC dI (z_ty cI cZ cJ cA) [.ref h0] sz (wX5 cI cZ cJ cA h0 a x1 x3 x4 x5 x6 x7 x9 x10 x14 x15 x16 x19 x20 x21 x22 x23 x24 x41 x42 f0 f2 f8 f11 f12 f13 f17 f18 f25 f26 f27 f28 f29 f30 f31 f32 f33 f34 f35 f36 f37 f38 f39 f40 f43)) (z_Pi dC dI o (wX5 cI cZ cJ cA h0 a x1 x3 x4 x5 x6 x7 x9 x10 x14 x15 x16 x19 x20 x21 x22 x23 x24 x41 x42 f0 f2 f8 f11 f12 f13 f17 f18 f25 f26 f27 f28 f29 f30 f31 f32 f33 f34 f35 f36 f37 f38 f39 f40 f43) sz (wX5 cI cZ cJ cA h0 a x1 x3 x4 x5 x6 x7 x9 x10 x14 x15 x16 x19 x20 x21 x22 x23 x24 x41 x42 f0 f2 f8 f11 f12 f13 f17 f18 f25 f26 f27 f28 f29 f30 f31 f32 f33 f34 f35 f36 f37 f38 f39 f40 f43)) 0 0 (va_A (wX5 cI cZ cJ cA h0 a x1 x3 x4 x5 x6 x7 x9 x10 x14 x15 x16 x19 x20 x21 x22 x23 x24 x41 x42 f0 f2 f8 f11 f12 f13 f17 f18 f25 f26 f27 f28 f29 f30 f31 f32 f33 f34 f35 f36 f37 f38 f39 f40 f43) sz) := by
  refine Met.ofW (cc := cX5_rolls) (maxL := 3) (ret := (some .int)) (by decide) rfl ?_
  intro p e s m args below meth c s₁ B hml hv
  obtain ⟨rfl, hsz, hP, hK, hD0, hN⟩ := hv
  subst hsz
  have hl := lv_entry ([.ref h0]) (n := 3) (Nat.le_of_ble_eq_true rfl)
  rw [lg_entry_eq]
  refine b_X5_rolls N ⟨⟨B.exec, B.bytes, hml, findClass_of_methodNamed B.named, atoms_spec (ws := wsX5_rolls) B.pre⟩, Nat.le_refl _, Nat.le_refl _, fun q h => Or.inr h, hN, hK⟩ hf hP hD0.self va_S.rf hl (fun pc H locs ls r hd hr hP hD hS => ?_)
  subst hr
  exact W.iret B.exec B.bytes B.returns (fun t ht hW => ⟨⟨_, (), rfl, rfl, by rw [ht]; exact hP, hD⟩, hS.F ht⟩) hS.2.2 hd
def q_X5_year_L30 (N : Nat) (v1 : Int32) (v5 : Int32) (x41 : Int32) (x42 : Int32) (f35 : (Nat → Int32)) (f36 : (Nat → Int32)) (f37 : (Nat → Int32)) (f38 : (Nat → Int32)) (f39 : (Nat → Int32)) (f40 : (Nat → Int32)) : Nat → Int64 → Int32 → Option Int64
  | 0, _, _ => none
  | n + 1, v3, v6 =>
    (if v5 ≤ v6 then
     (some v3)
    else
     (Option.bind (q_X5_isRoll N v6 0 x41 x42 f35 f36 f37 f38 f39 f40) (fun o2 =>
     (if o2 = 0 then
      (q_X5_year_L30 N v1 v5 x41 x42 f35 f36 f37 f38 f39 f40 n v3 (v6 + 1))
     else
      (Option.bind (q_X5_yearOf N v6 v1 f36 f37) (fun o4 =>
      (q_X5_year_L30 N v1 v5 x41 x42 f35 f36 f37 f38 f39 f40 n (v3 ||| (z_lshl 1 o4)) (v6 + 1))))))))
set_option maxHeartbeats 4000000 in
set_option maxRecDepth 100000 in
theorem b_X5_year_L30 {p : Program} {l : Launch} {e : Env} {R : Room} {s : State} {m : MethodId} {args : Array Value} {below : List Frame} {meth : Method} {c : Code} {Q : State → Prop} {A : Nat → Prop} {dC : Nat → ClassId} {dI : Nat → Nat → Nat} {cI cZ cJ cA : ClassId} {h0 : Nat} {a : Nat → Nat} (N : Nat) (C0 : z_Cx p s m args c cX5_year 7 wsX5_year RX5 R 2 52 A dC dI (z_ty cI cZ cJ cA)) : ∀ (n : Nat) {v1 : Int32} {v2 : Int32} {v3 : Int64} {v5 : Int32} {v6 : Int32} {x1 : Int32} {x3 : Int32} {x4 : Int32} {x5 : Int32} {x6 : Int32} {x7 : Int32} {x9 : Int32} {x10 : Int32} {x14 : Int32} {x15 : Int32} {x16 : Int32} {x19 : Int32} {x20 : Int32} {x21 : Int32} {x22 : Int32} {x23 : Int32} {x24 : Int32} {x41 : Int32} {x42 : Int32} {f0 : (Nat → Int32)} {f2 : (Nat → Int32)} {f8 : (Nat → Int32)} {f11 : (Nat → Int32)} {f12 : (Nat → Int32)} {f13 : (Nat → Int32)} {f17 : (Nat → Int32)} {f18 : (Nat → Int32)} {f25 : (Nat → Int32)} {f26 : (Nat → Int32)} {f27 : (Nat → Int32)} {f28 : (Nat → Int32)} {f29 : (Nat → Int32)} {f30 : (Nat → Int32)} {f31 : (Nat → Int32)} {f32 : (Nat → Int32)} {f33 : (Nat → Int32)} {f34 : (Nat → Int32)} {f35 : (Nat → Int32)} {f36 : (Nat → Int32)} {f37 : (Nat → Int32)} {f38 : (Nat → Int32)} {f39 : (Nat → Int32)} {f40 : (Nat → Int32)} {f43 : (Nat → Int32)} {o : Int64} {H : Heap} {locs : List Loc} {ls : Array Slot}, q_X5_year_L30 N v1 v5 x41 x42 f35 f36 f37 f38 f39 f40 n v3 v6 = some o → va_P (dC, dI) vwCl (wX5 cI cZ cJ cA h0 a x1 x3 x4 x5 x6 x7 x9 x10 x14 x15 x16 x19 x20 x21 x22 x23 x24 x41 x42 f0 f2 f8 f11 f12 f13 f17 f18 f25 f26 f27 f28 f29 f30 f31 f32 f33 f34 f35 f36 f37 f38 f39 f40 f43) H → va_D A (wX5 cI cZ cJ cA h0 a x1 x3 x4 x5 x6 x7 x9 x10 x14 x15 x16 x19 x20 x21 x22 x23 x24 x41 x42 f0 f2 f8 f11 f12 f13 f17 f18 f25 f26 f27 f28 f29 f30 f31 f32 f33 f34 f35 f36 f37 f38 f39 f40 f43) → va_S A s.heap H locs → lv_has ls 7 [(0, .ref h0), (1, .int v1), (2, .int v2), (3, .long v3), (5, .int v5), (6, .int v6)] →
    (∀ (H : Heap) (locs : List Loc) (ls : Array Slot), va_P (dC, dI) vwCl (wX5 cI cZ cJ cA h0 a x1 x3 x4 x5 x6 x7 x9 x10 x14 x15 x16 x19 x20 x21 x22 x23 x24 x41 x42 f0 f2 f8 f11 f12 f13 f17 f18 f25 f26 f27 f28 f29 f30 f31 f32 f33 f34 f35 f36 f37 f38 f39 f40 f43) H → va_D A (wX5 cI cZ cJ cA h0 a x1 x3 x4 x5 x6 x7 x9 x10 x14 x15 x16 x19 x20 x21 x22 x23 x24 x41 x42 f0 f2 f8 f11 f12 f13 f17 f18 f25 f26 f27 f28 f29 f30 f31 f32 f33 f34 f35 f36 f37 f38 f39 f40 f43) → va_S A s.heap H locs → lv_has ls 7 [(2, .int v2), (3, .long o)] → W p l e R s m args below meth c H locs 0 0 Q (F0 m 65 ls [])) →
    W p l e R s m args below meth c H locs 0 0 Q (F0 m 30 ls []) := by
  obtain ⟨⟨hx, hb, hml, hown, hts⟩, hRf, hRl, hA, hN, hK⟩ := C0
  intro n
  induction n with
  | zero =>
    intro v1 v2 v3 v5 v6 x1 x3 x4 x5 x6 x7 x9 x10 x14 x15 x16 x19 x20 x21 x22 x23 x24 x41 x42 f0 f2 f8 f11 f12 f13 f17 f18 f25 f26 f27 f28 f29 f30 f31 f32 f33 f34 f35 f36 f37 f38 f39 f40 f43 o H locs ls hf
    cases hf
  | succ n ih =>
    intro v1 v2 v3 v5 v6 x1 x3 x4 x5 x6 x7 x9 x10 x14 x15 x16 x19 x20 x21 x22 x23 x24 x41 x42 f0 f2 f8 f11 f12 f13 f17 f18 f25 f26 f27 f28 f29 f30 f31 f32 f33 f34 f35 f36 f37 f38 f39 f40 f43 o H locs ls hf hP hD hS hl hexit
    rw [q_X5_year_L30] at hf
    refine lv_iload hx hb dX5_year_30 (lv_at hl 5 rfl) ?_
    refine lv_iload hx hb dX5_year_32 (lv_at hl 4 rfl) ?_
    refine lv_icmp_ge (tgt := 65) hx hb dX5_year_34 (by decide) (fun c1 => ?_) (fun c1 => ?_)
    · replace hf := z_ip hf c1
      obtain rfl := Option.some.inj hf
      exact hexit _ _ _ hP hD hS (lv_sub hl [2, 3] rfl)
    · replace hf := z_im hf c1
      refine lv_aload_n hx hb dX5_year_37 rfl (lv_at hl 0 rfl) ?_
      refine lv_iload hx hb dX5_year_38 (lv_at hl 5 rfl) ?_
      refine lv_iconst (v := 0) hx hb dX5_year_40 (by decide) ?_
      obtain ⟨o2, ho2, hf1⟩ := z_ib hf
      replace hf := hf1
      clear hf1
      refine z_Vi (As := [.int v6, .int 0]) (rest := []) (w := (wX5 cI cZ cJ cA h0 a x1 x3 x4 x5 x6 x7 x9 x10 x14 x15 x16 x19 x20 x21 x22 x23 x24 x41 x42 f0 f2 f8 f11 f12 f13 f17 f18 f25 f26 f27 f28 f29 f30 f31 f32 f33 f34 f35 f36 f37 f38 f39 f40 f43)) (w1 := (wX5 cI cZ cJ cA h0 a x1 x3 x4 x5 x6 x7 x9 x10 x14 x15 x16 x19 x20 x21 x22 x23 x24 x41 x42 f0 f2 f8 f11 f12 f13 f17 f18 f25 f26 f27 f28 f29 f30 f31 f32 f33 f34 f35 f36 f37 f38 f39 f40 f43)) ⟨hx, hb, hml, hown, hts⟩ (k_X5_isRoll l dC dI cI cZ cJ cA h0 a H.size N v6 0 x1 x3 x4 x5 x6 x7 x9 x10 x14 x15 x16 x19 x20 x21 x22 x23 x24 x41 x42 f0 f2 f8 f11 f12 f13 f17 f18 f25 f26 f27 f28 f29 f30 f31 f32 f33 f34 f35 f36 f37 f38 f39 f40 f43 o2 ho2) (cwV 2 hts gX5_year_X5_isRoll rfl rfl rfl (by decide +kernel) ⟨Nat.le_trans (Nat.le_of_ble_eq_true rfl) hRf, Nat.le_trans (Nat.le_of_ble_eq_true rfl) hRl⟩) hK hP hD hS hA hN (ci := 5) rfl rfl rfl rfl hl.1 rfl (Nat.le_of_ble_eq_true rfl) dX5_year_41 (fun H locs hP hD hS => ?_)
      refine lv_if_eq (tgt := 59) hx hb dX5_year_44 (by decide) (fun c3 => ?_) (fun c3 => ?_)
      · replace hf := z_ip hf c3
        refine lv_iinc (v := (v6 + 1)) (lv' := [(6, .int (v6 + 1)), (0, .ref h0), (1, .int v1), (2, .int v2), (3, .long v3), (5, .int v5)]) hx hb dX5_year_59 hl (k := 5) rfl rfl (by decide) rfl (fun ls hl => ?_)
        refine lv_goto (tgt := 30) hx hb dX5_year_62 (by decide) ?_
        exact ih hf hP hD hS (lv_sub hl [1, 2, 3, 4, 5, 0] rfl) hexit
      · replace hf := z_im hf c3
        refine lv_lload_n hx hb dX5_year_47 rfl (lv_at hl 3 rfl) ?_
        refine lv_lconst (v := 1) hx hb dX5_year_48 (by decide) ?_
        refine lv_aload_n hx hb dX5_year_49 rfl (lv_at hl 0 rfl) ?_
        refine lv_iload hx hb dX5_year_50 (lv_at hl 5 rfl) ?_
        refine lv_iload_n hx hb dX5_year_52 rfl (lv_at hl 1 rfl) ?_
        obtain ⟨o4, ho4, hf1⟩ := z_ib hf
        replace hf := hf1
        clear hf1
        refine z_Vi (As := [.int v6, .int v1]) (rest := [.long 1, .long v3]) (w := (wX5 cI cZ cJ cA h0 a x1 x3 x4 x5 x6 x7 x9 x10 x14 x15 x16 x19 x20 x21 x22 x23 x24 x41 x42 f0 f2 f8 f11 f12 f13 f17 f18 f25 f26 f27 f28 f29 f30 f31 f32 f33 f34 f35 f36 f37 f38 f39 f40 f43)) (w1 := (wX5 cI cZ cJ cA h0 a x1 x3 x4 x5 x6 x7 x9 x10 x14 x15 x16 x19 x20 x21 x22 x23 x24 x41 x42 f0 f2 f8 f11 f12 f13 f17 f18 f25 f26 f27 f28 f29 f30 f31 f32 f33 f34 f35 f36 f37 f38 f39 f40 f43)) ⟨hx, hb, hml, hown, hts⟩ (k_X5_yearOf l dC dI cI cZ cJ cA h0 a H.size N v6 v1 x1 x3 x4 x5 x6 x7 x9 x10 x14 x15 x16 x19 x20 x21 x22 x23 x24 x41 x42 f0 f2 f8 f11 f12 f13 f17 f18 f25 f26 f27 f28 f29 f30 f31 f32 f33 f34 f35 f36 f37 f38 f39 f40 f43 o4 ho4) (cwV 2 hts gX5_year_X5_yearOf rfl rfl rfl (by decide +kernel) ⟨Nat.le_trans (Nat.le_of_ble_eq_true rfl) hRf, Nat.le_trans (Nat.le_of_ble_eq_true rfl) hRl⟩) hK hP hD hS hA hN (ci := 5) rfl rfl rfl rfl hl.1 rfl (Nat.le_of_ble_eq_true rfl) dX5_year_53 (fun H locs hP hD hS => ?_)
        refine z_lsh hx hb dX5_year_56 ?_
        refine lv_lor hx hb dX5_year_57 ?_
        refine lv_lstore_n (lv' := [(3, .long (v3 ||| (z_lshl 1 o4))), (0, .ref h0), (1, .int v1), (2, .int v2), (5, .int v5), (6, .int v6)]) hx hb dX5_year_58 rfl hl (by decide) rfl (fun ls hl => ?_)
        refine lv_iinc (v := (v6 + 1)) (lv' := [(6, .int (v6 + 1)), (3, .long (v3 ||| (z_lshl 1 o4))), (0, .ref h0), (1, .int v1), (2, .int v2), (5, .int v5)]) hx hb dX5_year_59 hl (k := 5) rfl rfl (by decide) rfl (fun ls hl => ?_)
        refine lv_goto (tgt := 30) hx hb dX5_year_62 (by decide) ?_
        exact ih hf hP hD hS (lv_sub hl [2, 3, 4, 1, 5, 0] rfl) hexit
def q_X5_year (N : Nat) (v1 : Int32) (v2 : Int32) (x41 : Int32) (x42 : Int32) (f35 : (Nat → Int32)) (f36 : (Nat → Int32)) (f37 : (Nat → Int32)) (f38 : (Nat → Int32)) (f39 : (Nat → Int32)) (f40 : (Nat → Int32)) : Option Int32 :=
  (Option.bind (q_X5_isStone N v1 x41) (fun o1 =>
  (if o1 = 0 then
   (some (-1))
  else
   (Option.bind (q_X5_in N v2 0 2) (fun o3 =>
   (if o3 = 0 then
    (some (-1))
   else
    (Option.bind (q_X5_codes N x41 f36 f37) (fun o5 =>
    (Option.bind (q_X5_year_L30 N v1 o5 x41 x42 f35 f36 f37 f38 f39 f40 N 0 0) (fun t6 =>
    (if (lg_cmp t6 0) = 0 then
     (some (-1))
    else
     (if v2 = 0 then
      (Option.bind (q_J13_numberOfTrailingZeros_95d88 N t6) (fun o12 =>
      (some o12)))
     else
      (if v2 = 1 then
       (Option.bind (q_J13_numberOfLeadingZeros_95d88 N t6) (fun o11 =>
       (some (63 - o11))))
      else
       (Option.bind (q_J13_bitCount_95d88 N t6) (fun o10 =>
       (some o10))))))))))))))))
set_option maxHeartbeats 4000000 in
set_option maxRecDepth 100000 in
theorem b_X5_year {p : Program} {l : Launch} {e : Env} {R : Room} {s : State} {m : MethodId} {args : Array Value} {below : List Frame} {meth : Method} {c : Code} {Q : State → Prop} {A : Nat → Prop} {dC : Nat → ClassId} {dI : Nat → Nat → Nat} {cI cZ cJ cA : ClassId} {h0 : Nat} {a : Nat → Nat} (N : Nat) (C0 : z_Cx p s m args c cX5_year 7 wsX5_year RX5 R 2 52 A dC dI (z_ty cI cZ cJ cA)) {v1 : Int32} {v2 : Int32} {x1 : Int32} {x3 : Int32} {x4 : Int32} {x5 : Int32} {x6 : Int32} {x7 : Int32} {x9 : Int32} {x10 : Int32} {x14 : Int32} {x15 : Int32} {x16 : Int32} {x19 : Int32} {x20 : Int32} {x21 : Int32} {x22 : Int32} {x23 : Int32} {x24 : Int32} {x41 : Int32} {x42 : Int32} {f0 : (Nat → Int32)} {f2 : (Nat → Int32)} {f8 : (Nat → Int32)} {f11 : (Nat → Int32)} {f12 : (Nat → Int32)} {f13 : (Nat → Int32)} {f17 : (Nat → Int32)} {f18 : (Nat → Int32)} {f25 : (Nat → Int32)} {f26 : (Nat → Int32)} {f27 : (Nat → Int32)} {f28 : (Nat → Int32)} {f29 : (Nat → Int32)} {f30 : (Nat → Int32)} {f31 : (Nat → Int32)} {f32 : (Nat → Int32)} {f33 : (Nat → Int32)} {f34 : (Nat → Int32)} {f35 : (Nat → Int32)} {f36 : (Nat → Int32)} {f37 : (Nat → Int32)} {f38 : (Nat → Int32)} {f39 : (Nat → Int32)} {f40 : (Nat → Int32)} {f43 : (Nat → Int32)} {o : Int32} {H : Heap} {locs : List Loc} {ls : Array Slot} (hf : q_X5_year N v1 v2 x41 x42 f35 f36 f37 f38 f39 f40 = some o) (hP : va_P (dC, dI) vwCl (wX5 cI cZ cJ cA h0 a x1 x3 x4 x5 x6 x7 x9 x10 x14 x15 x16 x19 x20 x21 x22 x23 x24 x41 x42 f0 f2 f8 f11 f12 f13 f17 f18 f25 f26 f27 f28 f29 f30 f31 f32 f33 f34 f35 f36 f37 f38 f39 f40 f43) H) (hD : va_D A (wX5 cI cZ cJ cA h0 a x1 x3 x4 x5 x6 x7 x9 x10 x14 x15 x16 x19 x20 x21 x22 x23 x24 x41 x42 f0 f2 f8 f11 f12 f13 f17 f18 f25 f26 f27 f28 f29 f30 f31 f32 f33 f34 f35 f36 f37 f38 f39 f40 f43)) (hS : va_S A s.heap H locs) (hl : lv_has ls 7 [(0, .ref h0), (1, .int v1), (2, .int v2)])
    (hret : ∀ (pc : Nat) (H : Heap) (locs : List Loc) (ls : Array Slot) (r : Int32), decode cX5_year pc = .ok (.ireturn, 1) → r = o → va_P (dC, dI) vwCl (wX5 cI cZ cJ cA h0 a x1 x3 x4 x5 x6 x7 x9 x10 x14 x15 x16 x19 x20 x21 x22 x23 x24 x41 x42 f0 f2 f8 f11 f12 f13 f17 f18 f25 f26 f27 f28 f29 f30 f31 f32 f33 f34 f35 f36 f37 f38 f39 f40 f43) H → va_D A (wX5 cI cZ cJ cA h0 a x1 x3 x4 x5 x6 x7 x9 x10 x14 x15 x16 x19 x20 x21 x22 x23 x24 x41 x42 f0 f2 f8 f11 f12 f13 f17 f18 f25 f26 f27 f28 f29 f30 f31 f32 f33 f34 f35 f36 f37 f38 f39 f40 f43) → va_S A s.heap H locs → W p l e R s m args below meth c H locs 0 0 Q (F0 m pc ls [.int r])) :
    W p l e R s m args below meth c H locs 0 0 Q (F0 m 0 ls []) := by
  obtain ⟨⟨hx, hb, hml, hown, hts⟩, hRf, hRl, hA, hN, hK⟩ := C0
  unfold q_X5_year at hf
  refine lv_aload_n hx hb dX5_year_0 rfl (lv_at hl 0 rfl) ?_
  refine lv_iload_n hx hb dX5_year_1 rfl (lv_at hl 1 rfl) ?_
  obtain ⟨o1, ho1, hf1⟩ := z_ib hf
  replace hf := hf1
  clear hf1
  refine z_Vi (As := [.int v1]) (rest := []) (w := (wX5 cI cZ cJ cA h0 a x1 x3 x4 x5 x6 x7 x9 x10 x14 x15 x16 x19 x20 x21 x22 x23 x24 x41 x42 f0 f2 f8 f11 f12 f13 f17 f18 f25 f26 f27 f28 f29 f30 f31 f32 f33 f34 f35 f36 f37 f38 f39 f40 f43)) (w1 := (wX5 cI cZ cJ cA h0 a x1 x3 x4 x5 x6 x7 x9 x10 x14 x15 x16 x19 x20 x21 x22 x23 x24 x41 x42 f0 f2 f8 f11 f12 f13 f17 f18 f25 f26 f27 f28 f29 f30 f31 f32 f33 f34 f35 f36 f37 f38 f39 f40 f43)) ⟨hx, hb, hml, hown, hts⟩ (k_X5_isStone l dC dI cI cZ cJ cA h0 a H.size N v1 x1 x3 x4 x5 x6 x7 x9 x10 x14 x15 x16 x19 x20 x21 x22 x23 x24 x41 x42 f0 f2 f8 f11 f12 f13 f17 f18 f25 f26 f27 f28 f29 f30 f31 f32 f33 f34 f35 f36 f37 f38 f39 f40 f43 o1 ho1) (cwV 1 hts gX5_year_X5_isStone rfl rfl rfl (by decide +kernel) ⟨Nat.le_trans (Nat.le_of_ble_eq_true rfl) hRf, Nat.le_trans (Nat.le_of_ble_eq_true rfl) hRl⟩) hK hP hD hS hA hN (ci := 5) rfl rfl rfl rfl hl.1 rfl (Nat.le_of_ble_eq_true rfl) dX5_year_2 (fun H locs hP hD hS => ?_)
  refine lv_if_eq (tgt := 17) hx hb dX5_year_5 (by decide) (fun c2 => ?_) (fun c2 => ?_)
  · replace hf := z_ip hf c2
    refine lv_iconst (v := (-1)) hx hb dX5_year_17 (by decide) ?_
    obtain rfl := Option.some.inj hf
    exact hret _ _ _ _ _ dX5_year_18 rfl hP hD hS
  · replace hf := z_im hf c2
    refine lv_iload_n hx hb dX5_year_8 rfl (lv_at hl 2 rfl) ?_
    refine lv_iconst (v := 0) hx hb dX5_year_9 (by decide) ?_
    refine lv_iconst (v := 2) hx hb dX5_year_10 (by decide) ?_
    obtain ⟨o3, ho3, hf1⟩ := z_ib hf
    replace hf := hf1
    clear hf1
    refine z_S0 (As := [.int v2, .int 0, .int 2]) (rest := []) ⟨hx, hb, hml, hown, hts⟩ (k_X5_in l dC dI cI cZ cJ cA H.size N v2 0 2 o3 ho3) (va_cwS 3 hts gX5_year_X5_in rfl rfl rfl (by decide +kernel) ⟨Nat.le_trans (Nat.le_of_ble_eq_true rfl) hRf, Nat.le_trans (Nat.le_of_ble_eq_true rfl) hRl⟩) hK hP hS hA hN rfl hl.1 rfl (Nat.le_of_ble_eq_true rfl) dX5_year_11 (fun H locs hP hS => ?_)
    refine lv_if_ne (tgt := 19) hx hb dX5_year_14 (by decide) (fun c4 => ?_) (fun c4 => ?_)
    · replace hf := z_im hf c4
      refine lv_lconst (v := 0) hx hb dX5_year_19 (by decide) ?_
      refine lv_lstore_n (lv' := [(3, .long 0), (0, .ref h0), (1, .int v1), (2, .int v2)]) hx hb dX5_year_20 rfl hl (by decide) rfl (fun ls hl => ?_)
      refine lv_aload_n hx hb dX5_year_21 rfl (lv_at hl 1 rfl) ?_
      obtain ⟨o5, ho5, hf1⟩ := z_ib hf
      replace hf := hf1
      clear hf1
      refine z_Vi (As := []) (rest := []) (w := (wX5 cI cZ cJ cA h0 a x1 x3 x4 x5 x6 x7 x9 x10 x14 x15 x16 x19 x20 x21 x22 x23 x24 x41 x42 f0 f2 f8 f11 f12 f13 f17 f18 f25 f26 f27 f28 f29 f30 f31 f32 f33 f34 f35 f36 f37 f38 f39 f40 f43)) (w1 := (wX5 cI cZ cJ cA h0 a x1 x3 x4 x5 x6 x7 x9 x10 x14 x15 x16 x19 x20 x21 x22 x23 x24 x41 x42 f0 f2 f8 f11 f12 f13 f17 f18 f25 f26 f27 f28 f29 f30 f31 f32 f33 f34 f35 f36 f37 f38 f39 f40 f43)) ⟨hx, hb, hml, hown, hts⟩ (k_X5_codes l dC dI cI cZ cJ cA h0 a H.size N x1 x3 x4 x5 x6 x7 x9 x10 x14 x15 x16 x19 x20 x21 x22 x23 x24 x41 x42 f0 f2 f8 f11 f12 f13 f17 f18 f25 f26 f27 f28 f29 f30 f31 f32 f33 f34 f35 f36 f37 f38 f39 f40 f43 o5 ho5) (cwV 0 hts gX5_year_X5_codes rfl rfl rfl (by decide +kernel) ⟨Nat.le_trans (Nat.le_of_ble_eq_true rfl) hRf, Nat.le_trans (Nat.le_of_ble_eq_true rfl) hRl⟩) hK hP hD hS hA hN (ci := 5) rfl rfl rfl rfl hl.1 rfl (Nat.le_of_ble_eq_true rfl) dX5_year_22 (fun H locs hP hD hS => ?_)
      refine lv_istore (lv' := [(5, .int o5), (3, .long 0), (0, .ref h0), (1, .int v1), (2, .int v2)]) hx hb dX5_year_25 hl (by decide) rfl (fun ls hl => ?_)
      refine lv_iconst (v := 0) hx hb dX5_year_27 (by decide) ?_
      refine lv_istore (lv' := [(6, .int 0), (5, .int o5), (3, .long 0), (0, .ref h0), (1, .int v1), (2, .int v2)]) hx hb dX5_year_28 hl (by decide) rfl (fun ls hl => ?_)
      obtain ⟨t6, ht6, hf1⟩ := z_ib hf
      replace hf := hf1
      clear hf1
      refine b_X5_year_L30 N ⟨⟨hx, hb, hml, hown, hts⟩, hRf, hRl, hA, hN, hK⟩ N ht6 hP hD hS (lv_sub hl [3, 4, 5, 2, 1, 0] rfl) (fun H locs ls hP hD hS hl => ?_)
      refine lv_lload_n hx hb dX5_year_65 rfl (lv_at hl 1 rfl) ?_
      refine lv_lconst (v := 0) hx hb dX5_year_66 (by decide) ?_
      refine W.lcmp hx hb dX5_year_67 ?_
      refine lv_if_ne (tgt := 73) hx hb dX5_year_68 (by decide) (fun c7 => ?_) (fun c7 => ?_)
      · replace hf := z_im hf c7
        refine lv_iload_n hx hb dX5_year_73 rfl (lv_at hl 0 rfl) ?_
        refine lv_if_ne (tgt := 84) hx hb dX5_year_74 (by decide) (fun c8 => ?_) (fun c8 => ?_)
        · replace hf := z_im hf c8
          refine lv_iload_n hx hb dX5_year_84 rfl (lv_at hl 0 rfl) ?_
          refine lv_iconst (v := 1) hx hb dX5_year_85 (by decide) ?_
          refine lv_icmp_ne (tgt := 99) hx hb dX5_year_86 (by decide) (fun c9 => ?_) (fun c9 => ?_)
          · replace hf := z_im hf c9
            refine lv_lload_n hx hb dX5_year_99 rfl (lv_at hl 1 rfl) ?_
            obtain ⟨o10, ho10, hf1⟩ := z_ib hf
            replace hf := hf1
            clear hf1
            refine z_S0 (As := [.long t6]) (rest := []) ⟨hx, hb, hml, hown, hts⟩ (k_J13_bitCount_95d88 l dC dI cI cZ cJ cA H.size N t6 o10 ho10) (va_cwS 1 hts gX5_year_J13_bitCount_95d88 rfl rfl rfl (by decide +kernel) ⟨Nat.le_trans (Nat.le_of_ble_eq_true rfl) hRf, Nat.le_trans (Nat.le_of_ble_eq_true rfl) hRl⟩) hK hP hS hA hN rfl hl.1 rfl (Nat.le_of_ble_eq_true rfl) dX5_year_100 (fun H locs hP hS => ?_)
            obtain rfl := Option.some.inj hf
            exact hret _ _ _ _ _ dX5_year_103 rfl hP hD hS
          · replace hf := z_ip hf c9
            refine lv_bipush (v := 63) hx hb dX5_year_89 (by decide) ?_
            refine lv_lload_n hx hb dX5_year_91 rfl (lv_at hl 1 rfl) ?_
            obtain ⟨o11, ho11, hf1⟩ := z_ib hf
            replace hf := hf1
            clear hf1
            refine z_S0 (As := [.long t6]) (rest := [.int 63]) ⟨hx, hb, hml, hown, hts⟩ (k_J13_numberOfLeadingZeros_95d88 l dC dI cI cZ cJ cA H.size N t6 o11 ho11) (va_cwS 1 hts gX5_year_J13_numberOfLeadingZeros_95d88 rfl rfl rfl (by decide +kernel) ⟨Nat.le_trans (Nat.le_of_ble_eq_true rfl) hRf, Nat.le_trans (Nat.le_of_ble_eq_true rfl) hRl⟩) hK hP hS hA hN rfl hl.1 rfl (Nat.le_of_ble_eq_true rfl) dX5_year_92 (fun H locs hP hS => ?_)
            refine lv_isub hx hb dX5_year_95 ?_
            refine lv_goto (tgt := 103) hx hb dX5_year_96 (by decide) ?_
            obtain rfl := Option.some.inj hf
            exact hret _ _ _ _ _ dX5_year_103 rfl hP hD hS
        · replace hf := z_ip hf c8
          refine lv_lload_n hx hb dX5_year_77 rfl (lv_at hl 1 rfl) ?_
          obtain ⟨o12, ho12, hf1⟩ := z_ib hf
          replace hf := hf1
          clear hf1
          refine z_S0 (As := [.long t6]) (rest := []) ⟨hx, hb, hml, hown, hts⟩ (k_J13_numberOfTrailingZeros_95d88 l dC dI cI cZ cJ cA H.size N t6 o12 ho12) (va_cwS 1 hts gX5_year_J13_numberOfTrailingZeros_95d88 rfl rfl rfl (by decide +kernel) ⟨Nat.le_trans (Nat.le_of_ble_eq_true rfl) hRf, Nat.le_trans (Nat.le_of_ble_eq_true rfl) hRl⟩) hK hP hS hA hN rfl hl.1 rfl (Nat.le_of_ble_eq_true rfl) dX5_year_78 (fun H locs hP hS => ?_)
          refine lv_goto (tgt := 103) hx hb dX5_year_81 (by decide) ?_
          obtain rfl := Option.some.inj hf
          exact hret _ _ _ _ _ dX5_year_103 rfl hP hD hS
      · replace hf := z_ip hf c7
        refine lv_iconst (v := (-1)) hx hb dX5_year_71 (by decide) ?_
        obtain rfl := Option.some.inj hf
        exact hret _ _ _ _ _ dX5_year_72 rfl hP hD hS
    · replace hf := z_ip hf c4
      refine lv_iconst (v := (-1)) hx hb dX5_year_17 (by decide) ?_
      obtain rfl := Option.some.inj hf
      exact hret _ _ _ _ _ dX5_year_18 rfl hP hD hS
set_option maxHeartbeats 4000000 in
set_option maxRecDepth 100000 in
theorem k_X5_year (l : Launch) (dC : Nat → ClassId) (dI : Nat → Nat → Nat) (cI cZ cJ cA : ClassId) (h0 : Nat) (a : Nat → Nat) (sz : Nat) (N : Nat) (v1 : Int32) (v2 : Int32) (x1 : Int32) (x3 : Int32) (x4 : Int32) (x5 : Int32) (x6 : Int32) (x7 : Int32) (x9 : Int32) (x10 : Int32) (x14 : Int32) (x15 : Int32) (x16 : Int32) (x19 : Int32) (x20 : Int32) (x21 : Int32) (x22 : Int32) (x23 : Int32) (x24 : Int32) (x41 : Int32) (x42 : Int32) (f0 : (Nat → Int32)) (f2 : (Nat → Int32)) (f8 : (Nat → Int32)) (f11 : (Nat → Int32)) (f12 : (Nat → Int32)) (f13 : (Nat → Int32)) (f17 : (Nat → Int32)) (f18 : (Nat → Int32)) (f25 : (Nat → Int32)) (f26 : (Nat → Int32)) (f27 : (Nat → Int32)) (f28 : (Nat → Int32)) (f29 : (Nat → Int32)) (f30 : (Nat → Int32)) (f31 : (Nat → Int32)) (f32 : (Nat → Int32)) (f33 : (Nat → Int32)) (f34 : (Nat → Int32)) (f35 : (Nat → Int32)) (f36 : (Nat → Int32)) (f37 : (Nat → Int32)) (f38 : (Nat → Int32)) (f39 : (Nat → Int32)) (f40 : (Nat → Int32)) (f43 : (Nat → Int32)) (o : Int32) (hf : q_X5_year N v1 v2 x41 x42 f35 f36 f37 f38 f39 f40 = some o) : Met l yX5_year wsX5_year ({ frames := 2, cells := 0, slots := 0, locals := 52 } : Room) (z_Pre dC dI (z_ty cI cZ cJ cA) [.ref h0, .int v1, .int v2] sz (wX5 cI cZ cJ cA h0 a x1 x3 x4 x5 x6 x7 x9 x10 x14 x15 x16 x19 x20 x21 x22 x23 x24 x41 x42 f0 f2 f8 f11 f12 f13 f17 f18 f25 f26 f27 f28 f29 f30 f31 f32 f33 f34 f35 f36 f37 f38 f39 f40 f43)) (z_Pi dC dI o (wX5 cI cZ cJ cA h0 a x1 x3 x4 x5 x6 x7 x9 x10 x14 x15 x16 x19 x20 x21 x22 x23 x24 x41 x42 f0 f2 f8 f11 f12 f13 f17 f18 f25 f26 f27 f28 f29 f30 f31 f32 f33 f34 f35 f36 f37 f38 f39 f40 f43) sz (wX5 cI cZ cJ cA h0 a x1 x3 x4 x5 x6 x7 x9 x10 x14 x15 x16 x19 x20 x21 x22 x23 x24 x41 x42 f0 f2 f8 f11 f12 f13 f17 f18 f25 f26 f27 f28 f29 f30 f31 f32 f33 f34 f35 f36 f37 f38 f39 f40 f43)) 0 0 (va_A (wX5 cI cZ cJ cA h0 a x1 x3 x4 x5 x6 x7 x9 x10 x14 x15 x16 x19 x20 x21 x22 x23 x24 x41 x42 f0 f2 f8 f11 f12 f13 f17 f18 f25 f26 f27 f28 f29 f30 f31 f32 f33 f34 f35 f36 f37 f38 f39 f40 f43) sz) := by
  refine Met.ofW (cc := cX5_year) (maxL := 7) (ret := (some .int)) (by decide) rfl ?_
  intro p e s m args below meth c s₁ B hml hv
  obtain ⟨rfl, hsz, hP, hK, hD0, hN⟩ := hv
  subst hsz
  have hl := lv_entry ([.ref h0, .int v1, .int v2]) (n := 7) (Nat.le_of_ble_eq_true rfl)
  rw [lg_entry_eq]
  refine b_X5_year N ⟨⟨B.exec, B.bytes, hml, findClass_of_methodNamed B.named, atoms_spec (ws := wsX5_year) B.pre⟩, Nat.le_refl _, Nat.le_refl _, fun q h => Or.inr h, hN, hK⟩ hf hP hD0.self va_S.rf hl (fun pc H locs ls r hd hr hP hD hS => ?_)
  subst hr
  exact W.iret B.exec B.bytes B.returns (fun t ht hW => ⟨⟨_, (), rfl, rfl, by rw [ht]; exact hP, hD⟩, hS.F ht⟩) hS.2.2 hd
def q_X5_wrong_L41 (N : Nat) (v1 : Int32) (v3 : Int32) (x41 : Int32) (x42 : Int32) (f35 : (Nat → Int32)) (f36 : (Nat → Int32)) (f37 : (Nat → Int32)) (f38 : (Nat → Int32)) (f39 : (Nat → Int32)) (f40 : (Nat → Int32)) : Nat → Int32 → Option (Sum Int32 Unit)
  | 0, _ => none
  | n + 1, v4 =>
    (if v1 ≤ v4 then
     (some (Sum.inr ()))
    else
     (Option.bind (q_X5_isRoll N v4 v3 x41 x42 f35 f36 f37 f38 f39 f40) (fun o2 =>
     (if o2 = 0 then
      (q_X5_wrong_L41 N v1 v3 x41 x42 f35 f36 f37 f38 f39 f40 n (v4 + 1))
     else
      (some (Sum.inl v3))))))
set_option maxHeartbeats 4000000 in
set_option maxRecDepth 100000 in
theorem b_X5_wrong_L41 {p : Program} {l : Launch} {e : Env} {R : Room} {s : State} {m : MethodId} {args : Array Value} {below : List Frame} {meth : Method} {c : Code} {Q : State → Prop} {A : Nat → Prop} {dC : Nat → ClassId} {dI : Nat → Nat → Nat} {cI cZ cJ cA : ClassId} {h0 : Nat} {a : Nat → Nat} (N : Nat) (C0 : z_Cx p s m args c cX5_wrong 5 wsX5_wrong RX5 R 2 52 A dC dI (z_ty cI cZ cJ cA)) : ∀ (n : Nat) {v1 : Int32} {v2 : Int32} {v3 : Int32} {v4 : Int32} {x1 : Int32} {x3 : Int32} {x4 : Int32} {x5 : Int32} {x6 : Int32} {x7 : Int32} {x9 : Int32} {x10 : Int32} {x14 : Int32} {x15 : Int32} {x16 : Int32} {x19 : Int32} {x20 : Int32} {x21 : Int32} {x22 : Int32} {x23 : Int32} {x24 : Int32} {x41 : Int32} {x42 : Int32} {f0 : (Nat → Int32)} {f2 : (Nat → Int32)} {f8 : (Nat → Int32)} {f11 : (Nat → Int32)} {f12 : (Nat → Int32)} {f13 : (Nat → Int32)} {f17 : (Nat → Int32)} {f18 : (Nat → Int32)} {f25 : (Nat → Int32)} {f26 : (Nat → Int32)} {f27 : (Nat → Int32)} {f28 : (Nat → Int32)} {f29 : (Nat → Int32)} {f30 : (Nat → Int32)} {f31 : (Nat → Int32)} {f32 : (Nat → Int32)} {f33 : (Nat → Int32)} {f34 : (Nat → Int32)} {f35 : (Nat → Int32)} {f36 : (Nat → Int32)} {f37 : (Nat → Int32)} {f38 : (Nat → Int32)} {f39 : (Nat → Int32)} {f40 : (Nat → Int32)} {f43 : (Nat → Int32)} {o : (Sum Int32 Unit)} {H : Heap} {locs : List Loc} {ls : Array Slot}, q_X5_wrong_L41 N v1 v3 x41 x42 f35 f36 f37 f38 f39 f40 n v4 = some o → va_P (dC, dI) vwCl (wX5 cI cZ cJ cA h0 a x1 x3 x4 x5 x6 x7 x9 x10 x14 x15 x16 x19 x20 x21 x22 x23 x24 x41 x42 f0 f2 f8 f11 f12 f13 f17 f18 f25 f26 f27 f28 f29 f30 f31 f32 f33 f34 f35 f36 f37 f38 f39 f40 f43) H → va_D A (wX5 cI cZ cJ cA h0 a x1 x3 x4 x5 x6 x7 x9 x10 x14 x15 x16 x19 x20 x21 x22 x23 x24 x41 x42 f0 f2 f8 f11 f12 f13 f17 f18 f25 f26 f27 f28 f29 f30 f31 f32 f33 f34 f35 f36 f37 f38 f39 f40 f43) → va_S A s.heap H locs → lv_has ls 5 [(0, .ref h0), (1, .int v1), (2, .int v2), (3, .int v3), (4, .int v4)] →
    (∀ (t : Int32), o = Sum.inl t → ∀ (pc : Nat) (H : Heap) (locs : List Loc) (ls : Array Slot) (r : Int32), decode cX5_wrong pc = .ok (.ireturn, 1) → r = t → va_P (dC, dI) vwCl (wX5 cI cZ cJ cA h0 a x1 x3 x4 x5 x6 x7 x9 x10 x14 x15 x16 x19 x20 x21 x22 x23 x24 x41 x42 f0 f2 f8 f11 f12 f13 f17 f18 f25 f26 f27 f28 f29 f30 f31 f32 f33 f34 f35 f36 f37 f38 f39 f40 f43) H → va_D A (wX5 cI cZ cJ cA h0 a x1 x3 x4 x5 x6 x7 x9 x10 x14 x15 x16 x19 x20 x21 x22 x23 x24 x41 x42 f0 f2 f8 f11 f12 f13 f17 f18 f25 f26 f27 f28 f29 f30 f31 f32 f33 f34 f35 f36 f37 f38 f39 f40 f43) → va_S A s.heap H locs → W p l e R s m args below meth c H locs 0 0 Q (F0 m pc ls [.int r])) →
    (∀ (t : Unit) (H : Heap) (locs : List Loc) (ls : Array Slot), o = Sum.inr t → va_P (dC, dI) vwCl (wX5 cI cZ cJ cA h0 a x1 x3 x4 x5 x6 x7 x9 x10 x14 x15 x16 x19 x20 x21 x22 x23 x24 x41 x42 f0 f2 f8 f11 f12 f13 f17 f18 f25 f26 f27 f28 f29 f30 f31 f32 f33 f34 f35 f36 f37 f38 f39 f40 f43) H → va_D A (wX5 cI cZ cJ cA h0 a x1 x3 x4 x5 x6 x7 x9 x10 x14 x15 x16 x19 x20 x21 x22 x23 x24 x41 x42 f0 f2 f8 f11 f12 f13 f17 f18 f25 f26 f27 f28 f29 f30 f31 f32 f33 f34 f35 f36 f37 f38 f39 f40 f43) → va_S A s.heap H locs → lv_has ls 5 [(0, .ref h0), (1, .int v1), (2, .int v2), (3, .int v3)] → W p l e R s m args below meth c H locs 0 0 Q (F0 m 65 ls [])) →
    W p l e R s m args below meth c H locs 0 0 Q (F0 m 41 ls []) := by
  obtain ⟨⟨hx, hb, hml, hown, hts⟩, hRf, hRl, hA, hN, hK⟩ := C0
  intro n
  induction n with
  | zero =>
    intro v1 v2 v3 v4 x1 x3 x4 x5 x6 x7 x9 x10 x14 x15 x16 x19 x20 x21 x22 x23 x24 x41 x42 f0 f2 f8 f11 f12 f13 f17 f18 f25 f26 f27 f28 f29 f30 f31 f32 f33 f34 f35 f36 f37 f38 f39 f40 f43 o H locs ls hf
    cases hf
  | succ n ih =>
    intro v1 v2 v3 v4 x1 x3 x4 x5 x6 x7 x9 x10 x14 x15 x16 x19 x20 x21 x22 x23 x24 x41 x42 f0 f2 f8 f11 f12 f13 f17 f18 f25 f26 f27 f28 f29 f30 f31 f32 f33 f34 f35 f36 f37 f38 f39 f40 f43 o H locs ls hf hP hD hS hl hret hexit
    rw [q_X5_wrong_L41] at hf
    refine lv_iload hx hb dX5_wrong_41 (lv_at hl 4 rfl) ?_
    refine lv_iload_n hx hb dX5_wrong_43 rfl (lv_at hl 1 rfl) ?_
    refine lv_icmp_ge (tgt := 65) hx hb dX5_wrong_44 (by decide) (fun c1 => ?_) (fun c1 => ?_)
    · replace hf := z_ip hf c1
      obtain rfl := Option.some.inj hf
      exact hexit _ _ _ _ rfl hP hD hS (lv_sub hl [0, 1, 2, 3] rfl)
    · replace hf := z_im hf c1
      refine lv_aload_n hx hb dX5_wrong_47 rfl (lv_at hl 0 rfl) ?_
      refine lv_iload hx hb dX5_wrong_48 (lv_at hl 4 rfl) ?_
      refine lv_iload_n hx hb dX5_wrong_50 rfl (lv_at hl 3 rfl) ?_
      obtain ⟨o2, ho2, hf1⟩ := z_ib hf
      replace hf := hf1
      clear hf1
      refine z_Vi (As := [.int v4, .int v3]) (rest := []) (w := (wX5 cI cZ cJ cA h0 a x1 x3 x4 x5 x6 x7 x9 x10 x14 x15 x16 x19 x20 x21 x22 x23 x24 x41 x42 f0 f2 f8 f11 f12 f13 f17 f18 f25 f26 f27 f28 f29 f30 f31 f32 f33 f34 f35 f36 f37 f38 f39 f40 f43)) (w1 := (wX5 cI cZ cJ cA h0 a x1 x3 x4 x5 x6 x7 x9 x10 x14 x15 x16 x19 x20 x21 x22 x23 x24 x41 x42 f0 f2 f8 f11 f12 f13 f17 f18 f25 f26 f27 f28 f29 f30 f31 f32 f33 f34 f35 f36 f37 f38 f39 f40 f43)) ⟨hx, hb, hml, hown, hts⟩ (k_X5_isRoll l dC dI cI cZ cJ cA h0 a H.size N v4 v3 x1 x3 x4 x5 x6 x7 x9 x10 x14 x15 x16 x19 x20 x21 x22 x23 x24 x41 x42 f0 f2 f8 f11 f12 f13 f17 f18 f25 f26 f27 f28 f29 f30 f31 f32 f33 f34 f35 f36 f37 f38 f39 f40 f43 o2 ho2) (cwV 2 hts gX5_wrong_X5_isRoll rfl rfl rfl (by decide +kernel) ⟨Nat.le_trans (Nat.le_of_ble_eq_true rfl) hRf, Nat.le_trans (Nat.le_of_ble_eq_true rfl) hRl⟩) hK hP hD hS hA hN (ci := 5) rfl rfl rfl rfl hl.1 rfl (Nat.le_of_ble_eq_true rfl) dX5_wrong_51 (fun H locs hP hD hS => ?_)
      refine lv_if_eq (tgt := 59) hx hb dX5_wrong_54 (by decide) (fun c3 => ?_) (fun c3 => ?_)
      · replace hf := z_ip hf c3
        refine lv_iinc (v := (v4 + 1)) (lv' := [(4, .int (v4 + 1)), (0, .ref h0), (1, .int v1), (2, .int v2), (3, .int v3)]) hx hb dX5_wrong_59 hl (k := 4) rfl rfl (by decide) rfl (fun ls hl => ?_)
        refine lv_goto (tgt := 41) hx hb dX5_wrong_62 (by decide) ?_
        exact ih hf hP hD hS (lv_sub hl [1, 2, 3, 4, 0] rfl) hret hexit
      · replace hf := z_im hf c3
        refine lv_iload_n hx hb dX5_wrong_57 rfl (lv_at hl 3 rfl) ?_
        obtain rfl := Option.some.inj hf
        exact hret _ rfl _ _ _ _ _ dX5_wrong_58 rfl hP hD hS
def q_X5_wrong_L17 (N : Nat) (v1 : Int32) (v2 : Int32) (x41 : Int32) (x42 : Int32) (f35 : (Nat → Int32)) (f36 : (Nat → Int32)) (f37 : (Nat → Int32)) (f38 : (Nat → Int32)) (f39 : (Nat → Int32)) (f40 : (Nat → Int32)) : Nat → Int32 → Option (Sum Int32 Unit)
  | 0, _ => none
  | n + 1, v3 =>
    (if ((1 : Int32) <<< (x41 &&& 31)) ≤ v3 then
     (some (Sum.inr ()))
    else
     (Option.bind (q_J6_bitCount_0f7a4 N v3) (fun o2 =>
     (if o2 = v2 then
      (Option.bind (q_X5_wrong_L41 N v1 v3 x41 x42 f35 f36 f37 f38 f39 f40 N 0) (Sum.elim (fun r6 => (some (Sum.inl r6))) (fun s5 =>
      (q_X5_wrong_L17 N v1 v2 x41 x42 f35 f36 f37 f38 f39 f40 n (v3 + 1)))))
     else
      (q_X5_wrong_L17 N v1 v2 x41 x42 f35 f36 f37 f38 f39 f40 n (v3 + 1))))))
set_option maxHeartbeats 4000000 in
set_option maxRecDepth 100000 in
theorem b_X5_wrong_L17 {p : Program} {l : Launch} {e : Env} {R : Room} {s : State} {m : MethodId} {args : Array Value} {below : List Frame} {meth : Method} {c : Code} {Q : State → Prop} {A : Nat → Prop} {dC : Nat → ClassId} {dI : Nat → Nat → Nat} {cI cZ cJ cA : ClassId} {h0 : Nat} {a : Nat → Nat} (N : Nat) (C0 : z_Cx p s m args c cX5_wrong 5 wsX5_wrong RX5 R 2 52 A dC dI (z_ty cI cZ cJ cA)) : ∀ (n : Nat) {v1 : Int32} {v2 : Int32} {v3 : Int32} {x1 : Int32} {x3 : Int32} {x4 : Int32} {x5 : Int32} {x6 : Int32} {x7 : Int32} {x9 : Int32} {x10 : Int32} {x14 : Int32} {x15 : Int32} {x16 : Int32} {x19 : Int32} {x20 : Int32} {x21 : Int32} {x22 : Int32} {x23 : Int32} {x24 : Int32} {x41 : Int32} {x42 : Int32} {f0 : (Nat → Int32)} {f2 : (Nat → Int32)} {f8 : (Nat → Int32)} {f11 : (Nat → Int32)} {f12 : (Nat → Int32)} {f13 : (Nat → Int32)} {f17 : (Nat → Int32)} {f18 : (Nat → Int32)} {f25 : (Nat → Int32)} {f26 : (Nat → Int32)} {f27 : (Nat → Int32)} {f28 : (Nat → Int32)} {f29 : (Nat → Int32)} {f30 : (Nat → Int32)} {f31 : (Nat → Int32)} {f32 : (Nat → Int32)} {f33 : (Nat → Int32)} {f34 : (Nat → Int32)} {f35 : (Nat → Int32)} {f36 : (Nat → Int32)} {f37 : (Nat → Int32)} {f38 : (Nat → Int32)} {f39 : (Nat → Int32)} {f40 : (Nat → Int32)} {f43 : (Nat → Int32)} {o : (Sum Int32 Unit)} {H : Heap} {locs : List Loc} {ls : Array Slot}, q_X5_wrong_L17 N v1 v2 x41 x42 f35 f36 f37 f38 f39 f40 n v3 = some o → va_P (dC, dI) vwCl (wX5 cI cZ cJ cA h0 a x1 x3 x4 x5 x6 x7 x9 x10 x14 x15 x16 x19 x20 x21 x22 x23 x24 x41 x42 f0 f2 f8 f11 f12 f13 f17 f18 f25 f26 f27 f28 f29 f30 f31 f32 f33 f34 f35 f36 f37 f38 f39 f40 f43) H → va_D A (wX5 cI cZ cJ cA h0 a x1 x3 x4 x5 x6 x7 x9 x10 x14 x15 x16 x19 x20 x21 x22 x23 x24 x41 x42 f0 f2 f8 f11 f12 f13 f17 f18 f25 f26 f27 f28 f29 f30 f31 f32 f33 f34 f35 f36 f37 f38 f39 f40 f43) → va_S A s.heap H locs → lv_has ls 5 [(0, .ref h0), (1, .int v1), (2, .int v2), (3, .int v3)] →
    (∀ (t : Int32), o = Sum.inl t → ∀ (pc : Nat) (H : Heap) (locs : List Loc) (ls : Array Slot) (r : Int32), decode cX5_wrong pc = .ok (.ireturn, 1) → r = t → va_P (dC, dI) vwCl (wX5 cI cZ cJ cA h0 a x1 x3 x4 x5 x6 x7 x9 x10 x14 x15 x16 x19 x20 x21 x22 x23 x24 x41 x42 f0 f2 f8 f11 f12 f13 f17 f18 f25 f26 f27 f28 f29 f30 f31 f32 f33 f34 f35 f36 f37 f38 f39 f40 f43) H → va_D A (wX5 cI cZ cJ cA h0 a x1 x3 x4 x5 x6 x7 x9 x10 x14 x15 x16 x19 x20 x21 x22 x23 x24 x41 x42 f0 f2 f8 f11 f12 f13 f17 f18 f25 f26 f27 f28 f29 f30 f31 f32 f33 f34 f35 f36 f37 f38 f39 f40 f43) → va_S A s.heap H locs → W p l e R s m args below meth c H locs 0 0 Q (F0 m pc ls [.int r])) →
    (∀ (t : Unit) (H : Heap) (locs : List Loc) (ls : Array Slot), o = Sum.inr t → va_P (dC, dI) vwCl (wX5 cI cZ cJ cA h0 a x1 x3 x4 x5 x6 x7 x9 x10 x14 x15 x16 x19 x20 x21 x22 x23 x24 x41 x42 f0 f2 f8 f11 f12 f13 f17 f18 f25 f26 f27 f28 f29 f30 f31 f32 f33 f34 f35 f36 f37 f38 f39 f40 f43) H → va_D A (wX5 cI cZ cJ cA h0 a x1 x3 x4 x5 x6 x7 x9 x10 x14 x15 x16 x19 x20 x21 x22 x23 x24 x41 x42 f0 f2 f8 f11 f12 f13 f17 f18 f25 f26 f27 f28 f29 f30 f31 f32 f33 f34 f35 f36 f37 f38 f39 f40 f43) → va_S A s.heap H locs → lv_has ls 5 [(0, .ref h0), (1, .int v1), (2, .int v2)] → W p l e R s m args below meth c H locs 0 0 Q (F0 m 71 ls [])) →
    W p l e R s m args below meth c H locs 0 0 Q (F0 m 17 ls []) := by
  obtain ⟨⟨hx, hb, hml, hown, hts⟩, hRf, hRl, hA, hN, hK⟩ := C0
  intro n
  induction n with
  | zero =>
    intro v1 v2 v3 x1 x3 x4 x5 x6 x7 x9 x10 x14 x15 x16 x19 x20 x21 x22 x23 x24 x41 x42 f0 f2 f8 f11 f12 f13 f17 f18 f25 f26 f27 f28 f29 f30 f31 f32 f33 f34 f35 f36 f37 f38 f39 f40 f43 o H locs ls hf
    cases hf
  | succ n ih =>
    intro v1 v2 v3 x1 x3 x4 x5 x6 x7 x9 x10 x14 x15 x16 x19 x20 x21 x22 x23 x24 x41 x42 f0 f2 f8 f11 f12 f13 f17 f18 f25 f26 f27 f28 f29 f30 f31 f32 f33 f34 f35 f36 f37 f38 f39 f40 f43 o H locs ls hf hP hD hS hl hret hexit
    rw [q_X5_wrong_L17] at hf
    refine lv_iload_n hx hb dX5_wrong_17 rfl (lv_at hl 3 rfl) ?_
    refine lv_iconst (v := 1) hx hb dX5_wrong_18 (by decide) ?_
    refine lv_aload_n hx hb dX5_wrong_19 rfl (lv_at hl 0 rfl) ?_
    refine va_get (D := (dC, dI)) (ci := 5) (v := .int x41) (C := RX5) (T := TX5) (N := 44) hx hb hts (fun w hw => List.mem_cons_of_mem _ (List.mem_append_right _ hw)) hown hK hP 0 rfl rfl 41 (by decide) (hts (.fieldLink RX5 187 "OldStadiumModel" "stones" "I") (List.mem_of_getElem? (i := 1) rfl)) (fun _ h9 => h9) rfl dX5_wrong_20 ?_
    refine lv_ishl hx hb dX5_wrong_23 ?_
    refine lv_icmp_ge (tgt := 71) hx hb dX5_wrong_24 (by decide) (fun c1 => ?_) (fun c1 => ?_)
    · replace hf := z_ip hf c1
      obtain rfl := Option.some.inj hf
      exact hexit _ _ _ _ rfl hP hD hS (lv_sub hl [0, 1, 2] rfl)
    · replace hf := z_im hf c1
      refine lv_iload_n hx hb dX5_wrong_27 rfl (lv_at hl 3 rfl) ?_
      obtain ⟨o2, ho2, hf1⟩ := z_ib hf
      replace hf := hf1
      clear hf1
      refine z_S0 (As := [.int v3]) (rest := []) ⟨hx, hb, hml, hown, hts⟩ (k_J6_bitCount_0f7a4 l dC dI cI cZ cJ cA H.size N v3 o2 ho2) (va_cwS 1 hts gX5_wrong_J6_bitCount_0f7a4 rfl rfl rfl (by decide +kernel) ⟨Nat.le_trans (Nat.le_of_ble_eq_true rfl) hRf, Nat.le_trans (Nat.le_of_ble_eq_true rfl) hRl⟩) hK hP hS hA hN rfl hl.1 rfl (Nat.le_of_ble_eq_true rfl) dX5_wrong_28 (fun H locs hP hS => ?_)
      refine lv_iload_n hx hb dX5_wrong_31 rfl (lv_at hl 2 rfl) ?_
      refine lv_icmp_eq (tgt := 38) hx hb dX5_wrong_32 (by decide) (fun c3 => ?_) (fun c3 => ?_)
      · replace hf := z_ip hf c3
        refine lv_iconst (v := 0) hx hb dX5_wrong_38 (by decide) ?_
        refine lv_istore (lv' := [(4, .int 0), (0, .ref h0), (1, .int v1), (2, .int v2), (3, .int v3)]) hx hb dX5_wrong_39 hl (by decide) rfl (fun ls hl => ?_)
        obtain ⟨t4, ht4, hf1⟩ := z_ib hf
        replace hf := hf1
        clear hf1
        refine b_X5_wrong_L41 N ⟨⟨hx, hb, hml, hown, hts⟩, hRf, hRl, hA, hN, hK⟩ N ht4 hP hD hS (lv_sub hl [1, 2, 3, 4, 0] rfl) (fun r6 e1 pc H locs ls r0 hd hr hP hD hS => ?_) (fun s5 H locs ls e1 hP hD hS hl => ?_)
        · subst e1
          have hf := z_sl hf
          obtain rfl := Option.some.inj hf
          exact hret _ rfl pc H locs ls r0 hd hr hP hD hS
        subst e1
        replace hf := z_sr hf
        refine lv_iinc (v := (v3 + 1)) (lv' := [(3, .int (v3 + 1)), (0, .ref h0), (1, .int v1), (2, .int v2)]) hx hb dX5_wrong_65 hl (k := 3) rfl rfl (by decide) rfl (fun ls hl => ?_)
        refine lv_goto (tgt := 17) hx hb dX5_wrong_68 (by decide) ?_
        exact ih hf hP hD hS (lv_sub hl [1, 2, 3, 0] rfl) hret hexit
      · replace hf := z_im hf c3
        refine lv_goto (tgt := 65) hx hb dX5_wrong_35 (by decide) ?_
        refine lv_iinc (v := (v3 + 1)) (lv' := [(3, .int (v3 + 1)), (0, .ref h0), (1, .int v1), (2, .int v2)]) hx hb dX5_wrong_65 hl (k := 3) rfl rfl (by decide) rfl (fun ls hl => ?_)
        refine lv_goto (tgt := 17) hx hb dX5_wrong_68 (by decide) ?_
        exact ih hf hP hD hS (lv_sub hl [1, 2, 3, 0] rfl) hret hexit
def q_X5_wrong_L7 (N : Nat) (v1 : Int32) (x41 : Int32) (x42 : Int32) (f35 : (Nat → Int32)) (f36 : (Nat → Int32)) (f37 : (Nat → Int32)) (f38 : (Nat → Int32)) (f39 : (Nat → Int32)) (f40 : (Nat → Int32)) : Nat → Int32 → Option (Sum Int32 Unit)
  | 0, _ => none
  | n + 1, v2 =>
    (if x41 < v2 then
     (some (Sum.inr ()))
    else
     (Option.bind (q_X5_wrong_L17 N v1 v2 x41 x42 f35 f36 f37 f38 f39 f40 N 0) (Sum.elim (fun r4 => (some (Sum.inl r4))) (fun s3 =>
     (q_X5_wrong_L7 N v1 x41 x42 f35 f36 f37 f38 f39 f40 n (v2 + 1))))))
set_option maxHeartbeats 4000000 in
set_option maxRecDepth 100000 in
theorem b_X5_wrong_L7 {p : Program} {l : Launch} {e : Env} {R : Room} {s : State} {m : MethodId} {args : Array Value} {below : List Frame} {meth : Method} {c : Code} {Q : State → Prop} {A : Nat → Prop} {dC : Nat → ClassId} {dI : Nat → Nat → Nat} {cI cZ cJ cA : ClassId} {h0 : Nat} {a : Nat → Nat} (N : Nat) (C0 : z_Cx p s m args c cX5_wrong 5 wsX5_wrong RX5 R 2 52 A dC dI (z_ty cI cZ cJ cA)) : ∀ (n : Nat) {v1 : Int32} {v2 : Int32} {x1 : Int32} {x3 : Int32} {x4 : Int32} {x5 : Int32} {x6 : Int32} {x7 : Int32} {x9 : Int32} {x10 : Int32} {x14 : Int32} {x15 : Int32} {x16 : Int32} {x19 : Int32} {x20 : Int32} {x21 : Int32} {x22 : Int32} {x23 : Int32} {x24 : Int32} {x41 : Int32} {x42 : Int32} {f0 : (Nat → Int32)} {f2 : (Nat → Int32)} {f8 : (Nat → Int32)} {f11 : (Nat → Int32)} {f12 : (Nat → Int32)} {f13 : (Nat → Int32)} {f17 : (Nat → Int32)} {f18 : (Nat → Int32)} {f25 : (Nat → Int32)} {f26 : (Nat → Int32)} {f27 : (Nat → Int32)} {f28 : (Nat → Int32)} {f29 : (Nat → Int32)} {f30 : (Nat → Int32)} {f31 : (Nat → Int32)} {f32 : (Nat → Int32)} {f33 : (Nat → Int32)} {f34 : (Nat → Int32)} {f35 : (Nat → Int32)} {f36 : (Nat → Int32)} {f37 : (Nat → Int32)} {f38 : (Nat → Int32)} {f39 : (Nat → Int32)} {f40 : (Nat → Int32)} {f43 : (Nat → Int32)} {o : (Sum Int32 Unit)} {H : Heap} {locs : List Loc} {ls : Array Slot}, q_X5_wrong_L7 N v1 x41 x42 f35 f36 f37 f38 f39 f40 n v2 = some o → va_P (dC, dI) vwCl (wX5 cI cZ cJ cA h0 a x1 x3 x4 x5 x6 x7 x9 x10 x14 x15 x16 x19 x20 x21 x22 x23 x24 x41 x42 f0 f2 f8 f11 f12 f13 f17 f18 f25 f26 f27 f28 f29 f30 f31 f32 f33 f34 f35 f36 f37 f38 f39 f40 f43) H → va_D A (wX5 cI cZ cJ cA h0 a x1 x3 x4 x5 x6 x7 x9 x10 x14 x15 x16 x19 x20 x21 x22 x23 x24 x41 x42 f0 f2 f8 f11 f12 f13 f17 f18 f25 f26 f27 f28 f29 f30 f31 f32 f33 f34 f35 f36 f37 f38 f39 f40 f43) → va_S A s.heap H locs → lv_has ls 5 [(0, .ref h0), (1, .int v1), (2, .int v2)] →
    (∀ (t : Int32), o = Sum.inl t → ∀ (pc : Nat) (H : Heap) (locs : List Loc) (ls : Array Slot) (r : Int32), decode cX5_wrong pc = .ok (.ireturn, 1) → r = t → va_P (dC, dI) vwCl (wX5 cI cZ cJ cA h0 a x1 x3 x4 x5 x6 x7 x9 x10 x14 x15 x16 x19 x20 x21 x22 x23 x24 x41 x42 f0 f2 f8 f11 f12 f13 f17 f18 f25 f26 f27 f28 f29 f30 f31 f32 f33 f34 f35 f36 f37 f38 f39 f40 f43) H → va_D A (wX5 cI cZ cJ cA h0 a x1 x3 x4 x5 x6 x7 x9 x10 x14 x15 x16 x19 x20 x21 x22 x23 x24 x41 x42 f0 f2 f8 f11 f12 f13 f17 f18 f25 f26 f27 f28 f29 f30 f31 f32 f33 f34 f35 f36 f37 f38 f39 f40 f43) → va_S A s.heap H locs → W p l e R s m args below meth c H locs 0 0 Q (F0 m pc ls [.int r])) →
    (∀ (t : Unit) (H : Heap) (locs : List Loc) (ls : Array Slot), o = Sum.inr t → va_P (dC, dI) vwCl (wX5 cI cZ cJ cA h0 a x1 x3 x4 x5 x6 x7 x9 x10 x14 x15 x16 x19 x20 x21 x22 x23 x24 x41 x42 f0 f2 f8 f11 f12 f13 f17 f18 f25 f26 f27 f28 f29 f30 f31 f32 f33 f34 f35 f36 f37 f38 f39 f40 f43) H → va_D A (wX5 cI cZ cJ cA h0 a x1 x3 x4 x5 x6 x7 x9 x10 x14 x15 x16 x19 x20 x21 x22 x23 x24 x41 x42 f0 f2 f8 f11 f12 f13 f17 f18 f25 f26 f27 f28 f29 f30 f31 f32 f33 f34 f35 f36 f37 f38 f39 f40 f43) → va_S A s.heap H locs → lv_has ls 5 [] → W p l e R s m args below meth c H locs 0 0 Q (F0 m 77 ls [])) →
    W p l e R s m args below meth c H locs 0 0 Q (F0 m 7 ls []) := by
  obtain ⟨⟨hx, hb, hml, hown, hts⟩, hRf, hRl, hA, hN, hK⟩ := C0
  intro n
  induction n with
  | zero =>
    intro v1 v2 x1 x3 x4 x5 x6 x7 x9 x10 x14 x15 x16 x19 x20 x21 x22 x23 x24 x41 x42 f0 f2 f8 f11 f12 f13 f17 f18 f25 f26 f27 f28 f29 f30 f31 f32 f33 f34 f35 f36 f37 f38 f39 f40 f43 o H locs ls hf
    cases hf
  | succ n ih =>
    intro v1 v2 x1 x3 x4 x5 x6 x7 x9 x10 x14 x15 x16 x19 x20 x21 x22 x23 x24 x41 x42 f0 f2 f8 f11 f12 f13 f17 f18 f25 f26 f27 f28 f29 f30 f31 f32 f33 f34 f35 f36 f37 f38 f39 f40 f43 o H locs ls hf hP hD hS hl hret hexit
    rw [q_X5_wrong_L7] at hf
    refine lv_iload_n hx hb dX5_wrong_7 rfl (lv_at hl 2 rfl) ?_
    refine lv_aload_n hx hb dX5_wrong_8 rfl (lv_at hl 0 rfl) ?_
    refine va_get (D := (dC, dI)) (ci := 5) (v := .int x41) (C := RX5) (T := TX5) (N := 44) hx hb hts (fun w hw => List.mem_cons_of_mem _ (List.mem_append_right _ hw)) hown hK hP 0 rfl rfl 41 (by decide) (hts (.fieldLink RX5 187 "OldStadiumModel" "stones" "I") (List.mem_of_getElem? (i := 1) rfl)) (fun _ h9 => h9) rfl dX5_wrong_9 ?_
    refine lv_icmp_gt (tgt := 77) hx hb dX5_wrong_12 (by decide) (fun c1 => ?_) (fun c1 => ?_)
    · replace hf := z_ip hf c1
      obtain rfl := Option.some.inj hf
      exact hexit _ _ _ _ rfl hP hD hS (lv_sub hl [] rfl)
    · replace hf := z_im hf c1
      refine lv_iconst (v := 0) hx hb dX5_wrong_15 (by decide) ?_
      refine lv_istore_n (lv' := [(3, .int 0), (0, .ref h0), (1, .int v1), (2, .int v2)]) hx hb dX5_wrong_16 rfl hl (by decide) rfl (fun ls hl => ?_)
      obtain ⟨t2, ht2, hf1⟩ := z_ib hf
      replace hf := hf1
      clear hf1
      refine b_X5_wrong_L17 N ⟨⟨hx, hb, hml, hown, hts⟩, hRf, hRl, hA, hN, hK⟩ N ht2 hP hD hS (lv_sub hl [1, 2, 3, 0] rfl) (fun r4 e1 pc H locs ls r0 hd hr hP hD hS => ?_) (fun s3 H locs ls e1 hP hD hS hl => ?_)
      · subst e1
        have hf := z_sl hf
        obtain rfl := Option.some.inj hf
        exact hret _ rfl pc H locs ls r0 hd hr hP hD hS
      subst e1
      replace hf := z_sr hf
      refine lv_iinc (v := (v2 + 1)) (lv' := [(2, .int (v2 + 1)), (0, .ref h0), (1, .int v1)]) hx hb dX5_wrong_71 hl (k := 2) rfl rfl (by decide) rfl (fun ls hl => ?_)
      refine lv_goto (tgt := 7) hx hb dX5_wrong_74 (by decide) ?_
      exact ih hf hP hD hS (lv_sub hl [1, 2, 0] rfl) hret hexit
def q_X5_wrong (N : Nat) (x41 : Int32) (x42 : Int32) (f35 : (Nat → Int32)) (f36 : (Nat → Int32)) (f37 : (Nat → Int32)) (f38 : (Nat → Int32)) (f39 : (Nat → Int32)) (f40 : (Nat → Int32)) : Option Int32 :=
  (Option.bind (q_X5_codes N x41 f36 f37) (fun o1 =>
  (Option.bind (q_X5_wrong_L7 N o1 x41 x42 f35 f36 f37 f38 f39 f40 N 0) (Sum.elim (fun r4 => (some r4)) (fun s3 =>
  (some (-1)))))))
set_option maxHeartbeats 4000000 in
set_option maxRecDepth 100000 in
theorem b_X5_wrong {p : Program} {l : Launch} {e : Env} {R : Room} {s : State} {m : MethodId} {args : Array Value} {below : List Frame} {meth : Method} {c : Code} {Q : State → Prop} {A : Nat → Prop} {dC : Nat → ClassId} {dI : Nat → Nat → Nat} {cI cZ cJ cA : ClassId} {h0 : Nat} {a : Nat → Nat} (N : Nat) (C0 : z_Cx p s m args c cX5_wrong 5 wsX5_wrong RX5 R 2 52 A dC dI (z_ty cI cZ cJ cA)) {x1 : Int32} {x3 : Int32} {x4 : Int32} {x5 : Int32} {x6 : Int32} {x7 : Int32} {x9 : Int32} {x10 : Int32} {x14 : Int32} {x15 : Int32} {x16 : Int32} {x19 : Int32} {x20 : Int32} {x21 : Int32} {x22 : Int32} {x23 : Int32} {x24 : Int32} {x41 : Int32} {x42 : Int32} {f0 : (Nat → Int32)} {f2 : (Nat → Int32)} {f8 : (Nat → Int32)} {f11 : (Nat → Int32)} {f12 : (Nat → Int32)} {f13 : (Nat → Int32)} {f17 : (Nat → Int32)} {f18 : (Nat → Int32)} {f25 : (Nat → Int32)} {f26 : (Nat → Int32)} {f27 : (Nat → Int32)} {f28 : (Nat → Int32)} {f29 : (Nat → Int32)} {f30 : (Nat → Int32)} {f31 : (Nat → Int32)} {f32 : (Nat → Int32)} {f33 : (Nat → Int32)} {f34 : (Nat → Int32)} {f35 : (Nat → Int32)} {f36 : (Nat → Int32)} {f37 : (Nat → Int32)} {f38 : (Nat → Int32)} {f39 : (Nat → Int32)} {f40 : (Nat → Int32)} {f43 : (Nat → Int32)} {o : Int32} {H : Heap} {locs : List Loc} {ls : Array Slot} (hf : q_X5_wrong N x41 x42 f35 f36 f37 f38 f39 f40 = some o) (hP : va_P (dC, dI) vwCl (wX5 cI cZ cJ cA h0 a x1 x3 x4 x5 x6 x7 x9 x10 x14 x15 x16 x19 x20 x21 x22 x23 x24 x41 x42 f0 f2 f8 f11 f12 f13 f17 f18 f25 f26 f27 f28 f29 f30 f31 f32 f33 f34 f35 f36 f37 f38 f39 f40 f43) H) (hD : va_D A (wX5 cI cZ cJ cA h0 a x1 x3 x4 x5 x6 x7 x9 x10 x14 x15 x16 x19 x20 x21 x22 x23 x24 x41 x42 f0 f2 f8 f11 f12 f13 f17 f18 f25 f26 f27 f28 f29 f30 f31 f32 f33 f34 f35 f36 f37 f38 f39 f40 f43)) (hS : va_S A s.heap H locs) (hl : lv_has ls 5 [(0, .ref h0)])
    (hret : ∀ (pc : Nat) (H : Heap) (locs : List Loc) (ls : Array Slot) (r : Int32), decode cX5_wrong pc = .ok (.ireturn, 1) → r = o → va_P (dC, dI) vwCl (wX5 cI cZ cJ cA h0 a x1 x3 x4 x5 x6 x7 x9 x10 x14 x15 x16 x19 x20 x21 x22 x23 x24 x41 x42 f0 f2 f8 f11 f12 f13 f17 f18 f25 f26 f27 f28 f29 f30 f31 f32 f33 f34 f35 f36 f37 f38 f39 f40 f43) H → va_D A (wX5 cI cZ cJ cA h0 a x1 x3 x4 x5 x6 x7 x9 x10 x14 x15 x16 x19 x20 x21 x22 x23 x24 x41 x42 f0 f2 f8 f11 f12 f13 f17 f18 f25 f26 f27 f28 f29 f30 f31 f32 f33 f34 f35 f36 f37 f38 f39 f40 f43) → va_S A s.heap H locs → W p l e R s m args below meth c H locs 0 0 Q (F0 m pc ls [.int r])) :
    W p l e R s m args below meth c H locs 0 0 Q (F0 m 0 ls []) := by
  obtain ⟨⟨hx, hb, hml, hown, hts⟩, hRf, hRl, hA, hN, hK⟩ := C0
  unfold q_X5_wrong at hf
  refine lv_aload_n hx hb dX5_wrong_0 rfl (lv_at hl 0 rfl) ?_
  obtain ⟨o1, ho1, hf1⟩ := z_ib hf
  replace hf := hf1
  clear hf1
  refine z_Vi (As := []) (rest := []) (w := (wX5 cI cZ cJ cA h0 a x1 x3 x4 x5 x6 x7 x9 x10 x14 x15 x16 x19 x20 x21 x22 x23 x24 x41 x42 f0 f2 f8 f11 f12 f13 f17 f18 f25 f26 f27 f28 f29 f30 f31 f32 f33 f34 f35 f36 f37 f38 f39 f40 f43)) (w1 := (wX5 cI cZ cJ cA h0 a x1 x3 x4 x5 x6 x7 x9 x10 x14 x15 x16 x19 x20 x21 x22 x23 x24 x41 x42 f0 f2 f8 f11 f12 f13 f17 f18 f25 f26 f27 f28 f29 f30 f31 f32 f33 f34 f35 f36 f37 f38 f39 f40 f43)) ⟨hx, hb, hml, hown, hts⟩ (k_X5_codes l dC dI cI cZ cJ cA h0 a H.size N x1 x3 x4 x5 x6 x7 x9 x10 x14 x15 x16 x19 x20 x21 x22 x23 x24 x41 x42 f0 f2 f8 f11 f12 f13 f17 f18 f25 f26 f27 f28 f29 f30 f31 f32 f33 f34 f35 f36 f37 f38 f39 f40 f43 o1 ho1) (cwV 0 hts gX5_wrong_X5_codes rfl rfl rfl (by decide +kernel) ⟨Nat.le_trans (Nat.le_of_ble_eq_true rfl) hRf, Nat.le_trans (Nat.le_of_ble_eq_true rfl) hRl⟩) hK hP hD hS hA hN (ci := 5) rfl rfl rfl rfl hl.1 rfl (Nat.le_of_ble_eq_true rfl) dX5_wrong_1 (fun H locs hP hD hS => ?_)
  refine lv_istore_n (lv' := [(1, .int o1), (0, .ref h0)]) hx hb dX5_wrong_4 rfl hl (by decide) rfl (fun ls hl => ?_)
  refine lv_iconst (v := 0) hx hb dX5_wrong_5 (by decide) ?_
  refine lv_istore_n (lv' := [(2, .int 0), (1, .int o1), (0, .ref h0)]) hx hb dX5_wrong_6 rfl hl (by decide) rfl (fun ls hl => ?_)
  obtain ⟨t2, ht2, hf1⟩ := z_ib hf
  replace hf := hf1
  clear hf1
  refine b_X5_wrong_L7 N ⟨⟨hx, hb, hml, hown, hts⟩, hRf, hRl, hA, hN, hK⟩ N ht2 hP hD hS (lv_sub hl [2, 1, 0] rfl) (fun r4 e1 pc H locs ls r0 hd hr hP hD hS => ?_) (fun s3 H locs ls e1 hP hD hS hl => ?_)
  · subst e1
    have hf := z_sl hf
    obtain rfl := Option.some.inj hf
    exact hret pc H locs ls r0 hd hr hP hD hS
  subst e1
  replace hf := z_sr hf
  refine lv_iconst (v := (-1)) hx hb dX5_wrong_77 (by decide) ?_
  obtain rfl := Option.some.inj hf
  exact hret _ _ _ _ _ dX5_wrong_78 rfl hP hD hS
set_option maxHeartbeats 4000000 in
set_option maxRecDepth 100000 in
theorem k_X5_wrong (l : Launch) (dC : Nat → ClassId) (dI : Nat → Nat → Nat) (cI cZ cJ cA : ClassId) (h0 : Nat) (a : Nat → Nat) (sz : Nat) (N : Nat) (x1 : Int32) (x3 : Int32) (x4 : Int32) (x5 : Int32) (x6 : Int32) (x7 : Int32) (x9 : Int32) (x10 : Int32) (x14 : Int32) (x15 : Int32) (x16 : Int32) (x19 : Int32) (x20 : Int32) (x21 : Int32) (x22 : Int32) (x23 : Int32) (x24 : Int32) (x41 : Int32) (x42 : Int32) (f0 : (Nat → Int32)) (f2 : (Nat → Int32)) (f8 : (Nat → Int32)) (f11 : (Nat → Int32)) (f12 : (Nat → Int32)) (f13 : (Nat → Int32)) (f17 : (Nat → Int32)) (f18 : (Nat → Int32)) (f25 : (Nat → Int32)) (f26 : (Nat → Int32)) (f27 : (Nat → Int32)) (f28 : (Nat → Int32)) (f29 : (Nat → Int32)) (f30 : (Nat → Int32)) (f31 : (Nat → Int32)) (f32 : (Nat → Int32)) (f33 : (Nat → Int32)) (f34 : (Nat → Int32)) (f35 : (Nat → Int32)) (f36 : (Nat → Int32)) (f37 : (Nat → Int32)) (f38 : (Nat → Int32)) (f39 : (Nat → Int32)) (f40 : (Nat → Int32)) (f43 : (Nat → Int32)) (o : Int32) (hf : q_X5_wrong N x41 x42 f35 f36 f37 f38 f39 f40 = some o) : Met l yX5_wrong wsX5_wrong ({ frames := 2, cells := 0, slots := 0, locals := 52 } : Room) (z_Pre dC dI (z_ty cI cZ cJ cA) [.ref h0] sz (wX5 cI cZ cJ cA h0 a x1 x3 x4 x5 x6 x7 x9 x10 x14 x15 x16 x19 x20 x21 x22 x23 x24 x41 x42 f0 f2 f8 f11 f12 f13 f17 f18 f25 f26 f27 f28 f29 f30 f31 f32 f33 f34 f35 f36 f37 f38 f39 f40 f43)) (z_Pi dC dI o (wX5 cI cZ cJ cA h0 a x1 x3 x4 x5 x6 x7 x9 x10 x14 x15 x16 x19 x20 x21 x22 x23 x24 x41 x42 f0 f2 f8 f11 f12 f13 f17 f18 f25 f26 f27 f28 f29 f30 f31 f32 f33 f34 f35 f36 f37 f38 f39 f40 f43) sz (wX5 cI cZ cJ cA h0 a x1 x3 x4 x5 x6 x7 x9 x10 x14 x15 x16 x19 x20 x21 x22 x23 x24 x41 x42 f0 f2 f8 f11 f12 f13 f17 f18 f25 f26 f27 f28 f29 f30 f31 f32 f33 f34 f35 f36 f37 f38 f39 f40 f43)) 0 0 (va_A (wX5 cI cZ cJ cA h0 a x1 x3 x4 x5 x6 x7 x9 x10 x14 x15 x16 x19 x20 x21 x22 x23 x24 x41 x42 f0 f2 f8 f11 f12 f13 f17 f18 f25 f26 f27 f28 f29 f30 f31 f32 f33 f34 f35 f36 f37 f38 f39 f40 f43) sz) := by
  refine Met.ofW (cc := cX5_wrong) (maxL := 5) (ret := (some .int)) (by decide) rfl ?_
  intro p e s m args below meth c s₁ B hml hv
  obtain ⟨rfl, hsz, hP, hK, hD0, hN⟩ := hv
  subst hsz
  have hl := lv_entry ([.ref h0]) (n := 5) (Nat.le_of_ble_eq_true rfl)
  rw [lg_entry_eq]
  refine b_X5_wrong N ⟨⟨B.exec, B.bytes, hml, findClass_of_methodNamed B.named, atoms_spec (ws := wsX5_wrong) B.pre⟩, Nat.le_refl _, Nat.le_refl _, fun q h => Or.inr h, hN, hK⟩ hf hP hD0.self va_S.rf hl (fun pc H locs ls r hd hr hP hD hS => ?_)
  subst hr
  exact W.iret B.exec B.bytes B.returns (fun t ht hW => ⟨⟨_, (), rfl, rfl, by rw [ht]; exact hP, hD⟩, hS.F ht⟩) hS.2.2 hd
def q_X5_letter (N : Nat) (v1 : Int32) (v2 : Int32) (x41 : Int32) (f38 : (Nat → Int32)) : Option Int32 :=
  (Option.bind (q_X5_isStone N v1 x41) (fun o1 =>
  (if o1 = 0 then
   (some (-1))
  else
   (Option.bind (q_X5_in N v2 0 7) (fun o3 =>
   (if o3 = 0 then
    (some (-1))
   else
    (if z_in ((8 * v1) + v2) 48 then
    (some (f38 (Int32.toNatClampNeg ((8 * v1) + v2))))
    else none)))))))
set_option maxHeartbeats 4000000 in
set_option maxRecDepth 100000 in
theorem b_X5_letter {p : Program} {l : Launch} {e : Env} {R : Room} {s : State} {m : MethodId} {args : Array Value} {below : List Frame} {meth : Method} {c : Code} {Q : State → Prop} {A : Nat → Prop} {dC : Nat → ClassId} {dI : Nat → Nat → Nat} {cI cZ cJ cA : ClassId} {h0 : Nat} {a : Nat → Nat} (N : Nat) (C0 : z_Cx p s m args c cX5_letter 3 wsX5_letter RX5 R 2 43 A dC dI (z_ty cI cZ cJ cA)) {v1 : Int32} {v2 : Int32} {x1 : Int32} {x3 : Int32} {x4 : Int32} {x5 : Int32} {x6 : Int32} {x7 : Int32} {x9 : Int32} {x10 : Int32} {x14 : Int32} {x15 : Int32} {x16 : Int32} {x19 : Int32} {x20 : Int32} {x21 : Int32} {x22 : Int32} {x23 : Int32} {x24 : Int32} {x41 : Int32} {x42 : Int32} {f0 : (Nat → Int32)} {f2 : (Nat → Int32)} {f8 : (Nat → Int32)} {f11 : (Nat → Int32)} {f12 : (Nat → Int32)} {f13 : (Nat → Int32)} {f17 : (Nat → Int32)} {f18 : (Nat → Int32)} {f25 : (Nat → Int32)} {f26 : (Nat → Int32)} {f27 : (Nat → Int32)} {f28 : (Nat → Int32)} {f29 : (Nat → Int32)} {f30 : (Nat → Int32)} {f31 : (Nat → Int32)} {f32 : (Nat → Int32)} {f33 : (Nat → Int32)} {f34 : (Nat → Int32)} {f35 : (Nat → Int32)} {f36 : (Nat → Int32)} {f37 : (Nat → Int32)} {f38 : (Nat → Int32)} {f39 : (Nat → Int32)} {f40 : (Nat → Int32)} {f43 : (Nat → Int32)} {o : Int32} {H : Heap} {locs : List Loc} {ls : Array Slot} (hf : q_X5_letter N v1 v2 x41 f38 = some o) (hP : va_P (dC, dI) vwCl (wX5 cI cZ cJ cA h0 a x1 x3 x4 x5 x6 x7 x9 x10 x14 x15 x16 x19 x20 x21 x22 x23 x24 x41 x42 f0 f2 f8 f11 f12 f13 f17 f18 f25 f26 f27 f28 f29 f30 f31 f32 f33 f34 f35 f36 f37 f38 f39 f40 f43) H) (hD : va_D A (wX5 cI cZ cJ cA h0 a x1 x3 x4 x5 x6 x7 x9 x10 x14 x15 x16 x19 x20 x21 x22 x23 x24 x41 x42 f0 f2 f8 f11 f12 f13 f17 f18 f25 f26 f27 f28 f29 f30 f31 f32 f33 f34 f35 f36 f37 f38 f39 f40 f43)) (hS : va_S A s.heap H locs) (hl : lv_has ls 3 [(0, .ref h0), (1, .int v1), (2, .int v2)])
    (hret : ∀ (pc : Nat) (H : Heap) (locs : List Loc) (ls : Array Slot) (r : Int32), decode cX5_letter pc = .ok (.ireturn, 1) → r = o → va_P (dC, dI) vwCl (wX5 cI cZ cJ cA h0 a x1 x3 x4 x5 x6 x7 x9 x10 x14 x15 x16 x19 x20 x21 x22 x23 x24 x41 x42 f0 f2 f8 f11 f12 f13 f17 f18 f25 f26 f27 f28 f29 f30 f31 f32 f33 f34 f35 f36 f37 f38 f39 f40 f43) H → va_D A (wX5 cI cZ cJ cA h0 a x1 x3 x4 x5 x6 x7 x9 x10 x14 x15 x16 x19 x20 x21 x22 x23 x24 x41 x42 f0 f2 f8 f11 f12 f13 f17 f18 f25 f26 f27 f28 f29 f30 f31 f32 f33 f34 f35 f36 f37 f38 f39 f40 f43) → va_S A s.heap H locs → W p l e R s m args below meth c H locs 0 0 Q (F0 m pc ls [.int r])) :
    W p l e R s m args below meth c H locs 0 0 Q (F0 m 0 ls []) := by
  obtain ⟨⟨hx, hb, hml, hown, hts⟩, hRf, hRl, hA, hN, hK⟩ := C0
  unfold q_X5_letter at hf
  refine lv_aload_n hx hb dX5_letter_0 rfl (lv_at hl 0 rfl) ?_
  refine lv_iload_n hx hb dX5_letter_1 rfl (lv_at hl 1 rfl) ?_
  obtain ⟨o1, ho1, hf1⟩ := z_ib hf
  replace hf := hf1
  clear hf1
  refine z_Vi (As := [.int v1]) (rest := []) (w := (wX5 cI cZ cJ cA h0 a x1 x3 x4 x5 x6 x7 x9 x10 x14 x15 x16 x19 x20 x21 x22 x23 x24 x41 x42 f0 f2 f8 f11 f12 f13 f17 f18 f25 f26 f27 f28 f29 f30 f31 f32 f33 f34 f35 f36 f37 f38 f39 f40 f43)) (w1 := (wX5 cI cZ cJ cA h0 a x1 x3 x4 x5 x6 x7 x9 x10 x14 x15 x16 x19 x20 x21 x22 x23 x24 x41 x42 f0 f2 f8 f11 f12 f13 f17 f18 f25 f26 f27 f28 f29 f30 f31 f32 f33 f34 f35 f36 f37 f38 f39 f40 f43)) ⟨hx, hb, hml, hown, hts⟩ (k_X5_isStone l dC dI cI cZ cJ cA h0 a H.size N v1 x1 x3 x4 x5 x6 x7 x9 x10 x14 x15 x16 x19 x20 x21 x22 x23 x24 x41 x42 f0 f2 f8 f11 f12 f13 f17 f18 f25 f26 f27 f28 f29 f30 f31 f32 f33 f34 f35 f36 f37 f38 f39 f40 f43 o1 ho1) (cwV 1 hts gX5_letter_X5_isStone rfl rfl rfl (by decide +kernel) ⟨Nat.le_trans (Nat.le_of_ble_eq_true rfl) hRf, Nat.le_trans (Nat.le_of_ble_eq_true rfl) hRl⟩) hK hP hD hS hA hN (ci := 5) rfl rfl rfl rfl hl.1 rfl (Nat.le_of_ble_eq_true rfl) dX5_letter_2 (fun H locs hP hD hS => ?_)
  refine lv_if_eq (tgt := 32) hx hb dX5_letter_5 (by decide) (fun c2 => ?_) (fun c2 => ?_)
  · replace hf := z_ip hf c2
    refine lv_iconst (v := (-1)) hx hb dX5_letter_32 (by decide) ?_
    obtain rfl := Option.some.inj hf
    exact hret _ _ _ _ _ dX5_letter_33 rfl hP hD hS
  · replace hf := z_im hf c2
    refine lv_iload_n hx hb dX5_letter_8 rfl (lv_at hl 2 rfl) ?_
    refine lv_iconst (v := 0) hx hb dX5_letter_9 (by decide) ?_
    refine lv_bipush (v := 7) hx hb dX5_letter_10 (by decide) ?_
    obtain ⟨o3, ho3, hf1⟩ := z_ib hf
    replace hf := hf1
    clear hf1
    refine z_S0 (As := [.int v2, .int 0, .int 7]) (rest := []) ⟨hx, hb, hml, hown, hts⟩ (k_X5_in l dC dI cI cZ cJ cA H.size N v2 0 7 o3 ho3) (va_cwS 3 hts gX5_letter_X5_in rfl rfl rfl (by decide +kernel) ⟨Nat.le_trans (Nat.le_of_ble_eq_true rfl) hRf, Nat.le_trans (Nat.le_of_ble_eq_true rfl) hRl⟩) hK hP hS hA hN rfl hl.1 rfl (Nat.le_of_ble_eq_true rfl) dX5_letter_12 (fun H locs hP hS => ?_)
    refine lv_if_eq (tgt := 32) hx hb dX5_letter_15 (by decide) (fun c4 => ?_) (fun c4 => ?_)
    · replace hf := z_ip hf c4
      refine lv_iconst (v := (-1)) hx hb dX5_letter_32 (by decide) ?_
      obtain rfl := Option.some.inj hf
      exact hret _ _ _ _ _ dX5_letter_33 rfl hP hD hS
    · replace hf := z_im hf c4
      refine lv_aload_n hx hb dX5_letter_18 rfl (lv_at hl 0 rfl) ?_
      refine va_get (D := (dC, dI)) (ci := 5) (v := .ref (a 38)) (C := RX5) (T := TX5) (N := 44) hx hb hts (fun w hw => List.mem_cons_of_mem _ (List.mem_append_right _ hw)) hown hK hP 0 rfl rfl 38 (by decide) (hts (.fieldLink RX5 81 "OldStadiumModel" "letters" "[I") (List.mem_of_getElem? (i := 1) rfl)) (fun _ h9 => h9) rfl dX5_letter_19 ?_
      refine lv_bipush (v := 8) hx hb dX5_letter_22 (by decide) ?_
      refine lv_iload_n hx hb dX5_letter_24 rfl (lv_at hl 1 rfl) ?_
      refine lv_imul hx hb dX5_letter_25 ?_
      refine lv_iload_n hx hb dX5_letter_26 rfl (lv_at hl 2 rfl) ?_
      refine lv_iadd hx hb dX5_letter_27 ?_
      have b5 := z_c1 hf
      replace hf := z_c2 hf
      refine va_iald hx hb hK hP 22 0 rfl rfl b5 dX5_letter_28 ?_
      refine lv_goto (tgt := 33) hx hb dX5_letter_29 (by decide) ?_
      obtain rfl := Option.some.inj hf
      exact hret _ _ _ _ _ dX5_letter_33 rfl hP hD hS
set_option maxHeartbeats 4000000 in
set_option maxRecDepth 100000 in
theorem k_X5_letter (l : Launch) (dC : Nat → ClassId) (dI : Nat → Nat → Nat) (cI cZ cJ cA : ClassId) (h0 : Nat) (a : Nat → Nat) (sz : Nat) (N : Nat) (v1 : Int32) (v2 : Int32) (x1 : Int32) (x3 : Int32) (x4 : Int32) (x5 : Int32) (x6 : Int32) (x7 : Int32) (x9 : Int32) (x10 : Int32) (x14 : Int32) (x15 : Int32) (x16 : Int32) (x19 : Int32) (x20 : Int32) (x21 : Int32) (x22 : Int32) (x23 : Int32) (x24 : Int32) (x41 : Int32) (x42 : Int32) (f0 : (Nat → Int32)) (f2 : (Nat → Int32)) (f8 : (Nat → Int32)) (f11 : (Nat → Int32)) (f12 : (Nat → Int32)) (f13 : (Nat → Int32)) (f17 : (Nat → Int32)) (f18 : (Nat → Int32)) (f25 : (Nat → Int32)) (f26 : (Nat → Int32)) (f27 : (Nat → Int32)) (f28 : (Nat → Int32)) (f29 : (Nat → Int32)) (f30 : (Nat → Int32)) (f31 : (Nat → Int32)) (f32 : (Nat → Int32)) (f33 : (Nat → Int32)) (f34 : (Nat → Int32)) (f35 : (Nat → Int32)) (f36 : (Nat → Int32)) (f37 : (Nat → Int32)) (f38 : (Nat → Int32)) (f39 : (Nat → Int32)) (f40 : (Nat → Int32)) (f43 : (Nat → Int32)) (o : Int32) (hf : q_X5_letter N v1 v2 x41 f38 = some o) : Met l yX5_letter wsX5_letter ({ frames := 2, cells := 0, slots := 0, locals := 43 } : Room) (z_Pre dC dI (z_ty cI cZ cJ cA) [.ref h0, .int v1, .int v2] sz (wX5 cI cZ cJ cA h0 a x1 x3 x4 x5 x6 x7 x9 x10 x14 x15 x16 x19 x20 x21 x22 x23 x24 x41 x42 f0 f2 f8 f11 f12 f13 f17 f18 f25 f26 f27 f28 f29 f30 f31 f32 f33 f34 f35 f36 f37 f38 f39 f40 f43)) (z_Pi dC dI o (wX5 cI cZ cJ cA h0 a x1 x3 x4 x5 x6 x7 x9 x10 x14 x15 x16 x19 x20 x21 x22 x23 x24 x41 x42 f0 f2 f8 f11 f12 f13 f17 f18 f25 f26 f27 f28 f29 f30 f31 f32 f33 f34 f35 f36 f37 f38 f39 f40 f43) sz (wX5 cI cZ cJ cA h0 a x1 x3 x4 x5 x6 x7 x9 x10 x14 x15 x16 x19 x20 x21 x22 x23 x24 x41 x42 f0 f2 f8 f11 f12 f13 f17 f18 f25 f26 f27 f28 f29 f30 f31 f32 f33 f34 f35 f36 f37 f38 f39 f40 f43)) 0 0 (va_A (wX5 cI cZ cJ cA h0 a x1 x3 x4 x5 x6 x7 x9 x10 x14 x15 x16 x19 x20 x21 x22 x23 x24 x41 x42 f0 f2 f8 f11 f12 f13 f17 f18 f25 f26 f27 f28 f29 f30 f31 f32 f33 f34 f35 f36 f37 f38 f39 f40 f43) sz) := by
  refine Met.ofW (cc := cX5_letter) (maxL := 3) (ret := (some .int)) (by decide) rfl ?_
  intro p e s m args below meth c s₁ B hml hv
  obtain ⟨rfl, hsz, hP, hK, hD0, hN⟩ := hv
  subst hsz
  have hl := lv_entry ([.ref h0, .int v1, .int v2]) (n := 3) (Nat.le_of_ble_eq_true rfl)
  rw [lg_entry_eq]
  refine b_X5_letter N ⟨⟨B.exec, B.bytes, hml, findClass_of_methodNamed B.named, atoms_spec (ws := wsX5_letter) B.pre⟩, Nat.le_refl _, Nat.le_refl _, fun q h => Or.inr h, hN, hK⟩ hf hP hD0.self va_S.rf hl (fun pc H locs ls r hd hr hP hD hS => ?_)
  subst hr
  exact W.iret B.exec B.bytes B.returns (fun t ht hW => ⟨⟨_, (), rfl, rfl, by rw [ht]; exact hP, hD⟩, hS.F ht⟩) hS.2.2 hd

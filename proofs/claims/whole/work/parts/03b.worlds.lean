theorem z_nar0 : narrow .boolean (.int 0) = .int 0 := rfl
theorem z_nar1 : narrow .boolean (.int 1) = .int 1 := rfl
section ZR
variable {p : Program} {l : Launch} {e : Env} {R : Room} {s : State} {m : MethodId} {args : Array Value} {below : List Frame} {meth : Method} {c : Code} {H : Heap} {locs : List Loc} {Q : State → Prop}
  {Ts ws : List Cond} {cc bytes : ByteArray} {nL maxL index n pc : Nat} {own : String} {y : MethodName} {ret : Option FieldType} {rm : Room} {A : Nat → Prop} {b : Nat} {As rest st0 : List Value} {ls : Array Slot}
  {dC : Nat → ClassId} {dI : Nat → Nat → Nat} {tys : List (ClassId × FieldType)} {w : va_W}
/-- a static call on one cell of the world, nothing comes -/
theorem z_SvR {e0 w1e : va_E} {k : Nat} (F : CallFix p m c cc nL s args Ts own) (hM : Met l y ws rm (z_Pre dC dI tys As H.size [(b, e0)]) (z_Pv dC dI [(b, w1e)] H.size [(b, e0)]) 0 0 (va_A [(b, e0)] H.size)) (cw : CallB R s args own index y bytes maxL ret ws rm 0 0 n ∧ (Cond.static y).before args s = true)
    (hK : va_K (dC, dI) vwCl tys s) (hP : va_P (dC, dI) vwCl w H) (hD : va_D A w) (hS : va_S A s.heap H locs) (hA : ∀ q, s.heap.size ≤ q → A q) (hN : z_nw s) (he : w[k]? = some (b, e0))
    (hn : As.length = n) (hsize : ls.size = nL) (hstack : st0 = As.reverse ++ rest) (hW : (rest.map fun v => v.category).sum ≤ 8) (hdg : decode cc pc = .ok (.invokestatic index, 3))
    (kk : ∀ (H1 : Heap) (locs1 : List Loc), va_P (dC, dI) vwCl (w.set k (b, w1e)) H1 → va_D A (w.set k (b, w1e)) → va_S A s.heap H1 locs1 → W p l e R s m args below meth c H1 locs1 0 0 Q (F0 m (pc + 3) ls rest)) : W p l e R s m args below meth c H locs 0 0 Q (F0 m pc ls st0) := by
  have one : ∀ (i : Nat) (q : Nat × va_E) (x : Nat × va_E), ([x] : va_W)[i]? = some q → q = x := fun i q x h => by
    have h0 : i < 1 := (List.getElem?_eq_some_iff.mp h).1
    rw [show i = 0 by omega] at h
    exact (Option.some.inj h).symm
  have hPc : va_P (dC, dI) vwCl [(b, e0)] H := fun i q h => by
    rw [one i q _ h]
    exact hP k _ he
  have hDc : va_D (fun _ => True) [(b, e0)] := ⟨fun i j p q h1 h2 _ => by
    have h3 : i < 1 := (List.getElem?_eq_some_iff.mp h1).1
    have h4 : j < 1 := (List.getElem?_eq_some_iff.mp h2).1
    omega, fun _ _ _ => trivial⟩
  have hF : ∀ q, va_A [(b, e0)] H.size q → A q := fun q h => by
    rcases h with ⟨i, e1, hi⟩ | h
    · have h1 := one i _ _ hi
      have h2 : q = b := congrArg Prod.fst h1
      rw [h2]
      exact hD.2 k _ he
    · exact hA q (Nat.le_trans hS.1 h)
  refine va_callv (va_runS F hM cw ⟨z_blind, fun U hU hWm => ⟨rfl, by rw [hU], by rw [hU]; exact hPc, va_K.moved hWm.alike hK, hDc, z_nw_warm hWm hN⟩⟩ rfl hn hsize hstack (by show 2 * 0 + _ ≤ 8; omega) hdg ⟨Nat.zero_le _, Nat.zero_le _⟩) hS (fun q _ h => hF q h) hF (fun u t H1 locs1 ht hvm hw hB hz1 hk1 hS1 => ?_)
  obtain ⟨hP1, hD1⟩ := hB
  rw [ht] at hP1
  refine kk H1 locs1 (fun j q hj => ?_) (hD.set he) hS1
  rw [List.getElem?_set] at hj
  by_cases hkj : k = j
  · subst hkj
    have hkl : k < w.length := (List.getElem?_eq_some_iff.mp he).1
    rw [if_pos rfl, if_pos hkl] at hj
    rw [← Option.some.inj hj]
    exact hP1 0 _ rfl
  · rw [if_neg hkj] at hj
    refine (hP j q hj).kept (hk1 _ (hP j q hj).lt (fun hz => ?_))
    rcases hz with ⟨i, e1, hi⟩ | hz
    · have h1 := one i _ _ hi
      have h2 : q.1 = b := congrArg Prod.fst h1
      exact hkj (hD.1 j k q (b, e0) hj he h2).symm
    · exact absurd (hP j q hj).lt (by omega)
end ZR
abbrev oX0 (a : Nat → Nat) (x2 x3 x4 : Int32) : va_E := .inr (0, [.ref (a 0), .ref (a 1), .int x2, .int x3, .int x4])
abbrev wX0 (cI cZ cJ cA : ClassId) (h0 : Nat) (a : Nat → Nat) (x2 x3 x4 : Int32) (f0 f1 : Nat → Int32) : va_W := [(h0, oX0 a x2 x3 x4), (a 0, z_I cI 4 f0), (a 1, z_I cI 4 f1)]
abbrev oX1 (a : Nat → Nat) (x5 x6 x7 x8 x9 x10 x11 x12 x13 x14 x15 : Int32) : va_E := .inr (1, [.ref (a 0), .ref (a 1), .ref (a 2), .ref (a 3), .ref (a 4), .int x5, .int x6, .int x7, .int x8, .int x9, .int x10, .int x11, .int x12, .int x13, .int x14, .int x15])
abbrev wX1 (cI cZ cJ cA : ClassId) (h0 : Nat) (a : Nat → Nat) (r4 : Nat → Nat) (x5 x6 x7 x8 x9 x10 x11 x12 x13 x14 x15 : Int32) (f0 f1 f2 f3 : Nat → Int32) (V4 : Nat → Nat → Int32) : va_W := [(h0, oX1 a x5 x6 x7 x8 x9 x10 x11 x12 x13 x14 x15), (a 0, z_I cI 24 f0), (a 1, z_I cI 9 f1), (a 2, z_I cI 24 f2), (a 3, z_I cI 12 f3), (a 4, z_O cA 9 r4)] ++ z_rows cI r4 V4 9 12
theorem zrX1_4 {cI cZ cJ cA : ClassId} {h0 : Nat} {a : Nat → Nat} {r4 : Nat → Nat} {x5 x6 x7 x8 x9 x10 x11 x12 x13 x14 x15 : Int32} {f0 f1 f2 f3 : Nat → Int32} {V4 : Nat → Nat → Int32} {i : Nat} (hi : i < 9) : (wX1 cI cZ cJ cA h0 a r4 x5 x6 x7 x8 x9 x10 x11 x12 x13 x14 x15 f0 f1 f2 f3 V4)[6 + i]? = some (r4 i, z_I cI 12 (V4 i)) := by
  match i, hi with
  | 0, _ => rfl
  | 1, _ => rfl
  | 2, _ => rfl
  | 3, _ => rfl
  | 4, _ => rfl
  | 5, _ => rfl
  | 6, _ => rfl
  | 7, _ => rfl
  | 8, _ => rfl
  | n + 9, h => exact absurd h (by omega)
theorem zsX1_4 {cI cZ cJ cA : ClassId} {h0 : Nat} {a : Nat → Nat} {r4 : Nat → Nat} {x5 x6 x7 x8 x9 x10 x11 x12 x13 x14 x15 : Int32} {f0 f1 f2 f3 : Nat → Int32} {V4 : Nat → Nat → Int32} {i : Nat} {g : Nat → Int32} (hi : i < 9) : (wX1 cI cZ cJ cA h0 a r4 x5 x6 x7 x8 x9 x10 x11 x12 x13 x14 x15 f0 f1 f2 f3 V4).set (6 + i) (r4 i, z_I cI 12 g) = wX1 cI cZ cJ cA h0 a r4 x5 x6 x7 x8 x9 x10 x11 x12 x13 x14 x15 f0 f1 f2 f3 (z_upR V4 i g) := by
  match i, hi with
  | 0, _ => rfl
  | 1, _ => rfl
  | 2, _ => rfl
  | 3, _ => rfl
  | 4, _ => rfl
  | 5, _ => rfl
  | 6, _ => rfl
  | 7, _ => rfl
  | 8, _ => rfl
  | n + 9, h => exact absurd h (by omega)
abbrev oX2 (a : Nat → Nat) (x10 x11 x12 x13 x14 x15 : Int32) : va_E := .inr (2, [.ref (a 0), .ref (a 1), .ref (a 2), .ref (a 3), .ref (a 4), .ref (a 5), .ref (a 6), .ref (a 7), .ref (a 8), .ref (a 9), .int x10, .int x11, .int x12, .int x13, .int x14, .int x15])
abbrev wX2 (cI cZ cJ cA : ClassId) (h0 : Nat) (a : Nat → Nat) (r8 : Nat → Nat) (r9 : Nat → Nat) (x10 x11 x12 x13 x14 x15 : Int32) (f0 f1 f2 f3 f4 f5 f6 f7 : Nat → Int32) (V8 V9 : Nat → Nat → Int32) : va_W := [(h0, oX2 a x10 x11 x12 x13 x14 x15), (a 0, z_I cI 8 f0), (a 1, z_I cI 8 f1), (a 2, z_I cI 8 f2), (a 3, z_I cI 8 f3), (a 4, z_I cI 8 f4), (a 5, z_I cI 8 f5), (a 6, z_I cI 8 f6), (a 7, z_I cI 8 f7), (a 8, z_O cA 8 r8), (a 9, z_O cA 8 r9)] ++ (z_rows cI r8 V8 8 12 ++ z_rows cI r9 V9 8 12)
theorem zrX2_8 {cI cZ cJ cA : ClassId} {h0 : Nat} {a : Nat → Nat} {r8 r9 : Nat → Nat} {x10 x11 x12 x13 x14 x15 : Int32} {f0 f1 f2 f3 f4 f5 f6 f7 : Nat → Int32} {V8 V9 : Nat → Nat → Int32} {i : Nat} (hi : i < 8) : (wX2 cI cZ cJ cA h0 a r8 r9 x10 x11 x12 x13 x14 x15 f0 f1 f2 f3 f4 f5 f6 f7 V8 V9)[11 + i]? = some (r8 i, z_I cI 12 (V8 i)) := by
  match i, hi with
  | 0, _ => rfl
  | 1, _ => rfl
  | 2, _ => rfl
  | 3, _ => rfl
  | 4, _ => rfl
  | 5, _ => rfl
  | 6, _ => rfl
  | 7, _ => rfl
  | n + 8, h => exact absurd h (by omega)
theorem zsX2_8 {cI cZ cJ cA : ClassId} {h0 : Nat} {a : Nat → Nat} {r8 r9 : Nat → Nat} {x10 x11 x12 x13 x14 x15 : Int32} {f0 f1 f2 f3 f4 f5 f6 f7 : Nat → Int32} {V8 V9 : Nat → Nat → Int32} {i : Nat} {g : Nat → Int32} (hi : i < 8) : (wX2 cI cZ cJ cA h0 a r8 r9 x10 x11 x12 x13 x14 x15 f0 f1 f2 f3 f4 f5 f6 f7 V8 V9).set (11 + i) (r8 i, z_I cI 12 g) = wX2 cI cZ cJ cA h0 a r8 r9 x10 x11 x12 x13 x14 x15 f0 f1 f2 f3 f4 f5 f6 f7 (z_upR V8 i g) V9 := by
  match i, hi with
  | 0, _ => rfl
  | 1, _ => rfl
  | 2, _ => rfl
  | 3, _ => rfl
  | 4, _ => rfl
  | 5, _ => rfl
  | 6, _ => rfl
  | 7, _ => rfl
  | n + 8, h => exact absurd h (by omega)
theorem zrX2_9 {cI cZ cJ cA : ClassId} {h0 : Nat} {a : Nat → Nat} {r8 r9 : Nat → Nat} {x10 x11 x12 x13 x14 x15 : Int32} {f0 f1 f2 f3 f4 f5 f6 f7 : Nat → Int32} {V8 V9 : Nat → Nat → Int32} {i : Nat} (hi : i < 8) : (wX2 cI cZ cJ cA h0 a r8 r9 x10 x11 x12 x13 x14 x15 f0 f1 f2 f3 f4 f5 f6 f7 V8 V9)[19 + i]? = some (r9 i, z_I cI 12 (V9 i)) := by
  match i, hi with
  | 0, _ => rfl
  | 1, _ => rfl
  | 2, _ => rfl
  | 3, _ => rfl
  | 4, _ => rfl
  | 5, _ => rfl
  | 6, _ => rfl
  | 7, _ => rfl
  | n + 8, h => exact absurd h (by omega)
theorem zsX2_9 {cI cZ cJ cA : ClassId} {h0 : Nat} {a : Nat → Nat} {r8 r9 : Nat → Nat} {x10 x11 x12 x13 x14 x15 : Int32} {f0 f1 f2 f3 f4 f5 f6 f7 : Nat → Int32} {V8 V9 : Nat → Nat → Int32} {i : Nat} {g : Nat → Int32} (hi : i < 8) : (wX2 cI cZ cJ cA h0 a r8 r9 x10 x11 x12 x13 x14 x15 f0 f1 f2 f3 f4 f5 f6 f7 V8 V9).set (19 + i) (r9 i, z_I cI 12 g) = wX2 cI cZ cJ cA h0 a r8 r9 x10 x11 x12 x13 x14 x15 f0 f1 f2 f3 f4 f5 f6 f7 V8 (z_upR V9 i g) := by
  match i, hi with
  | 0, _ => rfl
  | 1, _ => rfl
  | 2, _ => rfl
  | 3, _ => rfl
  | 4, _ => rfl
  | 5, _ => rfl
  | 6, _ => rfl
  | 7, _ => rfl
  | n + 8, h => exact absurd h (by omega)
abbrev oX3 (a : Nat → Nat) (x7 x8 x12 x13 : Int32) : va_E := .inr (3, [.ref (a 0), .ref (a 1), .ref (a 2), .ref (a 3), .ref (a 4), .ref (a 5), .ref (a 6), .int x7, .int x8, .ref (a 9), .ref (a 10), .ref (a 11), .int x12, .int x13])
abbrev wX3 (cI cZ cJ cA : ClassId) (h0 : Nat) (a : Nat → Nat) (x7 x8 x12 x13 : Int32) (f0 f1 f2 f3 f4 f5 f6 f9 f10 : Nat → Int32) (f11 : Nat → Int64) : va_W := [(h0, oX3 a x7 x8 x12 x13), (a 0, z_I cI 6 f0), (a 1, z_I cI 6 f1), (a 2, z_I cI 6 f2), (a 3, z_I cI 6 f3), (a 4, z_I cI 6 f4), (a 5, z_I cI 6 f5), (a 6, z_I cI 6 f6), (a 9, z_I cI 6 f9), (a 10, z_I cI 6 f10), (a 11, z_J cJ 6 f11)]
abbrev oX5 (a : Nat → Nat) (x1 x3 x4 x5 x6 x7 x9 x10 x14 x15 x16 x19 x20 x21 x22 x23 x24 x41 x42 : Int32) : va_E := .inr (5, [.ref (a 0), .int x1, .ref (a 2), .int x3, .int x4, .int x5, .int x6, .int x7, .ref (a 8), .int x9, .int x10, .ref (a 11), .ref (a 12), .ref (a 13), .int x14, .int x15, .int x16, .ref (a 17), .ref (a 18), .int x19, .int x20, .int x21, .int x22, .int x23, .int x24, .ref (a 25), .ref (a 26), .ref (a 27), .ref (a 28), .ref (a 29), .ref (a 30), .ref (a 31), .ref (a 32), .ref (a 33), .ref (a 34), .ref (a 35), .ref (a 36), .ref (a 37), .ref (a 38), .ref (a 39), .ref (a 40), .int x41, .int x42, .ref (a 43)])
abbrev wX5 (cI cZ cJ cA : ClassId) (h0 : Nat) (a : Nat → Nat) (x1 x3 x4 x5 x6 x7 x9 x10 x14 x15 x16 x19 x20 x21 x22 x23 x24 x41 x42 : Int32) (f0 f2 f8 f11 f12 f13 f17 f18 f25 f26 f27 f28 f29 f30 f31 f32 f33 f34 f35 f36 f37 f38 f39 f40 f43 : Nat → Int32) : va_W := [(h0, oX5 a x1 x3 x4 x5 x6 x7 x9 x10 x14 x15 x16 x19 x20 x21 x22 x23 x24 x41 x42), (a 0, z_I cI 24 f0), (a 2, z_I cI 9 f2), (a 8, z_I cI 24 f8), (a 11, z_I cZ 24 f11), (a 12, z_I cI 24 f12), (a 13, z_I cI 216 f13), (a 17, z_I cI 4 f17), (a 18, z_I cI 4 f18), (a 25, z_I cI 8 f25), (a 26, z_I cI 8 f26), (a 27, z_I cI 8 f27), (a 28, z_I cI 8 f28), (a 29, z_I cI 8 f29), (a 30, z_I cI 8 f30), (a 31, z_I cI 8 f31), (a 32, z_I cI 8 f32), (a 33, z_I cI 96 f33), (a 34, z_I cI 96 f34), (a 35, z_I cI 6 f35), (a 36, z_I cI 6 f36), (a 37, z_I cI 6 f37), (a 38, z_I cI 48 f38), (a 39, z_I cI 6 f39), (a 40, z_I cZ 36 f40), (a 43, z_I cZ 24 f43)]
abbrev wJFI (cI cZ cJ cA : ClassId) (h0 : Nat) (len : Nat) (f0 : Nat → Int32) : va_W := [(h0, z_I cI len f0)]
abbrev wJFJ (cI cZ cJ cA : ClassId) (h0 : Nat) (len : Nat) (f0 : Nat → Int64) : va_W := [(h0, z_J cJ len f0)]

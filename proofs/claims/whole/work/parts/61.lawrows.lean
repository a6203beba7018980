/-! THE CLAIM OUT OF ONE WALK OF THE LAW'S BODY. Your part is whole_start (and what it stands on); all else here is the same for every law, but numbers. -/
def R_law : String := "OldStadiumLaw"
def lw_P (b : Addr) (xs : List Int32) (args : Array Value) (s : State) : Prop := args = #[.ref b] ∧ s.IntsAt b xs ∧ xs.length ≤ 3584 ∧ (Jvm.Cond.and given_1 narrow_1).before args s = true
def lw_Q (_ : Array Value) (s : State) (o : Outcome) (t : State) : Prop := o = .returned (some (.int 1)) ∧ Framed s o t [] 600000 7302250
def lw_Z (below : List Frame) (a : Array Value) (s : State) : State → Prop := fun t => ∃ o, t.status = .running ∧ Ended t below o ∧ lw_Q a s o t
/-- the law's own end, with 1 on the stack, nothing written that was there before, its room as the claim has it -/
theorem lw_ret {p : Program} {l : Launch} {e : Env} {s : State} {m : MethodId} {below : List Frame} {meth : Method} {c : Code} {b : Nat} (hx : p.tables.exec = Jvm.exec) (hb : c.code = code) (hr : meth.sig.returnType = ret) (hlocks : meth.locks = false) {pc : Nat} {H : Heap} {ls : Array Slot} (hdg : decode code pc = .ok (.ireturn, 1)) : W p l e room_1 s m #[Value.ref b] below meth c H [] 600000 7302250 (lw_Z below #[Value.ref b] s) (F0 m pc ls [.int 1]) := by
  intro T hT X
  obtain ⟨fs, hret, hrun, hended, hW, hframe⟩ := X.leave (v := some (.int 1)) (hlocks := hlocks) (fun h => by rw [hr] at h; cases h)
  have hmeth' : T.vm.method? m = some meth := X.method'
  refine ⟨T.setFrames fs, ?_, .returned (some (.int 1)), hrun, hended, rfl, ⟨_, rfl⟩, hW, hframe⟩
  jvm_step X.here [X.here.top, hx, hb, hdg, hmeth', hr, ret, narrow_b1]
  (try refine ⟨rfl, ?_⟩); (try refine ⟨rfl, ?_⟩)
  first | (intro acts; rw [hret _ acts rfl rfl rfl]) | rw [hret _ _ rfl rfl rfl]
  exact Steps.refl _
/-- what holds at the law's entry: the machine, the code, the tables' words (any of lw_tbl by 'hts w (by decide +kernel)'), the script of L ints xs at the cell b, what the Statement gives of the start (any of its parts by flat_of_before) -/
def lw_At (p : Program) (s : State) (m : MethodId) (meth : Method) (c : Code) (b L : Nat) (xs : Nat → Int32) : Prop :=
  p.tables.exec = Jvm.exec ∧ c.code = code ∧ meth.sig.returnType = ret ∧ c.maxLocals = 4 ∧ s.vm.findClass R_law = some m.cls ∧ (∀ w ∈ lw_tbl, w.before #[Value.ref b] s = true) ∧ va_X b L xs s s.heap ∧ b < s.heap.size ∧ meth.locks = false ∧ (Jvm.Cond.and given_1 narrow_1).before #[Value.ref b] s = true
/-! ===== the law: what stays, what holds at its loop's head, its rows ===== -/
def lw_I (cI cZ cJ cA : ClassId) (hx : Nat) (h1 : Nat) (a1 : Nat → Nat) (r1_4 : Nat → Nat) (h0 : Nat) (a0 : Nat → Nat) (h2 : Nat) (a2 : Nat → Nat) (r2_8 : Nat → Nat) (r2_9 : Nat → Nat) (h3 : Nat) (a3 : Nat → Nat) (h5 : Nat) (a5 : Nat → Nat) (i : Nat) (w : va_W) : Prop := ∃ (x1_5 : Int32) (x1_6 : Int32) (x1_7 : Int32) (x1_8 : Int32) (x1_9 : Int32) (x1_10 : Int32) (x1_11 : Int32) (x1_12 : Int32) (x1_13 : Int32) (x1_14 : Int32) (x1_15 : Int32) (f1_0 : (Nat → Int32)) (f1_1 : (Nat → Int32)) (f1_2 : (Nat → Int32)) (f1_3 : (Nat → Int32)) (V1_4 : (Nat → Nat → Int32)) (x0_2 : Int32) (x0_3 : Int32) (x0_4 : Int32) (f0_0 : (Nat → Int32)) (f0_1 : (Nat → Int32)) (x2_10 : Int32) (x2_11 : Int32) (x2_12 : Int32) (x2_13 : Int32) (x2_14 : Int32) (x2_15 : Int32) (f2_0 : (Nat → Int32)) (f2_1 : (Nat → Int32)) (f2_2 : (Nat → Int32)) (f2_3 : (Nat → Int32)) (f2_4 : (Nat → Int32)) (f2_5 : (Nat → Int32)) (f2_6 : (Nat → Int32)) (f2_7 : (Nat → Int32)) (V2_8 : (Nat → Nat → Int32)) (V2_9 : (Nat → Nat → Int32)) (x3_7 : Int32) (x3_8 : Int32) (x3_12 : Int32) (x3_13 : Int32) (f3_0 : (Nat → Int32)) (f3_1 : (Nat → Int32)) (f3_2 : (Nat → Int32)) (f3_3 : (Nat → Int32)) (f3_4 : (Nat → Int32)) (f3_5 : (Nat → Int32)) (f3_6 : (Nat → Int32)) (f3_9 : (Nat → Int32)) (f3_10 : (Nat → Int32)) (f3_11 : (Nat → Int64)) (x5_1 : Int32) (x5_3 : Int32) (x5_4 : Int32) (x5_5 : Int32) (x5_6 : Int32) (x5_7 : Int32) (x5_9 : Int32) (x5_10 : Int32) (x5_14 : Int32) (x5_15 : Int32) (x5_16 : Int32) (x5_19 : Int32) (x5_20 : Int32) (x5_21 : Int32) (x5_22 : Int32) (x5_23 : Int32) (x5_24 : Int32) (x5_41 : Int32) (x5_42 : Int32) (f5_0 : (Nat → Int32)) (f5_2 : (Nat → Int32)) (f5_8 : (Nat → Int32)) (f5_11 : (Nat → Int32)) (f5_12 : (Nat → Int32)) (f5_13 : (Nat → Int32)) (f5_17 : (Nat → Int32)) (f5_18 : (Nat → Int32)) (f5_25 : (Nat → Int32)) (f5_26 : (Nat → Int32)) (f5_27 : (Nat → Int32)) (f5_28 : (Nat → Int32)) (f5_29 : (Nat → Int32)) (f5_30 : (Nat → Int32)) (f5_31 : (Nat → Int32)) (f5_32 : (Nat → Int32)) (f5_33 : (Nat → Int32)) (f5_34 : (Nat → Int32)) (f5_35 : (Nat → Int32)) (f5_36 : (Nat → Int32)) (f5_37 : (Nat → Int32)) (f5_38 : (Nat → Int32)) (f5_39 : (Nat → Int32)) (f5_40 : (Nat → Int32)) (f5_43 : (Nat → Int32)), w = (w4 cI cZ cJ cA hx h1 a1 r1_4 h0 a0 h2 a2 r2_8 r2_9 h3 a3 x1_5 x1_6 x1_7 x1_8 x1_9 x1_10 x1_11 x1_12 x1_13 x1_14 x1_15 f1_0 f1_1 f1_2 f1_3 V1_4 x0_2 x0_3 x0_4 f0_0 f0_1 x2_10 x2_11 x2_12 x2_13 x2_14 x2_15 f2_0 f2_1 f2_2 f2_3 f2_4 f2_5 f2_6 f2_7 V2_8 V2_9 x3_7 x3_8 x3_12 x3_13 f3_0 f3_1 f3_2 f3_3 f3_4 f3_5 f3_6 f3_9 f3_10 f3_11) ++ (wX5 cI cZ cJ cA h5 a5 x5_1 x5_3 x5_4 x5_5 x5_6 x5_7 x5_9 x5_10 x5_14 x5_15 x5_16 x5_19 x5_20 x5_21 x5_22 x5_23 x5_24 x5_41 x5_42 f5_0 f5_2 f5_8 f5_11 f5_12 f5_13 f5_17 f5_18 f5_25 f5_26 f5_27 f5_28 f5_29 f5_30 f5_31 f5_32 f5_33 f5_34 f5_35 f5_36 f5_37 f5_38 f5_39 f5_40 f5_43) ∧ i_H x1_5 x1_6 x1_7 x1_8 x1_9 x1_10 x1_11 x1_12 x1_13 x1_14 x1_15 f1_0 f1_1 f1_2 f1_3 V1_4 x5_1 x5_3 x5_4 x5_5 x5_6 x5_7 x5_9 x5_10 x5_14 f5_0 f5_2 f5_8 f5_11 f5_12 f5_13 f5_43 ∧ i_F x0_2 x0_3 x0_4 f0_0 f0_1 x5_15 x5_16 f5_17 f5_18 ∧ i_C i x2_10 x2_11 x2_12 x2_13 x2_14 x2_15 f2_0 f2_1 f2_2 f2_3 f2_4 f2_5 f2_6 f2_7 V2_8 V2_9 x5_19 x5_20 x5_21 x5_22 x5_23 x5_24 f5_25 f5_26 f5_27 f5_28 f5_29 f5_30 f5_31 f5_32 f5_33 f5_34 ∧ i_Q x3_7 x3_8 x3_12 x3_13 f3_0 f3_1 f3_2 f3_3 f3_4 f3_5 f3_6 f3_9 f3_10 f3_11 x5_41 x5_42 f5_35 f5_36 f5_37 f5_38 f5_39 f5_40
abbrev lw_G (p : Program) (s : State) (m : MethodId) (c : Code) (b L : Nat) (xs : Nat → Int32) (dC : Nat → ClassId) (dI : Nat → Nat → Nat) (cI cZ cJ cA : ClassId) : Prop := CallFix p m c cL_law 4 s #[Value.ref b] lw_tbl RL ∧ va_X b L xs s s.heap ∧ b < s.heap.size ∧ z_nw s ∧ va_K (dC, dI) vwCl (z_ty cI cZ cJ cA) s ∧ L ≤ 3584
def z_b (x : Int32) : Int32 := if x = 0 then 0 else 1
theorem z_b01 (x : Int32) : z_b x = 0 ∨ z_b x = 1 := by
  unfold z_b
  by_cases h : x = 0
  · rw [if_pos h]; exact Or.inl rfl
  · rw [if_neg h]; exact Or.inr rfl
section LWR
variable {p : Program} {l : Launch} {e : Env} {s : State} {m : MethodId} {args : Array Value} {below : List Frame} {meth : Method} {c : Code} {H : Heap} {locs : List Loc} {cells slots : Nat} {Q : State → Prop} {R : Room}
  {Ts ws : List Cond} {cc bytes : ByteArray} {nL maxL index n pc : Nat} {own C : String} {y : MethodName} {ret : Option FieldType} {rm : Room} {A : Nat → Prop} {b L : Nat} {xs : Nat → Int32} {As rest st0 : List Value} {ls : Array Slot}
  {dC : Nat → ClassId} {dI : Nat → Nat → Nat} {tys : List (ClassId × FieldType)} {cI cZ cJ cA : ClassId} {w w' wc w1 pre post : va_W} {r : Int32}
/-- script[i + k] on the stack -/
theorem z_arg (G : lw_G p s m c b L xs dC dI cI cZ cJ cA) (hS : va_S (fun q : Nat => s.heap.size ≤ q) s.heap H locs) {hx h5 i k : Nat} {kz : Int} (hl : lv_has ls 4 [(0, .ref b), (1, .ref hx), (2, .ref h5), (3, .int (nI i))]) (hk : i + k < L) (hv : Int32.ofInt kz = nI k) (d0 : decode cL_law pc = .ok (.aload_n 0, 1)) (d1 : decode cL_law (pc + 1) = .ok (.iload_n 3, 1)) (d2 : decode cL_law (pc + 1 + 1) = .ok (.iconst kz, 1)) (d3 : decode cL_law (pc + 1 + 1 + 1) = .ok (.iadd, 1)) (d4 : decode cL_law (pc + 1 + 1 + 1 + 1) = .ok (.iaload, 1))
    (kk : W p l e room_1 s m #[Value.ref b] below meth c H locs cells slots Q (F0 m (pc + 1 + 1 + 1 + 1 + 1) ls (.int (xs (i + k)) :: rest))) : W p l e room_1 s m #[Value.ref b] below meth c H locs cells slots Q (F0 m pc ls rest) := by
  obtain ⟨⟨hx9, hb, hml, hown, hts⟩, hX, hbl, hN, hK, hL⟩ := G
  refine lv_aload_n hx9 hb d0 rfl (lv_at hl 0 rfl) ?_
  refine lv_iload_n hx9 hb d1 rfl (lv_at hl 3 rfl) ?_
  refine lv_iconst (v := nI k) hx9 hb d2 hv ?_
  refine lv_iadd hx9 hb d3 ?_
  rw [nI_add]
  refine va_sld hx9 hb hX hbl (Nat.not_le.mpr hbl) hS (vp_in_nI hk (by omega)) d4 ?_
  rw [e_cl (n := i + k) (by omega)]
  exact kk
theorem z_argB (G : lw_G p s m c b L xs dC dI cI cZ cJ cA) (hS : va_S (fun q : Nat => s.heap.size ≤ q) s.heap H locs) {hx h5 i k : Nat} {kz : Int} (hl : lv_has ls 4 [(0, .ref b), (1, .ref hx), (2, .ref h5), (3, .int (nI i))]) (hk : i + k < L) (hv : (Int8.ofInt kz).toInt32 = nI k) (d0 : decode cL_law pc = .ok (.aload_n 0, 1)) (d1 : decode cL_law (pc + 1) = .ok (.iload_n 3, 1)) (d2 : decode cL_law (pc + 1 + 1) = .ok (.bipush kz, 2)) (d3 : decode cL_law (pc + 1 + 1 + 2) = .ok (.iadd, 1)) (d4 : decode cL_law (pc + 1 + 1 + 2 + 1) = .ok (.iaload, 1))
    (kk : W p l e room_1 s m #[Value.ref b] below meth c H locs cells slots Q (F0 m (pc + 1 + 1 + 2 + 1 + 1) ls (.int (xs (i + k)) :: rest))) : W p l e room_1 s m #[Value.ref b] below meth c H locs cells slots Q (F0 m pc ls rest) := by
  obtain ⟨⟨hx9, hb, hml, hown, hts⟩, hX, hbl, hN, hK, hL⟩ := G
  refine lv_aload_n hx9 hb d0 rfl (lv_at hl 0 rfl) ?_
  refine lv_iload_n hx9 hb d1 rfl (lv_at hl 3 rfl) ?_
  refine lv_bipush (v := nI k) hx9 hb d2 hv ?_
  refine lv_iadd hx9 hb d3 ?_
  rw [nI_add]
  refine va_sld hx9 hb hX hbl (Nat.not_le.mpr hbl) hS (vp_in_nI hk (by omega)) d4 ?_
  rw [e_cl (n := i + k) (by omega)]
  exact kk
/-- x != 0 on the stack -/
theorem z_bool (hx9 : p.tables.exec = Jvm.exec) (hb : c.code = cc) {x : Int32} (d0 : decode cc pc = .ok (.ifCond .eq 7, 3)) (d1 : decode cc (pc + 3) = .ok (.iconst 1, 1)) (d2 : decode cc (pc + 3 + 1) = .ok (.goto 4, 3)) (d3 : decode cc (pc + 7) = .ok (.iconst 0, 1))
    (kk : W p l e R s m args below meth c H locs cells slots Q (F0 m (pc + 8) ls (.int (z_b x) :: rest))) : W p l e R s m args below meth c H locs cells slots Q (F0 m pc ls (.int x :: rest)) := by
  unfold z_b at kk
  refine lv_if_eq (tgt := pc + 7) hx9 hb d0 (by omega) (fun h => ?_) (fun h => ?_)
  · rw [if_pos h] at kk
    exact lv_iconst (v := 0) hx9 hb d3 (by decide) kk
  · rw [if_neg h] at kk
    refine lv_iconst (v := 1) hx9 hb d1 (by decide) ?_
    exact lv_goto (tgt := pc + 8) hx9 hb d2 (by omega) kk
theorem z_VL (hw : w = pre ++ (wc ++ post)) (hw1 : w' = pre ++ (w1 ++ post)) (F : CallFix p m c cc nL s args Ts own) (hM : Met l y ws rm (z_Pre dC dI tys (.ref b :: As) H.size wc) (z_Pi dC dI r w1 H.size wc) 0 0 (va_A wc H.size)) (cw : CallW R s args own C index y bytes maxL ret ws rm 0 0 n)
    (hK : va_K (dC, dI) vwCl tys s) (hP : va_P (dC, dI) vwCl w H) (hD : va_D A w) (hS : va_S A s.heap H locs) (hA : ∀ q, s.heap.size ≤ q → A q) (hN : z_nw s) {ci : Nat} {q : vw_C} {fs : List Value} (hc : vwCl[ci]? = some q) (hq : q.1 = C) (he : wc[0]? = some (b, .inr (ci, fs)))
    (hn : As.length = n) (hsize : ls.size = nL) (hstack : st0 = As.reverse ++ .ref b :: rest) (hW : (rest.map fun v => v.category).sum ≤ 8) (hdg : decode cc pc = .ok (.invokevirtual index, 3)) (hroom : cells ≤ R.cells ∧ slots ≤ R.slots)
    (kk : ∀ (H1 : Heap) (locs1 : List Loc), va_P (dC, dI) vwCl w' H1 → va_D A w' → va_S A s.heap H1 locs1 → W p l e R s m args below meth c H1 locs1 cells slots Q (F0 m (pc + 3) ls (.int r :: rest))) : W p l e R s m args below meth c H locs cells slots Q (F0 m pc ls st0) := by
  subst hw
  subst hw1
  have hF := z_out3 hD hS hA
  have hPc := z_subP hP
  have hDc := z_subD hD
  subst hq
  refine va_calli (va_runV F hM cw ⟨z_blind, va_recv hK hPc hc he, fun U hU hWm => ⟨rfl, by rw [hU], by rw [hU]; exact hPc, va_K.moved hWm.alike hK, hDc.weaken (fun _ _ _ _ => trivial), z_nw_warm hWm hN⟩⟩ rfl hn hsize hstack (by show 2 * 0 + _ ≤ 8; omega) hdg hroom) hS (fun q _ h => hF q h) hF (fun r2 u t H1 locs1 ht hvm hw hB hz1 hk1 hS1 => ?_)
  obtain ⟨hP1, hD1⟩ := hB
  rw [ht] at hP1
  subst hw
  have hJ := z_join3 hP hD hk1 hF hP1 hD1
  exact kk H1 locs1 hJ.1 hJ.2 hS1
end LWR

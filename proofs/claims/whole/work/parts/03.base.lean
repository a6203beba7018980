/-! ===== base: option rows, worlds, call rows ===== -/
theorem z_ip {α : Type} {c : Prop} [Decidable c] {a b o : Option α} (h : (if c then a else b) = o) (k : c) : a = o := by rw [if_pos k] at h; exact h
theorem z_im {α : Type} {c : Prop} [Decidable c] {a b o : Option α} (h : (if c then a else b) = o) (k : ¬ c) : b = o := by rw [if_neg k] at h; exact h
theorem z_c1 {α : Type} {c : Prop} [Decidable c] {a : Option α} {o : α} (h : (if c then a else none) = some o) : c := by
  by_cases k : c
  · exact k
  · rw [if_neg k] at h; cases h
theorem z_c2 {α : Type} {c : Prop} [Decidable c] {a : Option α} {o : α} (h : (if c then a else none) = some o) : a = some o := by
  by_cases k : c
  · rw [if_pos k] at h; exact h
  · rw [if_neg k] at h; cases h
theorem z_n1 {α : Type} {c : Prop} [Decidable c] {a : Option α} {o : α} (h : (if c then none else a) = some o) : ¬ c := by
  intro k
  rw [if_pos k] at h
  cases h
theorem z_n2 {α : Type} {c : Prop} [Decidable c] {a : Option α} {o : α} (h : (if c then none else a) = some o) : a = some o := z_im h (z_n1 h)
theorem z_ib {α β : Type} {x : Option α} {k : α → Option β} {o : β} (h : x.bind k = some o) : ∃ v, x = some v ∧ k v = some o := by
  cases x with
  | none => cases h
  | some v => exact ⟨v, rfl, h⟩
theorem z_sl {α β γ : Type} {f : α → γ} {g : β → γ} {a : α} {x : γ} (h : Sum.elim f g (.inl a) = x) : f a = x := h
theorem z_sr {α β γ : Type} {f : α → γ} {g : β → γ} {a : β} {x : γ} (h : Sum.elim f g (.inr a) = x) : g a = x := h
abbrev z_in (i : Int32) (n : Nat) : Prop := ¬ (i < 0 ∨ n ≤ i.toNatClampNeg)
theorem z_lt {i : Int32} {n : Nat} (h : z_in i n) : i.toNatClampNeg < n := Nat.not_le.mp fun q => h (Or.inr q)
/-- row i of a table, place j -/
def z_up2 (V : Nat → Nat → Int32) (i j : Nat) (x : Int32) : Nat → Nat → Int32 := fun a => if a = i then upd (V i) j x else V a
def z_upR (V : Nat → Nat → Int32) (i : Nat) (g : Nat → Int32) : Nat → Nat → Int32 := fun a => if a = i then g else V a
abbrev z_ty (cI cZ cJ cA : ClassId) : List (ClassId × FieldType) := [(cI, .int), (cZ, .boolean), (cJ, .long), (cA, .array .int)]
abbrev z_I (cI : ClassId) (n : Nat) (f : Nat → Int32) : va_E := .inl (cI, n, .inl f)
abbrev z_J (cJ : ClassId) (n : Nat) (f : Nat → Int64) : va_E := .inl (cJ, n, .inr (.inl f))
abbrev z_O (cA : ClassId) (k : Nat) (r : Nat → Nat) : va_E := .inl (cA, k, .inr (.inr (.inr (.inr (fun i => if i < k then some (r i) else none)))))
abbrev z_rows (cI : ClassId) (r : Nat → Nat) (V : Nat → Nat → Int32) (k n : Nat) : va_W := (List.range k).map (fun i => (r i, z_I cI n (V i)))
def z_nws : List Cond := [.methodLinkNest RX4 9 yX1_init RX4, .methodLinkNest RX4 18 yX0_init RX4, .methodLinkNest RX4 25 yX2_init RX4, .methodLinkNest RX4 32 yX3_init RX4, .methodLinkNest RX1 64 yX4_isTown RX4, .methodLinkNest RX1 76 yX4_hasBit RX4, .methodLinkNest RX0 42 yX4_hasBit RX4, .methodLinkNest RX2 102 yX4_hasBit RX4, .methodLinkNest RX3 64 yX4_isTown RX4, .methodLinkNest RX3 86 yX4_hasBit RX4]
def z_nw (U : State) : Prop := ∀ w ∈ z_nws, va_Nw w U
theorem z_nw_warm {s U : State} (hW : s.WarmedH U.vm) (h : z_nw s) : z_nw U := by
  intro w hw
  have h1 := h w hw
  simp only [z_nws, List.mem_cons, List.not_mem_nil, or_false] at hw
  rcases hw with rfl | rfl | rfl | rfl | rfl | rfl | rfl | rfl | rfl | rfl <;> exact va_Nw.warmM hW h1
theorem z_nw_same {s U : State} (hv : s.vm = U.vm) (h : z_nw s) : z_nw U := by
  intro w hw
  have h1 := h w hw
  simp only [z_nws, List.mem_cons, List.not_mem_nil, or_false] at hw
  rcases hw with rfl | rfl | rfl | rfl | rfl | rfl | rfl | rfl | rfl | rfl <;> exact va_Nw.same rfl hv h1
abbrev z_Pre (dC : Nat → ClassId) (dI : Nat → Nat → Nat) (tys : List (ClassId × FieldType)) (av : List Value) (sz : Nat) (w : va_W) : Array Value → State → Prop := va_Pc av (fun U => U.heap.size = sz ∧ va_P (dC, dI) vwCl w U.heap ∧ va_K (dC, dI) vwCl tys U ∧ va_D (fun _ => True) w ∧ z_nw U)
abbrev z_Pi (dC : Nat → ClassId) (dI : Nat → Nat → Nat) (r : Int32) (w1 : va_W) (sz : Nat) (w : va_W) : Array Value → State → Outcome → State → Prop := va_Qi (S := Unit) (fun q _ => q = r) (fun _ t => va_P (dC, dI) vwCl w1 t.heap ∧ va_D (va_A w sz) w1) (va_A w sz)
abbrev z_Pv (dC : Nat → ClassId) (dI : Nat → Nat → Nat) (w1 : va_W) (sz : Nat) (w : va_W) : Array Value → State → Outcome → State → Prop := va_Qv (S := Unit) (fun _ => True) (fun _ t => va_P (dC, dI) vwCl w1 t.heap ∧ va_D (va_A w sz) w1) (va_A w sz)
theorem z_blind {dC : Nat → ClassId} {dI : Nat → Nat → Nat} {tys : List (ClassId × FieldType)} {av : List Value} {sz : Nat} {w : va_W} : FrameBlind (z_Pre dC dI tys av sz w) := fun a U g mk q => by
  obtain ⟨q0, q1, qP, qK, qD, qN⟩ := q
  exact ⟨q0, q1, qP, va_K.moved (u := U) (U := U.calling g mk a) (Vm.Alike.refl U.vm) qK, qD, z_nw_same (s := U) (U := U.calling g mk a) rfl qN⟩
theorem z_join3 {A : Nat → Prop} {D : va_G} {cl : List vw_C} {pre wc post w1 : va_W} {H H1 : Heap} (hP : va_P D cl (pre ++ (wc ++ post)) H) (hD : va_D A (pre ++ (wc ++ post))) (hk : ∀ q : Nat, q < H.size → ¬ va_A wc H.size q → H1[q]? = H[q]?) (hF : ∀ q, va_A wc H.size q → A q) (hP1 : va_P D cl w1 H1) (hD1 : va_D (va_A wc H.size) w1) : va_P D cl (pre ++ (w1 ++ post)) H1 ∧ va_D A (pre ++ (w1 ++ post)) := by
  have e1 : ∀ (k : Nat) (q : Nat × va_E), pre[k]? = some q → (pre ++ (wc ++ post))[k]? = some q := fun k q h => by
    rw [List.getElem?_append_left (List.getElem?_eq_some_iff.mp h).1]; exact h
  have e2 : ∀ (k : Nat) (q : Nat × va_E), wc[k]? = some q → (pre ++ (wc ++ post))[pre.length + k]? = some q := fun k q h => by
    rw [List.getElem?_append_right (by omega), show pre.length + k - pre.length = k by omega, List.getElem?_append_left (List.getElem?_eq_some_iff.mp h).1]; exact h
  have e3 : ∀ (k : Nat) (q : Nat × va_E), post[k]? = some q → (pre ++ (wc ++ post))[pre.length + (wc.length + k)]? = some q := fun k q h => by
    rw [List.getElem?_append_right (by omega), show pre.length + (wc.length + k) - pre.length = wc.length + k by omega, List.getElem?_append_right (by omega), show wc.length + k - wc.length = k by omega]; exact h
  have l1 : ∀ (k : Nat) (q : Nat × va_E), pre[k]? = some q → k < pre.length := fun k q h => (List.getElem?_eq_some_iff.mp h).1
  have l2 : ∀ (k : Nat) (q : Nat × va_E), wc[k]? = some q → k < wc.length := fun k q h => (List.getElem?_eq_some_iff.mp h).1
  have n1 : ∀ (k : Nat) (q : Nat × va_E), pre[k]? = some q → ¬ va_A wc H.size q.1 := fun k q h hz => by
    rcases hz with ⟨j, e, hj⟩ | hz
    · have := hD.1 k (pre.length + j) q (q.1, e) (e1 k q h) (e2 j _ hj) rfl
      have := l1 k q h
      omega
    · exact absurd (hP k q (e1 k q h)).lt (by omega)
  have n3 : ∀ (k : Nat) (q : Nat × va_E), post[k]? = some q → ¬ va_A wc H.size q.1 := fun k q h hz => by
    rcases hz with ⟨j, e, hj⟩ | hz
    · have := hD.1 (pre.length + (wc.length + k)) (pre.length + j) q (q.1, e) (e3 k q h) (e2 j _ hj) rfl
      have := l2 j _ hj
      omega
    · exact absurd (hP _ q (e3 k q h)).lt (by omega)
  have p1 : va_P D cl pre H1 := fun k q h => (hP k q (e1 k q h)).kept (hk _ (hP k q (e1 k q h)).lt (n1 k q h))
  have p3 : va_P D cl post H1 := fun k q h => (hP _ q (e3 k q h)).kept (hk _ (hP _ q (e3 k q h)).lt (n3 k q h))
  have d1 : va_D A pre := ⟨fun i j p q h1 h2 e => hD.1 i j p q (e1 _ _ h1) (e1 _ _ h2) e, fun k q h => hD.2 k q (e1 k q h)⟩
  have d3 : va_D A post := ⟨fun i j p q h1 h2 e => by have := hD.1 _ _ p q (e3 _ _ h1) (e3 _ _ h2) e; omega, fun k q h => hD.2 _ q (e3 k q h)⟩
  have d2 : va_D A w1 := hD1.weaken (fun k q _ h => hF _ h)
  refine ⟨p1.app (hP1.app p3), d1.app (d2.app d3 (fun i j p q hi hj e => n3 j q hj (e ▸ hD1.2 i p hi))) (fun i j p q hi hj e => ?_)⟩
  rcases Nat.lt_or_ge j w1.length with hl | hl
  · rw [List.getElem?_append_left hl] at hj
    exact n1 i p hi (e ▸ hD1.2 j q hj)
  · rw [List.getElem?_append_right hl] at hj
    have := hD.1 _ _ p q (e1 _ _ hi) (e3 _ _ hj) e
    have := l1 i p hi
    omega
theorem z_out3 {A : Nat → Prop} {H0 H : Heap} {locs : List Loc} {pre wc post : va_W} (hD : va_D A (pre ++ (wc ++ post))) (hS : va_S A H0 H locs) (hA : ∀ q, H0.size ≤ q → A q) : ∀ q, va_A wc H.size q → A q := fun q h => by
  rcases h with ⟨j, e, hj⟩ | h
  · refine hD.2 (pre.length + j) (q, e) ?_
    rw [List.getElem?_append_right (by omega), show pre.length + j - pre.length = j by omega, List.getElem?_append_left (List.getElem?_eq_some_iff.mp hj).1]; exact hj
  · exact hA q (Nat.le_trans hS.1 h)
theorem z_subP {D : va_G} {cl : List vw_C} {pre wc post : va_W} {H : Heap} (hP : va_P D cl (pre ++ (wc ++ post)) H) : va_P D cl wc H := fun k q h => hP (pre.length + k) q (by
  rw [List.getElem?_append_right (by omega), show pre.length + k - pre.length = k by omega, List.getElem?_append_left (List.getElem?_eq_some_iff.mp h).1]; exact h)
theorem z_subD {A : Nat → Prop} {pre wc post : va_W} (hD : va_D A (pre ++ (wc ++ post))) : va_D A wc := by
  have e2 : ∀ (k : Nat) (q : Nat × va_E), wc[k]? = some q → (pre ++ (wc ++ post))[pre.length + k]? = some q := fun k q h => by
    rw [List.getElem?_append_right (by omega), show pre.length + k - pre.length = k by omega, List.getElem?_append_left (List.getElem?_eq_some_iff.mp h).1]; exact h
  exact ⟨fun i j p q h1 h2 e => by have := hD.1 _ _ p q (e2 _ _ h1) (e2 _ _ h2) e; omega, fun k q h => hD.2 _ q (e2 k q h)⟩
theorem z_all {A : Nat → Prop} {H0 H : Heap} {locs : List Loc} {w : va_W} (hD : va_D A w) (hS : va_S A H0 H locs) (hA : ∀ q, H0.size ≤ q → A q) : ∀ q, va_A w H.size q → A q := fun q h => by
  rcases h with ⟨j, e, hj⟩ | h
  · exact hD.2 j (q, e) hj
  · exact hA q (Nat.le_trans hS.1 h)
section ZC
variable {p : Program} {l : Launch} {e : Env} {R : Room} {s : State} {m : MethodId} {args : Array Value} {below : List Frame} {meth : Method} {c : Code} {H : Heap} {locs : List Loc} {Q : State → Prop}
  {Ts ws : List Cond} {cc bytes : ByteArray} {nL maxL index n pc : Nat} {own C host : String} {y : MethodName} {ret : Option FieldType} {rm : Room} {A : Nat → Prop} {b : Nat} {As rest st0 : List Value} {ls : Array Slot}
  {dC : Nat → ClassId} {dI : Nat → Nat → Nat} {tys : List (ClassId × FieldType)} {w wc w1 pre post : va_W} {r : Int32}
/-- what stays the same in a method's body -/
abbrev z_Cx (p : Program) (s : State) (m : MethodId) (args : Array Value) (c : Code) (cc : ByteArray) (nL : Nat) (Ts : List Cond) (own : String) (R : Room) (fr lo : Nat) (A : Nat → Prop) (dC : Nat → ClassId) (dI : Nat → Nat → Nat) (tys : List (ClassId × FieldType)) : Prop :=
  CallFix p m c cc nL s args Ts own ∧ fr ≤ R.frames ∧ lo ≤ R.locals ∧ (∀ q, s.heap.size ≤ q → A q) ∧ z_nw s ∧ va_K (dC, dI) vwCl tys s
/-- an instance call on the whole world, an int comes -/
theorem z_Vi (F : CallFix p m c cc nL s args Ts own) (hM : Met l y ws rm (z_Pre dC dI tys (.ref b :: As) H.size w) (z_Pi dC dI r w1 H.size w) 0 0 (va_A w H.size)) (cw : CallW R s args own C index y bytes maxL ret ws rm 0 0 n)
    (hK : va_K (dC, dI) vwCl tys s) (hP : va_P (dC, dI) vwCl w H) (hD : va_D A w) (hS : va_S A s.heap H locs) (hA : ∀ q, s.heap.size ≤ q → A q) (hN : z_nw s) {ci : Nat} {q : vw_C} {fs : List Value} (hc : vwCl[ci]? = some q) (hq : q.1 = C) (he : w[0]? = some (b, .inr (ci, fs)))
    (hn : As.length = n) (hsize : ls.size = nL) (hstack : st0 = As.reverse ++ .ref b :: rest) (hW : (rest.map fun v => v.category).sum ≤ 8) (hdg : decode cc pc = .ok (.invokevirtual index, 3))
    (kk : ∀ (H1 : Heap) (locs1 : List Loc), va_P (dC, dI) vwCl w1 H1 → va_D A w1 → va_S A s.heap H1 locs1 → W p l e R s m args below meth c H1 locs1 0 0 Q (F0 m (pc + 3) ls (.int r :: rest))) : W p l e R s m args below meth c H locs 0 0 Q (F0 m pc ls st0) := by
  have hF := z_all hD hS hA
  subst hq
  refine va_calli (va_runV F hM cw ⟨z_blind, va_recv hK hP hc he, fun U hU hWm => ⟨rfl, by rw [hU], by rw [hU]; exact hP, va_K.moved hWm.alike hK, hD.weaken (fun _ _ _ _ => trivial), z_nw_warm hWm hN⟩⟩ rfl hn hsize hstack (by show 2 * 0 + _ ≤ 8; omega) hdg ⟨Nat.zero_le _, Nat.zero_le _⟩) hS (fun q _ h => hF q h) hF (fun r2 u t H1 locs1 ht hvm hw hB hz1 hk1 hS1 => ?_)
  obtain ⟨hP1, hD1⟩ := hB
  rw [ht] at hP1
  subst hw
  exact kk H1 locs1 hP1 (hD1.weaken (fun _ _ _ h => hF _ h)) hS1
/-- an instance call on the whole world, nothing comes -/
theorem z_Vv (F : CallFix p m c cc nL s args Ts own) (hM : Met l y ws rm (z_Pre dC dI tys (.ref b :: As) H.size w) (z_Pv dC dI w1 H.size w) 0 0 (va_A w H.size)) (cw : CallW R s args own C index y bytes maxL ret ws rm 0 0 n)
    (hK : va_K (dC, dI) vwCl tys s) (hP : va_P (dC, dI) vwCl w H) (hD : va_D A w) (hS : va_S A s.heap H locs) (hA : ∀ q, s.heap.size ≤ q → A q) (hN : z_nw s) {ci : Nat} {q : vw_C} {fs : List Value} (hc : vwCl[ci]? = some q) (hq : q.1 = C) (he : w[0]? = some (b, .inr (ci, fs)))
    (hn : As.length = n) (hsize : ls.size = nL) (hstack : st0 = As.reverse ++ .ref b :: rest) (hW : (rest.map fun v => v.category).sum ≤ 8) (hdg : decode cc pc = .ok (.invokevirtual index, 3))
    (kk : ∀ (H1 : Heap) (locs1 : List Loc), va_P (dC, dI) vwCl w1 H1 → va_D A w1 → va_S A s.heap H1 locs1 → W p l e R s m args below meth c H1 locs1 0 0 Q (F0 m (pc + 3) ls rest)) : W p l e R s m args below meth c H locs 0 0 Q (F0 m pc ls st0) := by
  have hF := z_all hD hS hA
  subst hq
  refine va_callv (va_runV F hM cw ⟨z_blind, va_recv hK hP hc he, fun U hU hWm => ⟨rfl, by rw [hU], by rw [hU]; exact hP, va_K.moved hWm.alike hK, hD.weaken (fun _ _ _ _ => trivial), z_nw_warm hWm hN⟩⟩ rfl hn hsize hstack (by show 2 * 0 + _ ≤ 8; omega) hdg ⟨Nat.zero_le _, Nat.zero_le _⟩) hS (fun q _ h => hF q h) hF (fun u t H1 locs1 ht hvm hw hB hz1 hk1 hS1 => ?_)
  obtain ⟨hP1, hD1⟩ := hB
  rw [ht] at hP1
  exact kk H1 locs1 hP1 (hD1.weaken (fun _ _ _ h => hF _ h)) hS1
/-- an instance call on a part of the world, an int comes -/
theorem z_Vi3 (F : CallFix p m c cc nL s args Ts own) (hM : Met l y ws rm (z_Pre dC dI tys (.ref b :: As) H.size wc) (z_Pi dC dI r w1 H.size wc) 0 0 (va_A wc H.size)) (cw : CallW R s args own C index y bytes maxL ret ws rm 0 0 n)
    (hK : va_K (dC, dI) vwCl tys s) (hP : va_P (dC, dI) vwCl (pre ++ (wc ++ post)) H) (hD : va_D A (pre ++ (wc ++ post))) (hS : va_S A s.heap H locs) (hA : ∀ q, s.heap.size ≤ q → A q) (hN : z_nw s) {ci : Nat} {q : vw_C} {fs : List Value} (hc : vwCl[ci]? = some q) (hq : q.1 = C) (he : wc[0]? = some (b, .inr (ci, fs)))
    (hn : As.length = n) (hsize : ls.size = nL) (hstack : st0 = As.reverse ++ .ref b :: rest) (hW : (rest.map fun v => v.category).sum ≤ 8) (hdg : decode cc pc = .ok (.invokevirtual index, 3))
    (kk : ∀ (H1 : Heap) (locs1 : List Loc), va_P (dC, dI) vwCl (pre ++ (w1 ++ post)) H1 → va_D A (pre ++ (w1 ++ post)) → va_S A s.heap H1 locs1 → W p l e R s m args below meth c H1 locs1 0 0 Q (F0 m (pc + 3) ls (.int r :: rest))) : W p l e R s m args below meth c H locs 0 0 Q (F0 m pc ls st0) := by
  have hF := z_out3 hD hS hA
  have hPc := z_subP hP
  have hDc := z_subD hD
  subst hq
  refine va_calli (va_runV F hM cw ⟨z_blind, va_recv hK hPc hc he, fun U hU hWm => ⟨rfl, by rw [hU], by rw [hU]; exact hPc, va_K.moved hWm.alike hK, hDc.weaken (fun _ _ _ _ => trivial), z_nw_warm hWm hN⟩⟩ rfl hn hsize hstack (by show 2 * 0 + _ ≤ 8; omega) hdg ⟨Nat.zero_le _, Nat.zero_le _⟩) hS (fun q _ h => hF q h) hF (fun r2 u t H1 locs1 ht hvm hw hB hz1 hk1 hS1 => ?_)
  obtain ⟨hP1, hD1⟩ := hB
  rw [ht] at hP1
  subst hw
  have hJ := z_join3 hP hD hk1 hF hP1 hD1
  exact kk H1 locs1 hJ.1 hJ.2 hS1
/-- a static call on the whole world, an int comes -/
theorem z_Si (F : CallFix p m c cc nL s args Ts own) (hM : Met l y ws rm (z_Pre dC dI tys As H.size w) (z_Pi dC dI r w1 H.size w) 0 0 (va_A w H.size)) (cw : CallB R s args own index y bytes maxL ret ws rm 0 0 n ∧ (Cond.static y).before args s = true)
    (hK : va_K (dC, dI) vwCl tys s) (hP : va_P (dC, dI) vwCl w H) (hD : va_D A w) (hS : va_S A s.heap H locs) (hA : ∀ q, s.heap.size ≤ q → A q) (hN : z_nw s)
    (hn : As.length = n) (hsize : ls.size = nL) (hstack : st0 = As.reverse ++ rest) (hW : (rest.map fun v => v.category).sum ≤ 8) (hdg : decode cc pc = .ok (.invokestatic index, 3))
    (kk : ∀ (H1 : Heap) (locs1 : List Loc), va_P (dC, dI) vwCl w1 H1 → va_D A w1 → va_S A s.heap H1 locs1 → W p l e R s m args below meth c H1 locs1 0 0 Q (F0 m (pc + 3) ls (.int r :: rest))) : W p l e R s m args below meth c H locs 0 0 Q (F0 m pc ls st0) := by
  have hF := z_all hD hS hA
  refine va_calli (va_runS F hM cw ⟨z_blind, fun U hU hWm => ⟨rfl, by rw [hU], by rw [hU]; exact hP, va_K.moved hWm.alike hK, hD.weaken (fun _ _ _ _ => trivial), z_nw_warm hWm hN⟩⟩ rfl hn hsize hstack (by show 2 * 0 + _ ≤ 8; omega) hdg ⟨Nat.zero_le _, Nat.zero_le _⟩) hS (fun q _ h => hF q h) hF (fun r2 u t H1 locs1 ht hvm hw hB hz1 hk1 hS1 => ?_)
  obtain ⟨hP1, hD1⟩ := hB
  rw [ht] at hP1
  subst hw
  exact kk H1 locs1 hP1 (hD1.weaken (fun _ _ _ h => hF _ h)) hS1
/-- a static call on a part of the world, nothing comes -/
theorem z_Sv3 (F : CallFix p m c cc nL s args Ts own) (hM : Met l y ws rm (z_Pre dC dI tys As H.size wc) (z_Pv dC dI w1 H.size wc) 0 0 (va_A wc H.size)) (cw : CallB R s args own index y bytes maxL ret ws rm 0 0 n ∧ (Cond.static y).before args s = true)
    (hK : va_K (dC, dI) vwCl tys s) (hP : va_P (dC, dI) vwCl (pre ++ (wc ++ post)) H) (hD : va_D A (pre ++ (wc ++ post))) (hS : va_S A s.heap H locs) (hA : ∀ q, s.heap.size ≤ q → A q) (hN : z_nw s)
    (hn : As.length = n) (hsize : ls.size = nL) (hstack : st0 = As.reverse ++ rest) (hW : (rest.map fun v => v.category).sum ≤ 8) (hdg : decode cc pc = .ok (.invokestatic index, 3))
    (kk : ∀ (H1 : Heap) (locs1 : List Loc), va_P (dC, dI) vwCl (pre ++ (w1 ++ post)) H1 → va_D A (pre ++ (w1 ++ post)) → va_S A s.heap H1 locs1 → W p l e R s m args below meth c H1 locs1 0 0 Q (F0 m (pc + 3) ls rest)) : W p l e R s m args below meth c H locs 0 0 Q (F0 m pc ls st0) := by
  have hF := z_out3 hD hS hA
  have hPc := z_subP hP
  have hDc := z_subD hD
  refine va_callv (va_runS F hM cw ⟨z_blind, fun U hU hWm => ⟨rfl, by rw [hU], by rw [hU]; exact hPc, va_K.moved hWm.alike hK, hDc.weaken (fun _ _ _ _ => trivial), z_nw_warm hWm hN⟩⟩ rfl hn hsize hstack (by show 2 * 0 + _ ≤ 8; omega) hdg ⟨Nat.zero_le _, Nat.zero_le _⟩) hS (fun q _ h => hF q h) hF (fun u t H1 locs1 ht hvm hw hB hz1 hk1 hS1 => ?_)
  obtain ⟨hP1, hD1⟩ := hB
  rw [ht] at hP1
  have hJ := z_join3 hP hD hk1 hF hP1 hD1
  exact kk H1 locs1 hJ.1 hJ.2 hS1
theorem z_noP : va_P (dC, dI) vwCl [] H := fun k q h => by simp at h
theorem z_noD {A : Nat → Prop} : va_D A [] := ⟨fun i j p q h => by simp at h, fun k q h => by simp at h⟩
theorem z_noF {A : Nat → Prop} {H0 : Heap} (hS : va_S A H0 H locs) (hA : ∀ q, H0.size ≤ q → A q) : ∀ q, va_A [] H.size q → A q := fun q h => by
  rcases h with ⟨j, e, hj⟩ | h
  · simp at hj
  · exact hA q (Nat.le_trans hS.1 h)
theorem z_noK {A0 : Nat → Prop} {H1 : Heap} (hP : va_P (dC, dI) vwCl w H) (hk1 : ∀ q : Nat, q < H.size → ¬ va_A [] H.size q → H1[q]? = H[q]?) : va_P (dC, dI) vwCl w H1 := hP.kept (fun k q hq => hk1 q.1 (hP k q hq).lt (fun h => by
  rcases h with ⟨j, e, hj⟩ | h
  · simp at hj
  · exact absurd (hP k q hq).lt (by omega)))
/-- a static call without a world -/
theorem z_S0 (F : CallFix p m c cc nL s args Ts own) (hM : Met l y ws rm (z_Pre dC dI tys As H.size []) (z_Pi dC dI r [] H.size []) 0 0 (va_A [] H.size)) (cw : CallB R s args own index y bytes maxL ret ws rm 0 0 n ∧ (Cond.static y).before args s = true)
    (hK : va_K (dC, dI) vwCl tys s) (hP : va_P (dC, dI) vwCl w H) (hS : va_S A s.heap H locs) (hA : ∀ q, s.heap.size ≤ q → A q) (hN : z_nw s)
    (hn : As.length = n) (hsize : ls.size = nL) (hstack : st0 = As.reverse ++ rest) (hW : (rest.map fun v => v.category).sum ≤ 8) (hdg : decode cc pc = .ok (.invokestatic index, 3))
    (kk : ∀ (H1 : Heap) (locs1 : List Loc), va_P (dC, dI) vwCl w H1 → va_S A s.heap H1 locs1 → W p l e R s m args below meth c H1 locs1 0 0 Q (F0 m (pc + 3) ls (.int r :: rest))) : W p l e R s m args below meth c H locs 0 0 Q (F0 m pc ls st0) := by
  have hF := z_noF hS hA
  refine va_calli (va_runS F hM cw ⟨z_blind, fun U hU hWm => ⟨rfl, by rw [hU], z_noP, va_K.moved hWm.alike hK, z_noD, z_nw_warm hWm hN⟩⟩ rfl hn hsize hstack (by show 2 * 0 + _ ≤ 8; omega) hdg ⟨Nat.zero_le _, Nat.zero_le _⟩) hS (fun q _ h => hF q h) hF (fun r2 u t H1 locs1 ht hvm hw hB hz1 hk1 hS1 => ?_)
  subst hw
  exact kk H1 locs1 (z_noK (A0 := A) hP hk1) hS1
/-- a static call of a nest mate's method without a world -/
theorem z_SN0 (F : CallFix p m c cc nL s args Ts own) (hM : Met l y ws rm (z_Pre dC dI tys As H.size []) (z_Pi dC dI r [] H.size []) 0 0 (va_A [] H.size)) (cw : va_CN R s args own index y host bytes maxL ret ws rm 0 0 n ∧ (Cond.static y).before args s = true ∧ True)
    (hK : va_K (dC, dI) vwCl tys s) (hP : va_P (dC, dI) vwCl w H) (hS : va_S A s.heap H locs) (hA : ∀ q, s.heap.size ≤ q → A q) (hN : z_nw s)
    (hn : As.length = n) (hsize : ls.size = nL) (hstack : st0 = As.reverse ++ rest) (hW : (rest.map fun v => v.category).sum ≤ 8) (hdg : decode cc pc = .ok (.invokestatic index, 3))
    (kk : ∀ (H1 : Heap) (locs1 : List Loc), va_P (dC, dI) vwCl w H1 → va_S A s.heap H1 locs1 → W p l e R s m args below meth c H1 locs1 0 0 Q (F0 m (pc + 3) ls (.int r :: rest))) : W p l e R s m args below meth c H locs 0 0 Q (F0 m pc ls st0) := by
  have hF := z_noF hS hA
  refine va_calli (va_runSN F hM cw ⟨z_blind, fun U hU hWm => ⟨rfl, by rw [hU], z_noP, va_K.moved hWm.alike hK, z_noD, z_nw_warm hWm hN⟩⟩ rfl hn hsize hstack (by show 2 * 0 + _ ≤ 8; omega) hdg ⟨Nat.zero_le _, Nat.zero_le _⟩) hS (fun q _ h => hF q h) hF (fun r2 u t H1 locs1 ht hvm hw hB hz1 hk1 hS1 => ?_)
  subst hw
  exact kk H1 locs1 (z_noK (A0 := A) hP hk1) hS1
/-- aaload of an array of arrays of ints -/
theorem z_aald {H0 : Heap} (hexec : p.tables.exec = Jvm.exec) (hb : c.code = cc) (hK : va_K (dC, dI) vwCl tys s) (hP : va_P (dC, dI) vwCl w H) (q0 t0 : Nat) {a : Nat} {cA : ClassId} {k : Nat} {f : Nat → Nat} (ha : w[q0]? = some (a, z_O cA k f)) (ht : tys[t0]? = some (cA, .array .int)) {i : Int32} (hin : z_in i k) (hdg : decode cc pc = .ok (.aaload, 1))
    (kk : W p l e R s m args below meth c H locs 0 0 Q (F0 m (pc + 1) ls (.ref (f i.toNatClampNeg) :: rest))) : W p l e R s m args below meth c H locs 0 0 Q (F0 m pc ls (.int i :: .ref a :: rest)) := by
  have hlt : i.toNatClampNeg < k := z_lt hin
  exact W.aald (v := .ref (f i.toNatClampNeg)) (ty := .array .int) hexec hb (hP q0 _ ha) ((hK.2 t0 _ ht).1 k (fun j => va_rf (if j < k then some (f j) else none))) rfl (fun q => by cases q) (by show ¬ (i < 0 ∨ (arrV _ _ _).slots.size ≤ _); rw [arrV_size]; exact hin) (by show (arrV _ _ _).slots[_]? = _; rw [arrV_read _ _ hlt]; simp [hlt, va_rf]) rfl rfl hdg kk
end ZC
theorem z_tin {x : Int32} {k : Nat} (h : x = Int32.ofNat k) (hk : k < 2 ^ 31) : x.toInt = (k : Int) := by
  subst h
  exact nI_toInt hk
def z_no (x : Int32) : Nat → Prop
  | 0 => True
  | n + 1 => z_no x n ∧ ¬ x = Int32.ofNat n
theorem z_no_lt {x : Int32} : ∀ {n : Nat}, z_no x n → ∀ k, k < n → ¬ x = Int32.ofNat k
  | 0, _, k, hk => by omega
  | n + 1, h, k, hk => by
    by_cases e : k = n
    · subst e; exact h.2
    · exact z_no_lt h.1 k (by omega)
theorem z_tout {x : Int32} {n : Nat} (h : z_no x (n + 1)) (hn : n < 2 ^ 31) : x.toInt < 0 ∨ (n : Int) < x.toInt := by
  by_cases h0 : x.toInt < 0
  · exact Or.inl h0
  · refine Or.inr ?_
    by_cases h1 : (n : Int) < x.toInt
    · exact h1
    · exfalso
      obtain ⟨k, hk⟩ := Int.eq_ofNat_of_zero_le (show 0 ≤ x.toInt by omega)
      have hk2 : k < n + 1 := by omega
      refine z_no_lt h k hk2 ?_
      apply Int32.toInt_inj.mp
      rw [hk]
      exact (nI_toInt (n := k) (by omega)).symm
def z_rem (x y : Int32) : Int32 := x - x / y * y
def z_ushr (x y : Int32) : Int32 := (x.toUInt32 >>> (y.toUInt32 &&& Int32.toUInt32 31)).toInt32
def z_lushr (x : Int64) (y : Int32) : Int64 := (x.toUInt64 >>> (y.toInt64.toUInt64 &&& Int64.toUInt64 63)).toInt64
def z_lshl (x : Int64) (y : Int32) : Int64 := x <<< (y.toInt64 &&& 63)
def z_min (x y : Int32) : Int32 := if y < x then y else x
def z_abs (x : Int32) : Int32 := if 0 ≤ x then x else 0 - x
section ZD
variable {p : Program} {l : Launch} {e : Env} {R : Room} {s : State} {m : MethodId} {args : Array Value} {below : List Frame} {meth : Method} {c : Code} {H : Heap} {locs : List Loc} {cells slots : Nat} {Q : State → Prop}
  {cc : ByteArray} {pc : Nat} {rest : List Value} {ls : Array Slot}
theorem z_irem (hexec : p.tables.exec = Jvm.exec) (hb : c.code = cc) {x y : Int32} (hdg : decode cc pc = .ok (.irem, 1)) (hne : ¬ y = 0)
    (k : W p l e R s m args below meth c H locs cells slots Q (F0 m (pc + 1) ls (.int (z_rem x y) :: rest))) : W p l e R s m args below meth c H locs cells slots Q (F0 m pc ls (.int y :: .int x :: rest)) := lv_irem hexec hb hdg hne k
theorem z_iushr (hexec : p.tables.exec = Jvm.exec) (hb : c.code = cc) {x y : Int32} (hdg : decode cc pc = .ok (.iushr, 1))
    (k : W p l e R s m args below meth c H locs cells slots Q (F0 m (pc + 1) ls (.int (z_ushr x y) :: rest))) : W p l e R s m args below meth c H locs cells slots Q (F0 m pc ls (.int y :: .int x :: rest)) := lv_iushr hexec hb hdg rfl k
theorem z_lus (hexec : p.tables.exec = Jvm.exec) (hb : c.code = cc) {x : Int64} {y : Int32} (hdg : decode cc pc = .ok (.lushr, 1))
    (k : W p l e R s m args below meth c H locs cells slots Q (F0 m (pc + 1) ls (.long (z_lushr x y) :: rest))) : W p l e R s m args below meth c H locs cells slots Q (F0 m pc ls (.int y :: .long x :: rest)) := lv_lushr hexec hb hdg rfl k
theorem z_lsh (hexec : p.tables.exec = Jvm.exec) (hb : c.code = cc) {x : Int64} {y : Int32} (hdg : decode cc pc = .ok (.lshl, 1))
    (k : W p l e R s m args below meth c H locs cells slots Q (F0 m (pc + 1) ls (.long (z_lshl x y) :: rest))) : W p l e R s m args below meth c H locs cells slots Q (F0 m pc ls (.int y :: .long x :: rest)) := lv_lshl hexec hb hdg rfl k
theorem z_mmin (hexec : p.tables.exec = Jvm.exec) (hb : c.code = cc) (hml : c.maxLocals = ls.size) {own : String} {index : Nat} (hown : s.vm.findClass own = some m.cls) (hlink : (Cond.methodLink own index Lib.Math.min.name).before args s = true) (hstat : (Cond.static Lib.Math.min.name).before args s = true) (hini : (Cond.initialized "java/lang/Math").before args s = true) (hcode : (Cond.code Lib.Math.min.name Lib.Math.min.code 2 (some .int)).before args s = true)
    (hframes : 1 ≤ R.frames) (hlocals : (rest.map fun v => v.category).sum + 13 ≤ R.locals) (hc : cells ≤ R.cells) (hs : slots ≤ R.slots) {x y : Int32} (hdg : decode cc pc = .ok (.invokestatic index, 3))
    (kk : W p l e R s m args below meth c H locs cells slots Q (F0 m (pc + 3) ls (.int (z_min x y) :: rest))) : W p l e R s m args below meth c H locs cells slots Q (F0 m pc ls (.int y :: .int x :: rest)) := va_mmin hexec hb hml hown hlink hstat hini hcode hframes hlocals hc hs hdg kk
theorem z_mabs (hexec : p.tables.exec = Jvm.exec) (hb : c.code = cc) (hml : c.maxLocals = ls.size) {own : String} {index : Nat} (hown : s.vm.findClass own = some m.cls) (hlink : (Cond.methodLink own index Lib.Math.abs.name).before args s = true) (hstat : (Cond.static Lib.Math.abs.name).before args s = true) (hini : (Cond.initialized "java/lang/Math").before args s = true) (hcode : (Cond.code Lib.Math.abs.name Lib.Math.abs.code 1 (some .int)).before args s = true)
    (hframes : 1 ≤ R.frames) (hlocals : (rest.map fun v => v.category).sum + 13 ≤ R.locals) (hc : cells ≤ R.cells) (hs : slots ≤ R.slots) {x : Int32} (hdg : decode cc pc = .ok (.invokestatic index, 3))
    (kk : W p l e R s m args below meth c H locs cells slots Q (F0 m (pc + 3) ls (.int (z_abs x) :: rest))) : W p l e R s m args below meth c H locs cells slots Q (F0 m pc ls (.int x :: rest)) := va_mabs hexec hb hml hown hlink hstat hini hcode hframes hlocals hc hs hdg kk
end ZD

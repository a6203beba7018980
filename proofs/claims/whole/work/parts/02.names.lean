/-! ===== BEGIN words of one list among another's, by their places ===== -/
theorem goodIn_r {big : List Cond} (ws : List Cond) (ps : List Nat) (hp : ws = ps.filterMap (fun i => big[i]?)) (h : ws.all goodWord = true) : GoodIn big ws := by
  intro w hw
  have h1 := List.all_eq_true.mp h w hw
  rw [hp] at hw
  obtain ⟨i, -, hi⟩ := List.mem_filterMap.mp hw
  have hm : w ∈ big := by first | exact List.mem_of_getElem? hi | exact List.getElem?_mem hi
  exact ⟨hm, good_of_word h1⟩
theorem goodIn_app {big a b : List Cond} (ha : GoodIn big a) (hb : GoodIn big b) : GoodIn big (a ++ b) := fun w h => (List.mem_append.mp h).elim (ha w) (hb w)
theorem goodIn_ca {big a b : List Cond} {c : Cond} (ha : GoodIn big (c :: a)) (hb : GoodIn big b) : GoodIn big (c :: (a ++ b)) := fun w h => (List.mem_cons.mp h).elim (fun e => ha w (List.mem_cons.mpr (Or.inl e))) (fun h => (List.mem_append.mp h).elim (fun h => ha w (List.mem_cons.mpr (Or.inr h))) (hb w))
theorem goodIn_sub {big ws : List Cond} (hm : ∀ w ∈ ws, w ∈ big) (h : ws.all goodWord = true) : GoodIn big ws := fun w hw => ⟨hm w hw, good_of_word (List.all_eq_true.mp h w hw)⟩
/-! ===== END ===== -/

/-! ===== BEGIN new T[n][m]: the outer array a place, the inner ones among the pooled ===== -/
/-- f, but v at every address of l -/
def vr_up {α : Type} (f : Nat → α) (l : List Nat) (v : α) : Nat → α := fun a => if a ∈ l then v else f a
theorem vr_up_in {α : Type} {f : Nat → α} {l : List Nat} {v : α} {a : Nat} (h : a ∈ l) : vr_up f l v a = v := if_pos h
theorem vr_up_ne {α : Type} {f : Nat → α} {l : List Nat} {v : α} {a : Nat} (h : a ∉ l) : vr_up f l v a = f a := if_neg h
theorem vr_rows {L l : List Nat} {f : Nat → va_E} {e : va_E} (h : ∀ a, a ∈ l → a ∉ L) : va_pl L f ++ l.map (fun a => (a, e)) = va_pl (L ++ l) (vr_up f l e) := by
  unfold va_pl
  rw [List.map_append]
  congr 1
  · apply List.map_congr_left
    intro a ha
    rw [vr_up_ne (fun q => h a q ha)]
  · apply List.map_congr_left
    intro a ha
    rw [vr_up_in ha]
theorem vr_lay {X rows : va_W} {x : Nat × va_E} {pl : va_W} {D : va_G} {cl : List vw_C} {H : Heap} (hP : va_P D cl (((X ++ pl) ++ [x]) ++ rows) H) : va_P D cl ((X ++ [x]) ++ (pl ++ rows)) H := by
  rw [List.append_assoc (X ++ pl)] at hP
  have h := va_P.swap hP
  rw [← List.append_assoc X] at h
  have h2 := va_P.swap h
  rw [List.append_assoc (X ++ [x])] at h2
  exact h2
theorem vr_layD {X rows : va_W} {x : Nat × va_E} {pl : va_W} {A : Nat → Prop} (hD : va_D A (((X ++ pl) ++ [x]) ++ rows)) : va_D A ((X ++ [x]) ++ (pl ++ rows)) := by
  rw [List.append_assoc (X ++ pl)] at hD
  have h := va_D.swap hD
  rw [← List.append_assoc X] at h
  have h2 := va_D.swap h
  rw [List.append_assoc (X ++ [x])] at h2
  exact h2
theorem vr_outer (c : ClassId) (N h0 : Nat) : ∀ i : Nat, Jvm.Free.Multi.outerC c N h0 i = arrV c N (fun j => va_rf (if j < i then some (h0 + 1 + j) else none))
  | 0 => by
    show ({ cls := c, slots := Array.replicate N .null, vm := .none } : Cell) = _
    rw [arrV_new]
    refine congrArg (arrV c N) (funext fun j => ?_)
    simp [va_rf]
  | i + 1 => by
    show (Jvm.Free.Multi.outerC c N h0 i).setSlot i (.ref (h0 + 1 + i)) = _
    rw [vr_outer c N h0 i, arrV_store]
    refine congrArg (arrV c N) (funext fun j => ?_)
    by_cases e : j = i
    · subst e
      simp [updV, va_rf]
    · by_cases h : j < i
      · simp [updV, e, h, Nat.lt_succ_of_lt h]
      · simp [updV, e, h, show ¬ j < i + 1 by omega]
section VGM
variable {p : Program} {l : Launch} {e : Env} {R : Room} {s : State} {m : MethodId} {args : Array Value} {below : List Frame} {meth : Method} {c : Code} {H : Heap} {locs : List Loc} {cells slots : Nat} {Q : State → Prop}
variable {cc : ByteArray} {pc : Nat} {ls : Array Slot} {rest : List Value} {D : va_G} {cl : List vw_C} {A : Nat → Prop} {a : Nat} {tys : List (ClassId × FieldType)} {ws : va_W} {H0 : Heap}
theorem va_mna {X : va_W} {L : List Nat} {f : Nat → va_E} {cc : ByteArray} (hexec : p.tables.exec = Jvm.exec) (hb : c.code = cc) {own : String} {index : Nat} {ty : FieldType} {cy : ClassId} (hown : s.vm.findClass own = some m.cls) (hclink : (Cond.classLink own index ("[" ++ (FieldType.array ty).toString)).before args s = true) (hover : va_AOA ty s) (harr : (Cond.arrayClass ty).before args s = true) (hcy : s.vm.findClass (FieldType.array ty).toString = some cy)
    (hK : va_K D cl tys s) (hP : va_P D cl (X ++ va_pl L f) H) (hD : va_D A (X ++ va_pl L f)) (hS : va_S A H0 H locs) (hA : ∀ q, H0.size ≤ q → A q) {n k : Int32} {N' K' : Nat} {z : vp_A} (hn : ¬ n < 0) (hk : ¬ k < 0) (hN : n.toNatClampNeg = N') (hM : k.toNatClampNeg = K')
    (hb1 : N' * 4 ≤ 536870912) (hb2 : K' * componentBytes ty ≤ 536870912) (hb3 : K' ≤ 536870912) (hdf : fits ty (defaultValue ty) = true) (hdd : (defaultValue ty).isDefault = true) (hcells : cells + (1 + N') ≤ R.cells) (hslots : slots + (N' + N' * K') ≤ R.slots) (hz : ∀ c : ClassId, Jvm.Free.Multi.innerC c K' (defaultValue ty) = vp_cell c z) (hdg : decode cc pc = .ok (.multianewarray index 2, 4))
    (kk : ∀ (q : Nat) (r : Nat → Nat) (cA : ClassId) (H1 : Heap), (∀ i j : Nat, i < N' → j < N' → r i = r j → i = j) → (∀ i : Nat, i < N' → r i ∉ L) → va_K D cl (tys ++ [(cA, .array ty)]) s →
      va_P D cl ((X ++ [(q, .inl (cA, N', .inr (.inr (.inr (.inr (fun i => if i < N' then some (r i) else none))))))]) ++ va_pl (L ++ (List.range N').map r) (vr_up f ((List.range N').map r) (.inl (cy, z)))) H1 → va_D A ((X ++ [(q, .inl (cA, N', .inr (.inr (.inr (.inr (fun i => if i < N' then some (r i) else none))))))]) ++ va_pl (L ++ (List.range N').map r) (vr_up f ((List.range N').map r) (.inl (cy, z)))) → va_S A H0 H1 locs →
      W p l e R s m args below meth c H1 locs (cells + 1 + N') (slots + N' + N' * K') Q (F0 m (pc + 4) ls (.ref q :: rest))) : W p l e R s m args below meth c H locs cells slots Q (F0 m pc ls (.int k :: .int n :: rest)) := by
  subst hN
  subst hM
  intro T hT Xs
  obtain ⟨vm₁, cA, comp, -, fA, fC, hO, -, X', step⟩ := Xs.multianewarray2F hexec hown hclink (va_AOA.use hover) harr (g := F0 m pc ls (.int k :: .int n :: rest)) rfl (by rw [hb]; exact hdg) rfl hn hk hb1 hb2 hb3 hdf hdd hcells hslots
  have ec : some cy = some comp := hcy.symm.trans fC
  cases ec
  generalize hF : Jvm.Free.Multi.fill (T.setVm vm₁) cA cy n.toNatClampNeg k.toNatClampNeg (defaultValue ty) n.toNatClampNeg = F at X' step
  have hTh : (T.setVm vm₁).heap = H := hT
  obtain ⟨f1, f2, -, -⟩ := Jvm.Free.Multi.fill_facts (T.setVm vm₁) cA cy n.toNatClampNeg k.toNatClampNeg (defaultValue ty) n.toNatClampNeg
  rw [hF, hTh] at f1 f2
  have hold : ∀ x : Nat, x < H.size → F.heap[x]? = H[x]? := fun x hx => by
    have := Jvm.Free.Multi.fill_old (T.setVm vm₁) cA cy n.toNatClampNeg k.toNatClampNeg (defaultValue ty) (a := x) (by rw [hTh]; exact hx) n.toNatClampNeg
    rw [hF, hTh] at this
    exact this
  have hrow : ∀ j : Nat, j < n.toNatClampNeg → F.heap[H.size + 1 + j]? = some (vp_cell cy z) := fun j hj => by
    have := Jvm.Free.Multi.fill_inner (T.setVm vm₁) cA cy n.toNatClampNeg k.toNatClampNeg (defaultValue ty) n.toNatClampNeg j hj
    rw [hF, hTh, hz] at this
    exact this
  have hout : Jvm.Free.Multi.outerC cA n.toNatClampNeg H.size n.toNatClampNeg = vp_cell cA (n.toNatClampNeg, .inr (.inr (.inr (.inr (fun i => if i < n.toNatClampNeg then some (H.size + 1 + i) else none))))) := by
    rw [vp_cell_q]
    exact vr_outer cA n.toNatClampNeg H.size n.toNatClampNeg
  rw [hout] at f2
  have hlt : ∀ a, a ∈ L → a < H.size := fun a ha => by
    obtain ⟨k9, hk9⟩ := va_pl_get (X := X) (f := f) ha
    exact (hP k9 _ hk9).lt
  have hnl : ∀ i : Nat, i < n.toNatClampNeg → H.size + 1 + i ∉ L := fun i _ h => by
    have := hlt _ h
    omega
  have hnm : ∀ a, a ∈ (List.range n.toNatClampNeg).map (fun i => H.size + 1 + i) → a ∉ L := fun a ha h => by
    obtain ⟨i, -, rfl⟩ := List.mem_map.mp ha
    have := hlt _ h
    omega
  have hP0 : va_P D cl (X ++ va_pl L f) F.heap := hP.kept (fun k9 x hx => hold x.1 ((hP k9 x hx).lt))
  have hP1 : va_P D cl ((X ++ va_pl L f) ++ [(H.size, .inl (cA, n.toNatClampNeg, .inr (.inr (.inr (.inr (fun i => if i < n.toNatClampNeg then some (H.size + 1 + i) else none))))))]) F.heap := hP0.app (fun k9 x hx => by
    have h0 : k9 < 1 := (List.getElem?_eq_some_iff.mp hx).1
    rw [show k9 = 0 by omega] at hx
    cases hx
    exact f2)
  have hP2 : va_P D cl (((X ++ va_pl L f) ++ [(H.size, .inl (cA, n.toNatClampNeg, .inr (.inr (.inr (.inr (fun i => if i < n.toNatClampNeg then some (H.size + 1 + i) else none))))))]) ++ ((List.range n.toNatClampNeg).map (fun i => H.size + 1 + i)).map (fun a => (a, .inl (cy, z)))) F.heap := hP1.app (fun k9 x hx => by
    obtain ⟨a, ha, rfl⟩ := List.mem_map.mp (List.mem_of_getElem? hx)
    obtain ⟨i, hi, rfl⟩ := List.mem_map.mp ha
    exact hrow i (List.mem_range.mp hi))
  have hD2 : va_D A (((X ++ va_pl L f) ++ [(H.size, .inl (cA, n.toNatClampNeg, .inr (.inr (.inr (.inr (fun i => if i < n.toNatClampNeg then some (H.size + 1 + i) else none))))))]) ++ ((List.range n.toNatClampNeg).map (fun i => H.size + 1 + i)).map (fun a => (a, .inl (cy, z)))) := by
    have hD1 := hD.push (e := .inl (cA, n.toNatClampNeg, .inr (.inr (.inr (.inr (fun i => if i < n.toNatClampNeg then some (H.size + 1 + i) else none)))))) hP rfl (hA _ hS.1)
    generalize hW1 : (X ++ va_pl L f) ++ [(H.size, .inl (cA, n.toNatClampNeg, .inr (.inr (.inr (.inr (fun i => if i < n.toNatClampNeg then some (H.size + 1 + i) else none))))))] = W1 at hD1 hP1 ⊢
    have hle : ∀ (k9 : Nat) (x : Nat × va_E), W1[k9]? = some x → x.1 ≤ H.size := fun k9 x hx => by
      rw [← hW1] at hx
      by_cases hl : k9 < (X ++ va_pl L f).length
      · rw [List.getElem?_append_left hl] at hx
        exact Nat.le_of_lt ((hP k9 x hx).lt)
      · rw [List.getElem?_append_right (by omega)] at hx
        have h0 : k9 - (X ++ va_pl L f).length < 1 := (List.getElem?_eq_some_iff.mp hx).1
        rw [show k9 - (X ++ va_pl L f).length = 0 by omega] at hx
        cases hx
        exact Nat.le_refl _
    have hr : ∀ (k9 : Nat) (x : Nat × va_E), (((List.range n.toNatClampNeg).map (fun i => H.size + 1 + i)).map (fun a => ((a, .inl (cy, z)) : Nat × va_E)))[k9]? = some x → x.1 = H.size + 1 + k9 := fun k9 x hx => by
      rw [List.getElem?_map, List.getElem?_map] at hx
      by_cases h9 : k9 < n.toNatClampNeg
      · rw [List.getElem?_range h9] at hx
        cases hx
        rfl
      · have hn0 : (List.range n.toNatClampNeg)[k9]? = none := List.getElem?_eq_none (by rw [List.length_range]; omega)
        rw [hn0] at hx
        cases hx
    refine ⟨fun i j x y hi hj hxy => ?_, fun k9 x hx => ?_⟩
    · by_cases h1 : i < W1.length <;> by_cases h2 : j < W1.length
      · rw [List.getElem?_append_left h1] at hi
        rw [List.getElem?_append_left h2] at hj
        exact hD1.1 i j x y hi hj hxy
      · rw [List.getElem?_append_left h1] at hi
        rw [List.getElem?_append_right (by omega)] at hj
        have := hle _ _ hi
        have := hr _ _ hj
        omega
      · rw [List.getElem?_append_right (by omega)] at hi
        rw [List.getElem?_append_left h2] at hj
        have := hle _ _ hj
        have := hr _ _ hi
        omega
      · rw [List.getElem?_append_right (by omega)] at hi hj
        have := hr _ _ hi
        have := hr _ _ hj
        omega
    · by_cases h1 : k9 < W1.length
      · rw [List.getElem?_append_left h1] at hx
        exact hD1.2 k9 x hx
      · rw [List.getElem?_append_right (by omega)] at hx
        have := hr _ _ hx
        exact hA _ (by have := hS.1; omega)
  have hAr : ArrOfT s cA (.array ty) := fun N9 z9 => by
    obtain ⟨-, k9, hk9, cm9, hkk9⟩ := (hO 0 0 0).1
    exact ⟨(fun q hq => by cases hq), k9, hk9, cm9, hkk9⟩
  have hK2 : va_K D cl (tys ++ [(cA, .array ty)]) s := ⟨hK.1, fun k9 x hx => by
    by_cases hl : k9 < tys.length
    · rw [List.getElem?_append_left hl] at hx
      exact hK.2 k9 x hx
    · rw [List.getElem?_append_right (by omega)] at hx
      have h0 : k9 - tys.length < 1 := (List.getElem?_eq_some_iff.mp hx).1
      rw [show k9 - tys.length = 0 by omega] at hx
      cases hx
      exact ⟨hAr, fA⟩⟩
  obtain ⟨t, a1, b1⟩ := kk H.size (fun i => H.size + 1 + i) cA F.heap (fun i j _ _ h => by have h9 : H.size + 1 + i = H.size + 1 + j := h; omega) hnl hK2 (by rw [← vr_rows hnm]; exact vr_lay hP2) (by rw [← vr_rows hnm]; exact vr_layD hD2) ⟨by rw [f1]; have := hS.1; omega, fun x h1 h2 => (hold x (Nat.lt_of_lt_of_le h1 hS.1)).trans (hS.2.1 x h1 h2), hS.2.2⟩ F rfl X'
  refine ⟨t, step t ?_, b1⟩
  have e : T.heap.size = H.size := by rw [hT]
  rw [e]
  exact a1
end VGM
/-! ===== END ===== -/

/-! ===== BEGIN printed: names, fields, word lists, decode rows ===== -/
def RX0 : String := "OldStadium$FiveInOne"
def TX0 : u_T := fun k => match k with
  | 0 => ("OldStadium$FiveInOne", "wins", "[I", true)
  | 1 => ("OldStadium$FiveInOne", "sums", "[I", true)
  | 2 => ("OldStadium$FiveInOne", "athletes", "I", false)
  | 3 => ("OldStadium$FiveInOne", "told", "I", false)
  | _ => ("OldStadium$FiveInOne", "champion", "I", false)
def tyX0 : Nat → FieldType := fun k => match k with
  | 0 => .array .int
  | 1 => .array .int
  | 2 => .int
  | 3 => .int
  | _ => .int
abbrev wsX00 : List Cond := u_ws RX0 TX0 5
theorem nmX0 : ∀ a, a < 5 → ∀ b, b < 5 → a ≠ b → (TX0 a).2.1 ≠ (TX0 b).2.1 := by decide +kernel
theorem tyX0_ok : ∀ k, k < 5 → parseFieldDescriptor (TX0 k).2.2.1 = some (tyX0 k) := by decide +kernel
abbrev cX0_init : ByteArray := prog_2_method_1_code
def yX0_init : MethodName := ⟨RX0, "<init>", "()V"⟩
abbrev cX0_begin : ByteArray := prog_2_method_2_code
def yX0_begin : MethodName := ⟨RX0, "begin", "(I)Z"⟩
abbrev cX0_tellOrder : ByteArray := prog_2_method_3_code
def yX0_tellOrder : MethodName := ⟨RX0, "tellOrde\x72", "(I)I"⟩
abbrev cX0_isOrder : ByteArray := prog_2_method_4_code
def yX0_isOrder : MethodName := ⟨RX0, "isOrde\x72", "(I)Z"⟩
abbrev cX0_findChampion : ByteArray := prog_2_method_5_code
def yX0_findChampion : MethodName := ⟨RX0, "findChampion", "()I"⟩
abbrev cX0_isAhead : ByteArray := prog_2_method_6_code
def yX0_isAhead : MethodName := ⟨RX0, "isAhead", "(IIIIII)Z"⟩
abbrev cX0_champion : ByteArray := prog_2_method_7_code
def yX0_champion : MethodName := ⟨RX0, "champion", "()I"⟩
abbrev cX0_tell : ByteArray := prog_2_method_8_code
def yX0_tell : MethodName := ⟨RX0, "tell", "(II)I"⟩
abbrev cX0_canWin : ByteArray := prog_2_method_9_code
def yX0_canWin : MethodName := ⟨RX0, "canWin", "(I)Z"⟩
def RX1 : String := "OldStadium$Heats"
def TX1 : u_T := fun k => match k with
  | 0 => ("OldStadium$Heats", "runnerTowns", "[I", true)
  | 1 => ("OldStadium$Heats", "judgeTowns", "[I", true)
  | 2 => ("OldStadium$Heats", "row", "[I", true)
  | 3 => ("OldStadium$Heats", "winners", "[I", true)
  | 4 => ("OldStadium$Heats", "votes", "[[I", true)
  | 5 => ("OldStadium$Heats", "runners", "I", false)
  | 6 => ("OldStadium$Heats", "judges", "I", false)
  | 7 => ("OldStadium$Heats", "going", "Z", false)
  | 8 => ("OldStadium$Heats", "round", "I", false)
  | 9 => ("OldStadium$Heats", "size", "I", false)
  | 10 => ("OldStadium$Heats", "entered", "I", false)
  | 11 => ("OldStadium$Heats", "heats", "I", false)
  | 12 => ("OldStadium$Heats", "bye", "I", false)
  | 13 => ("OldStadium$Heats", "byesHad", "I", false)
  | 14 => ("OldStadium$Heats", "victo\x72", "I", false)
  | _ => ("OldStadium$Heats", "lot", "I", false)
def tyX1 : Nat → FieldType := fun k => match k with
  | 0 => .array .int
  | 1 => .array .int
  | 2 => .array .int
  | 3 => .array .int
  | 4 => .array (.array .int)
  | 5 => .int
  | 6 => .int
  | 7 => .boolean
  | 8 => .int
  | 9 => .int
  | 10 => .int
  | 11 => .int
  | 12 => .int
  | 13 => .int
  | 14 => .int
  | _ => .int
abbrev wsX10 : List Cond := u_ws RX1 TX1 16
theorem nmX1 : ∀ a, a < 16 → ∀ b, b < 16 → a ≠ b → (TX1 a).2.1 ≠ (TX1 b).2.1 := by decide +kernel
theorem tyX1_ok : ∀ k, k < 16 → parseFieldDescriptor (TX1 k).2.2.1 = some (tyX1 k) := by decide +kernel
abbrev cX1_init : ByteArray := prog_3_method_1_code
def yX1_init : MethodName := ⟨RX1, "<init>", "()V"⟩
abbrev cX1_addRunner : ByteArray := prog_3_method_2_code
def yX1_addRunner : MethodName := ⟨RX1, "addRunne\x72", "(I)I"⟩
abbrev cX1_addJudge : ByteArray := prog_3_method_3_code
def yX1_addJudge : MethodName := ⟨RX1, "addJudge", "(I)I"⟩
abbrev cX1_begin : ByteArray := prog_3_method_4_code
def yX1_begin : MethodName := ⟨RX1, "begin", "(III)I"⟩
abbrev cX1_enter : ByteArray := prog_3_method_5_code
def yX1_enter : MethodName := ⟨RX1, "ente\x72", "(I)V"⟩
abbrev cX1_beginRound : ByteArray := prog_3_method_6_code
def yX1_beginRound : MethodName := ⟨RX1, "beginRound", "()I"⟩
abbrev cX1_mixRow : ByteArray := prog_3_method_7_code
def yX1_mixRow : MethodName := ⟨RX1, "mixRow", "()V"⟩
abbrev cX1_exchange : ByteArray := prog_3_method_8_code
def yX1_exchange : MethodName := ⟨RX1, "exchange", "(II)V"⟩
abbrev cX1_giveBye : ByteArray := prog_3_method_9_code
def yX1_giveBye : MethodName := ⟨RX1, "giveBye", "(I)V"⟩
abbrev cX1_lastWithoutBye : ByteArray := prog_3_method_10_code
def yX1_lastWithoutBye : MethodName := ⟨RX1, "lastWithoutBye", "(I)I"⟩
abbrev cX1_isHeat : ByteArray := prog_3_method_11_code
def yX1_isHeat : MethodName := ⟨RX1, "isHeat", "(I)Z"⟩
abbrev cX1_sizeOf : ByteArray := prog_3_method_12_code
def yX1_sizeOf : MethodName := ⟨RX1, "sizeOf", "(I)I"⟩
abbrev cX1_runnerAt : ByteArray := prog_3_method_13_code
def yX1_runnerAt : MethodName := ⟨RX1, "runnerAt", "(II)I"⟩
abbrev cX1_isIn : ByteArray := prog_3_method_14_code
def yX1_isIn : MethodName := ⟨RX1, "isIn", "(II)Z"⟩
abbrev cX1_heatOf : ByteArray := prog_3_method_15_code
def yX1_heatOf : MethodName := ⟨RX1, "heatOf", "(I)I"⟩
abbrev cX1_openHeats : ByteArray := prog_3_method_16_code
def yX1_openHeats : MethodName := ⟨RX1, "openHeats", "()I"⟩
abbrev cX1_tell : ByteArray := prog_3_method_17_code
def yX1_tell : MethodName := ⟨RX1, "tell", "(I)I"⟩
abbrev cX1_setWinner : ByteArray := prog_3_method_18_code
def yX1_setWinner : MethodName := ⟨RX1, "setWinne\x72", "(II)Z"⟩
abbrev cX1_castVote : ByteArray := prog_3_method_19_code
def yX1_castVote : MethodName := ⟨RX1, "castVote", "(III)Z"⟩
abbrev cX1_decideByVotes : ByteArray := prog_3_method_20_code
def yX1_decideByVotes : MethodName := ⟨RX1, "decideByVotes", "(I)I"⟩
abbrev cX1_votesFor : ByteArray := prog_3_method_21_code
def yX1_votesFor : MethodName := ⟨RX1, "votesFo\x72", "(II)I"⟩
abbrev cX1_hasTown : ByteArray := prog_3_method_22_code
def yX1_hasTown : MethodName := ⟨RX1, "hasTown", "(II)Z"⟩
abbrev cX1_goOn : ByteArray := prog_3_method_23_code
def yX1_goOn : MethodName := ⟨RX1, "goOn", "()I"⟩
abbrev cX1_end : ByteArray := prog_3_method_24_code
def yX1_end : MethodName := ⟨RX1, "end", "(I)I"⟩
def RX2 : String := "OldStadium$Hippodrome"
def TX2 : u_T := fun k => match k with
  | 0 => ("OldStadium$Hippodrome", "delay", "[I", true)
  | 1 => ("OldStadium$Hippodrome", "lane", "[I", true)
  | 2 => ("OldStadium$Hippodrome", "cell", "[I", true)
  | 3 => ("OldStadium$Hippodrome", "lapsDone", "[I", true)
  | 4 => ("OldStadium$Hippodrome", "state", "[I", true)
  | 5 => ("OldStadium$Hippodrome", "endTick", "[I", true)
  | 6 => ("OldStadium$Hippodrome", "place", "[I", true)
  | 7 => ("OldStadium$Hippodrome", "acts", "[I", true)
  | 8 => ("OldStadium$Hippodrome", "forward", "[[I", true)
  | 9 => ("OldStadium$Hippodrome", "side", "[[I", true)
  | 10 => ("OldStadium$Hippodrome", "lanes", "I", false)
  | 11 => ("OldStadium$Hippodrome", "cells", "I", false)
  | 12 => ("OldStadium$Hippodrome", "laps", "I", false)
  | 13 => ("OldStadium$Hippodrome", "chariots", "I", false)
  | 14 => ("OldStadium$Hippodrome", "tick", "I", false)
  | _ => ("OldStadium$Hippodrome", "cameHome", "I", false)
def tyX2 : Nat → FieldType := fun k => match k with
  | 0 => .array .int
  | 1 => .array .int
  | 2 => .array .int
  | 3 => .array .int
  | 4 => .array .int
  | 5 => .array .int
  | 6 => .array .int
  | 7 => .array .int
  | 8 => .array (.array .int)
  | 9 => .array (.array .int)
  | 10 => .int
  | 11 => .int
  | 12 => .int
  | 13 => .int
  | 14 => .int
  | _ => .int
abbrev wsX20 : List Cond := u_ws RX2 TX2 16
theorem nmX2 : ∀ a, a < 16 → ∀ b, b < 16 → a ≠ b → (TX2 a).2.1 ≠ (TX2 b).2.1 := by decide +kernel
theorem tyX2_ok : ∀ k, k < 16 → parseFieldDescriptor (TX2 k).2.2.1 = some (tyX2 k) := by decide +kernel
abbrev cX2_init : ByteArray := prog_4_method_1_code
def yX2_init : MethodName := ⟨RX2, "<init>", "()V"⟩
abbrev cX2_layOut : ByteArray := prog_4_method_2_code
def yX2_layOut : MethodName := ⟨RX2, "layOut", "(III)Z"⟩
abbrev cX2_addChariot : ByteArray := prog_4_method_3_code
def yX2_addChariot : MethodName := ⟨RX2, "addChariot", "(II)I"⟩
abbrev cX2_isTaken : ByteArray := prog_4_method_4_code
def yX2_isTaken : MethodName := ⟨RX2, "isTaken", "(I)Z"⟩
abbrev cX2_isChariot : ByteArray := prog_4_method_5_code
def yX2_isChariot : MethodName := ⟨RX2, "isChariot", "(I)Z"⟩
abbrev cX2_addAct : ByteArray := prog_4_method_6_code
def yX2_addAct : MethodName := ⟨RX2, "addAct", "(III)I"⟩
abbrev cX2_pass : ByteArray := prog_4_method_7_code
def yX2_pass : MethodName := ⟨RX2, "pass", "(I)I"⟩
abbrev cX2_passTick : ByteArray := prog_4_method_8_code
def yX2_passTick : MethodName := ⟨RX2, "passTick", "()V"⟩
abbrev cX2_letIn : ByteArray := prog_4_method_9_code
def yX2_letIn : MethodName := ⟨RX2, "letIn", "()V"⟩
abbrev cX2_actOf : ByteArray := prog_4_method_10_code
def yX2_actOf : MethodName := ⟨RX2, "actOf", "(I)I"⟩
abbrev cX2_goForward : ByteArray := prog_4_method_11_code
def yX2_goForward : MethodName := ⟨RX2, "goForward", "(I)V"⟩
abbrev cX2_bringHome : ByteArray := prog_4_method_12_code
def yX2_bringHome : MethodName := ⟨RX2, "bringHome", "()V"⟩
abbrev cX2_changeLanes : ByteArray := prog_4_method_13_code
def yX2_changeLanes : MethodName := ⟨RX2, "changeLanes", "()V"⟩
abbrev cX2_crash : ByteArray := prog_4_method_14_code
def yX2_crash : MethodName := ⟨RX2, "crash", "()V"⟩
abbrev cX2_sharesCell : ByteArray := prog_4_method_15_code
def yX2_sharesCell : MethodName := ⟨RX2, "sharesCell", "(I)Z"⟩
abbrev cX2_tell : ByteArray := prog_4_method_16_code
def yX2_tell : MethodName := ⟨RX2, "tell", "(II)I"⟩
def RX3 : String := "OldStadium$Quarry"
def TX3 : u_T := fun k => match k with
  | 0 => ("OldStadium$Quarry", "event", "[I", true)
  | 1 => ("OldStadium$Quarry", "from", "[I", true)
  | 2 => ("OldStadium$Quarry", "to", "[I", true)
  | 3 => ("OldStadium$Quarry", "firstLetters", "[I", true)
  | 4 => ("OldStadium$Quarry", "lastLetters", "[I", true)
  | 5 => ("OldStadium$Quarry", "town", "[I", true)
  | 6 => ("OldStadium$Quarry", "joined", "[I", true)
  | 7 => ("OldStadium$Quarry", "stones", "I", false)
  | 8 => ("OldStadium$Quarry", "span", "I", false)
  | 9 => ("OldStadium$Quarry", "unlike", "[I", true)
  | 10 => ("OldStadium$Quarry", "yea\x72", "[I", true)
  | 11 => ("OldStadium$Quarry", "seen", "[J", true)
  | 12 => ("OldStadium$Quarry", "rolls", "I", false)
  | _ => ("OldStadium$Quarry", "fewest", "I", false)
def tyX3 : Nat → FieldType := fun k => match k with
  | 0 => .array .int
  | 1 => .array .int
  | 2 => .array .int
  | 3 => .array .int
  | 4 => .array .int
  | 5 => .array .int
  | 6 => .array .int
  | 7 => .int
  | 8 => .int
  | 9 => .array .int
  | 10 => .array .int
  | 11 => .array .long
  | 12 => .int
  | _ => .int
abbrev wsX30 : List Cond := u_ws RX3 TX3 14
theorem nmX3 : ∀ a, a < 14 → ∀ b, b < 14 → a ≠ b → (TX3 a).2.1 ≠ (TX3 b).2.1 := by decide +kernel
theorem tyX3_ok : ∀ k, k < 14 → parseFieldDescriptor (TX3 k).2.2.1 = some (tyX3 k) := by decide +kernel
abbrev cX3_init : ByteArray := prog_5_method_1_code
def yX3_init : MethodName := ⟨RX3, "<init>", "()V"⟩
abbrev cX3_isStone : ByteArray := prog_5_method_2_code
def yX3_isStone : MethodName := ⟨RX3, "isStone", "(I)Z"⟩
abbrev cX3_forget : ByteArray := prog_5_method_3_code
def yX3_forget : MethodName := ⟨RX3, "forget", "()V"⟩
abbrev cX3_addStone : ByteArray := prog_5_method_4_code
def yX3_addStone : MethodName := ⟨RX3, "addStone", "(IIIIII)I"⟩
abbrev cX3_areYears : ByteArray := prog_5_method_5_code
def yX3_areYears : MethodName := ⟨RX3, "areYears", "(II)Z"⟩
abbrev cX3_isName : ByteArray := prog_5_method_6_code
def yX3_isName : MethodName := ⟨RX3, "isName", "(I)Z"⟩
abbrev cX3_letterIn : ByteArray := prog_5_method_7_code
def yX3_letterIn : MethodName := ⟨RX3, "letterIn", "(II)I"⟩
abbrev cX3_letterOf : ByteArray := prog_5_method_8_code
def yX3_letterOf : MethodName := ⟨RX3, "letterOf", "(II)I"⟩
abbrev cX3_tellLetter : ByteArray := prog_5_method_9_code
def yX3_tellLetter : MethodName := ⟨RX3, "tellLette\x72", "(II)I"⟩
abbrev cX3_setJoined : ByteArray := prog_5_method_10_code
def yX3_setJoined : MethodName := ⟨RX3, "setJoined", "(IIZ)Z"⟩
abbrev cX3_setSpan : ByteArray := prog_5_method_11_code
def yX3_setSpan : MethodName := ⟨RX3, "setSpan", "(I)I"⟩
abbrev cX3_breakUp : ByteArray := prog_5_method_12_code
def yX3_breakUp : MethodName := ⟨RX3, "breakUp", "(I)I"⟩
abbrev cX3_withoutBit : ByteArray := prog_5_method_13_code
def yX3_withoutBit : MethodName := ⟨RX3, "withoutBit", "(II)I"⟩
abbrev cX3_isAgreeing : ByteArray := prog_5_method_14_code
def yX3_isAgreeing : MethodName := ⟨RX3, "isAgreeing", "(II)Z"⟩
abbrev cX3_tellAgreeing : ByteArray := prog_5_method_15_code
def yX3_tellAgreeing : MethodName := ⟨RX3, "tellAgreeing", "(II)I"⟩
abbrev cX3_findUnlike : ByteArray := prog_5_method_16_code
def yX3_findUnlike : MethodName := ⟨RX3, "findUnlike", "()V"⟩
abbrev cX3_fits : ByteArray := prog_5_method_17_code
def yX3_fits : MethodName := ⟨RX3, "fits", "(II)Z"⟩
abbrev cX3_goTogether : ByteArray := prog_5_method_18_code
def yX3_goTogether : MethodName := ⟨RX3, "goTogethe\x72", "(II)Z"⟩
abbrev cX3_countFrom : ByteArray := prog_5_method_19_code
def yX3_countFrom : MethodName := ⟨RX3, "countFrom", "(LOldStadium$Quarry;I)I"⟩
abbrev cX3_isRollFrom : ByteArray := prog_5_method_20_code
def yX3_isRollFrom : MethodName := ⟨RX3, "isRollFrom", "(LOldStadium$Quarry;II)Z"⟩
abbrev cX3_countRolls : ByteArray := prog_5_method_21_code
def yX3_countRolls : MethodName := ⟨RX3, "countRolls", "()I"⟩
abbrev cX3_tellYear : ByteArray := prog_5_method_22_code
def yX3_tellYear : MethodName := ⟨RX3, "tellYea\x72", "(II)I"⟩
abbrev cX3_fewestWrong : ByteArray := prog_5_method_23_code
def yX3_fewestWrong : MethodName := ⟨RX3, "fewestWrong", "()I"⟩
abbrev cX3_findFewest : ByteArray := prog_5_method_24_code
def yX3_findFewest : MethodName := ⟨RX3, "findFewest", "()I"⟩
def RX4 : String := "OldStadium"
def TX4 : u_T := fun k => match k with
  | 0 => ("OldStadium", "heats", "LOldStadium$Heats;", true)
  | 1 => ("OldStadium", "games", "LOldStadium$FiveInOne;", true)
  | 2 => ("OldStadium", "course", "LOldStadium$Hippodrome;", true)
  | _ => ("OldStadium", "quarry", "LOldStadium$Quarry;", true)
def tyX4 : Nat → FieldType := fun k => match k with
  | 0 => .object "OldStadium$Heats"
  | 1 => .object "OldStadium$FiveInOne"
  | 2 => .object "OldStadium$Hippodrome"
  | _ => .object "OldStadium$Quarry"
abbrev wsX40 : List Cond := u_ws RX4 TX4 4
theorem nmX4 : ∀ a, a < 4 → ∀ b, b < 4 → a ≠ b → (TX4 a).2.1 ≠ (TX4 b).2.1 := by decide +kernel
theorem tyX4_ok : ∀ k, k < 4 → parseFieldDescriptor (TX4 k).2.2.1 = some (tyX4 k) := by decide +kernel
abbrev cX4_init : ByteArray := prog_1_method_1_code
def yX4_init : MethodName := ⟨RX4, "<init>", "()V"⟩
abbrev cX4_runner : ByteArray := prog_1_method_2_code
def yX4_runner : MethodName := ⟨RX4, "runne\x72", "(I)I"⟩
abbrev cX4_judge : ByteArray := prog_1_method_3_code
def yX4_judge : MethodName := ⟨RX4, "judge", "(I)I"⟩
abbrev cX4_contest : ByteArray := prog_1_method_4_code
def yX4_contest : MethodName := ⟨RX4, "contest", "(III)I"⟩
abbrev cX4_heat : ByteArray := prog_1_method_5_code
def yX4_heat : MethodName := ⟨RX4, "heat", "(I)I"⟩
abbrev cX4_lane : ByteArray := prog_1_method_6_code
def yX4_lane : MethodName := ⟨RX4, "lane", "(II)I"⟩
abbrev cX4_count : ByteArray := prog_1_method_7_code
def yX4_count : MethodName := ⟨RX4, "count", "(I)I"⟩
abbrev cX4_winner : ByteArray := prog_1_method_8_code
def yX4_winner : MethodName := ⟨RX4, "winne\x72", "(II)Z"⟩
abbrev cX4_vote : ByteArray := prog_1_method_9_code
def yX4_vote : MethodName := ⟨RX4, "vote", "(III)Z"⟩
abbrev cX4_decide : ByteArray := prog_1_method_10_code
def yX4_decide : MethodName := ⟨RX4, "decide", "(I)I"⟩
abbrev cX4_next : ByteArray := prog_1_method_11_code
def yX4_next : MethodName := ⟨RX4, "next", "()I"⟩
abbrev cX4_five : ByteArray := prog_1_method_12_code
def yX4_five : MethodName := ⟨RX4, "five", "(I)Z"⟩
abbrev cX4_event : ByteArray := prog_1_method_13_code
def yX4_event : MethodName := ⟨RX4, "event", "(I)I"⟩
abbrev cX4_athlete : ByteArray := prog_1_method_14_code
def yX4_athlete : MethodName := ⟨RX4, "athlete", "(II)I"⟩
abbrev cX4_won : ByteArray := prog_1_method_15_code
def yX4_won : MethodName := ⟨RX4, "won", "()I"⟩
abbrev cX4_track : ByteArray := prog_1_method_16_code
def yX4_track : MethodName := ⟨RX4, "track", "(III)Z"⟩
abbrev cX4_chariot : ByteArray := prog_1_method_17_code
def yX4_chariot : MethodName := ⟨RX4, "chariot", "(II)I"⟩
abbrev cX4_drive : ByteArray := prog_1_method_18_code
def yX4_drive : MethodName := ⟨RX4, "drive", "(III)I"⟩
abbrev cX4_run : ByteArray := prog_1_method_19_code
def yX4_run : MethodName := ⟨RX4, "run", "(I)I"⟩
abbrev cX4_at : ByteArray := prog_1_method_20_code
def yX4_at : MethodName := ⟨RX4, "at", "(II)I"⟩
abbrev cX4_stone : ByteArray := prog_1_method_21_code
def yX4_stone : MethodName := ⟨RX4, "stone", "(IIIIII)I"⟩
abbrev cX4_join : ByteArray := prog_1_method_22_code
def yX4_join : MethodName := ⟨RX4, "join", "(IIZ)Z"⟩
abbrev cX4_span : ByteArray := prog_1_method_23_code
def yX4_span : MethodName := ⟨RX4, "span", "(I)I"⟩
abbrev cX4_lose : ByteArray := prog_1_method_24_code
def yX4_lose : MethodName := ⟨RX4, "lose", "(I)I"⟩
abbrev cX4_agree : ByteArray := prog_1_method_25_code
def yX4_agree : MethodName := ⟨RX4, "agree", "(II)I"⟩
abbrev cX4_rolls : ByteArray := prog_1_method_26_code
def yX4_rolls : MethodName := ⟨RX4, "rolls", "()I"⟩
abbrev cX4_year : ByteArray := prog_1_method_27_code
def yX4_year : MethodName := ⟨RX4, "yea\x72", "(II)I"⟩
abbrev cX4_wrong : ByteArray := prog_1_method_28_code
def yX4_wrong : MethodName := ⟨RX4, "wrong", "()I"⟩
abbrev cX4_letter : ByteArray := prog_1_method_29_code
def yX4_letter : MethodName := ⟨RX4, "lette\x72", "(II)I"⟩
abbrev cX4_isTown : ByteArray := prog_1_method_30_code
def yX4_isTown : MethodName := ⟨RX4, "isTown", "(I)Z"⟩
abbrev cX4_hasBit : ByteArray := prog_1_method_31_code
def yX4_hasBit : MethodName := ⟨RX4, "hasBit", "(II)Z"⟩
def RX5 : String := "OldStadiumModel"
def TX5 : u_T := fun k => match k with
  | 0 => ("OldStadiumModel", "town", "[I", true)
  | 1 => ("OldStadiumModel", "runners", "I", false)
  | 2 => ("OldStadiumModel", "judgeTown", "[I", true)
  | 3 => ("OldStadiumModel", "judges", "I", false)
  | 4 => ("OldStadiumModel", "goes", "Z", false)
  | 5 => ("OldStadiumModel", "size", "I", false)
  | 6 => ("OldStadiumModel", "\x72", "I", false)
  | 7 => ("OldStadiumModel", "round", "I", false)
  | 8 => ("OldStadiumModel", "row", "[I", true)
  | 9 => ("OldStadiumModel", "many", "I", false)
  | 10 => ("OldStadiumModel", "bye", "I", false)
  | 11 => ("OldStadiumModel", "hadBye", "[Z", true)
  | 12 => ("OldStadiumModel", "won", "[I", true)
  | 13 => ("OldStadiumModel", "votes", "[I", true)
  | 14 => ("OldStadiumModel", "victo\x72", "I", false)
  | 15 => ("OldStadiumModel", "athletes", "I", false)
  | 16 => ("OldStadiumModel", "events", "I", false)
  | 17 => ("OldStadiumModel", "wins", "[I", true)
  | 18 => ("OldStadiumModel", "sums", "[I", true)
  | 19 => ("OldStadiumModel", "lanes", "I", false)
  | 20 => ("OldStadiumModel", "cells", "I", false)
  | 21 => ("OldStadiumModel", "laps", "I", false)
  | 22 => ("OldStadiumModel", "tick", "I", false)
  | 23 => ("OldStadiumModel", "chariots", "I", false)
  | 24 => ("OldStadiumModel", "home", "I", false)
  | 25 => ("OldStadiumModel", "state", "[I", true)
  | 26 => ("OldStadiumModel", "lane", "[I", true)
  | 27 => ("OldStadiumModel", "cell", "[I", true)
  | 28 => ("OldStadiumModel", "done", "[I", true)
  | 29 => ("OldStadiumModel", "when", "[I", true)
  | 30 => ("OldStadiumModel", "place", "[I", true)
  | 31 => ("OldStadiumModel", "delay", "[I", true)
  | 32 => ("OldStadiumModel", "actMany", "[I", true)
  | 33 => ("OldStadiumModel", "forward", "[I", true)
  | 34 => ("OldStadiumModel", "side", "[I", true)
  | 35 => ("OldStadiumModel", "event", "[I", true)
  | 36 => ("OldStadiumModel", "from", "[I", true)
  | 37 => ("OldStadiumModel", "to", "[I", true)
  | 38 => ("OldStadiumModel", "letters", "[I", true)
  | 39 => ("OldStadiumModel", "stoneTown", "[I", true)
  | 40 => ("OldStadiumModel", "joined", "[Z", true)
  | 41 => ("OldStadiumModel", "stones", "I", false)
  | 42 => ("OldStadiumModel", "span", "I", false)
  | _ => ("OldStadiumModel", "stays", "[Z", true)
def tyX5 : Nat → FieldType := fun k => match k with
  | 0 => .array .int
  | 1 => .int
  | 2 => .array .int
  | 3 => .int
  | 4 => .boolean
  | 5 => .int
  | 6 => .int
  | 7 => .int
  | 8 => .array .int
  | 9 => .int
  | 10 => .int
  | 11 => .array .boolean
  | 12 => .array .int
  | 13 => .array .int
  | 14 => .int
  | 15 => .int
  | 16 => .int
  | 17 => .array .int
  | 18 => .array .int
  | 19 => .int
  | 20 => .int
  | 21 => .int
  | 22 => .int
  | 23 => .int
  | 24 => .int
  | 25 => .array .int
  | 26 => .array .int
  | 27 => .array .int
  | 28 => .array .int
  | 29 => .array .int
  | 30 => .array .int
  | 31 => .array .int
  | 32 => .array .int
  | 33 => .array .int
  | 34 => .array .int
  | 35 => .array .int
  | 36 => .array .int
  | 37 => .array .int
  | 38 => .array .int
  | 39 => .array .int
  | 40 => .array .boolean
  | 41 => .int
  | 42 => .int
  | _ => .array .boolean
abbrev wsX50 : List Cond := u_ws RX5 TX5 44
theorem nmX5 : ∀ a, a < 44 → ∀ b, b < 44 → a ≠ b → (TX5 a).2.1 ≠ (TX5 b).2.1 := by decide +kernel
theorem tyX5_ok : ∀ k, k < 44 → parseFieldDescriptor (TX5 k).2.2.1 = some (tyX5 k) := by decide +kernel
abbrev cX5_init : ByteArray := prog_7_method_1_code
def yX5_init : MethodName := ⟨RX5, "<init>", "()V"⟩
abbrev cX5_in : ByteArray := prog_7_method_2_code
def yX5_in : MethodName := ⟨RX5, "in", "(III)Z"⟩
abbrev cX5_runner : ByteArray := prog_7_method_3_code
def yX5_runner : MethodName := ⟨RX5, "runne\x72", "(I)I"⟩
abbrev cX5_judge : ByteArray := prog_7_method_4_code
def yX5_judge : MethodName := ⟨RX5, "judge", "(I)I"⟩
abbrev cX5_heats : ByteArray := prog_7_method_5_code
def yX5_heats : MethodName := ⟨RX5, "heats", "()I"⟩
abbrev cX5_mix : ByteArray := prog_7_method_6_code
def yX5_mix : MethodName := ⟨RX5, "mix", "()V"⟩
abbrev cX5_contest : ByteArray := prog_7_method_7_code
def yX5_contest : MethodName := ⟨RX5, "contest", "(III)I"⟩
abbrev cX5_inHeat : ByteArray := prog_7_method_8_code
def yX5_inHeat : MethodName := ⟨RX5, "inHeat", "(I)I"⟩
abbrev cX5_isHeat : ByteArray := prog_7_method_9_code
def yX5_isHeat : MethodName := ⟨RX5, "isHeat", "(I)Z"⟩
abbrev cX5_heat : ByteArray := prog_7_method_10_code
def yX5_heat : MethodName := ⟨RX5, "heat", "(I)I"⟩
abbrev cX5_lane : ByteArray := prog_7_method_11_code
def yX5_lane : MethodName := ⟨RX5, "lane", "(II)I"⟩
abbrev cX5_open : ByteArray := prog_7_method_12_code
def yX5_open : MethodName := ⟨RX5, "open", "()I"⟩
abbrev cX5_count : ByteArray := prog_7_method_13_code
def yX5_count : MethodName := ⟨RX5, "count", "(I)I"⟩
abbrev cX5_isIn : ByteArray := prog_7_method_14_code
def yX5_isIn : MethodName := ⟨RX5, "isIn", "(II)Z"⟩
abbrev cX5_winner : ByteArray := prog_7_method_15_code
def yX5_winner : MethodName := ⟨RX5, "winne\x72", "(II)Z"⟩
abbrev cX5_vote : ByteArray := prog_7_method_16_code
def yX5_vote : MethodName := ⟨RX5, "vote", "(III)Z"⟩
abbrev cX5_counts : ByteArray := prog_7_method_17_code
def yX5_counts : MethodName := ⟨RX5, "counts", "(II)Z"⟩
abbrev cX5_decide : ByteArray := prog_7_method_18_code
def yX5_decide : MethodName := ⟨RX5, "decide", "(I)I"⟩
abbrev cX5_next : ByteArray := prog_7_method_19_code
def yX5_next : MethodName := ⟨RX5, "next", "()I"⟩
abbrev cX5_five : ByteArray := prog_7_method_20_code
def yX5_five : MethodName := ⟨RX5, "five", "(I)Z"⟩
abbrev cX5_event : ByteArray := prog_7_method_21_code
def yX5_event : MethodName := ⟨RX5, "event", "(I)I"⟩
abbrev cX5_won : ByteArray := prog_7_method_22_code
def yX5_won : MethodName := ⟨RX5, "won", "()I"⟩
abbrev cX5_can : ByteArray := prog_7_method_23_code
def yX5_can : MethodName := ⟨RX5, "can", "(I)Z"⟩
abbrev cX5_athlete : ByteArray := prog_7_method_24_code
def yX5_athlete : MethodName := ⟨RX5, "athlete", "(II)I"⟩
abbrev cX5_track : ByteArray := prog_7_method_25_code
def yX5_track : MethodName := ⟨RX5, "track", "(III)Z"⟩
abbrev cX5_chariot : ByteArray := prog_7_method_26_code
def yX5_chariot : MethodName := ⟨RX5, "chariot", "(II)I"⟩
abbrev cX5_drive : ByteArray := prog_7_method_27_code
def yX5_drive : MethodName := ⟨RX5, "drive", "(III)I"⟩
abbrev cX5_crash : ByteArray := prog_7_method_28_code
def yX5_crash : MethodName := ⟨RX5, "crash", "()V"⟩
abbrev cX5_actOf : ByteArray := prog_7_method_29_code
def yX5_actOf : MethodName := ⟨RX5, "actOf", "(I)I"⟩
abbrev cX5_step : ByteArray := prog_7_method_30_code
def yX5_step : MethodName := ⟨RX5, "step", "(I)V"⟩
abbrev cX5_run : ByteArray := prog_7_method_31_code
def yX5_run : MethodName := ⟨RX5, "run", "(I)I"⟩
abbrev cX5_at : ByteArray := prog_7_method_32_code
def yX5_at : MethodName := ⟨RX5, "at", "(II)I"⟩
abbrev cX5_stone : ByteArray := prog_7_method_33_code
def yX5_stone : MethodName := ⟨RX5, "stone", "(IIIIII)I"⟩
abbrev cX5_isStone : ByteArray := prog_7_method_34_code
def yX5_isStone : MethodName := ⟨RX5, "isStone", "(I)Z"⟩
abbrev cX5_join : ByteArray := prog_7_method_35_code
def yX5_join : MethodName := ⟨RX5, "join", "(IIZ)Z"⟩
abbrev cX5_span : ByteArray := prog_7_method_36_code
def yX5_span : MethodName := ⟨RX5, "span", "(I)I"⟩
abbrev cX5_lose : ByteArray := prog_7_method_37_code
def yX5_lose : MethodName := ⟨RX5, "lose", "(I)I"⟩
abbrev cX5_doAgree : ByteArray := prog_7_method_38_code
def yX5_doAgree : MethodName := ⟨RX5, "doAgree", "(II)Z"⟩
abbrev cX5_agree : ByteArray := prog_7_method_39_code
def yX5_agree : MethodName := ⟨RX5, "agree", "(II)I"⟩
abbrev cX5_codes : ByteArray := prog_7_method_40_code
def yX5_codes : MethodName := ⟨RX5, "codes", "()I"⟩
abbrev cX5_yearOf : ByteArray := prog_7_method_41_code
def yX5_yearOf : MethodName := ⟨RX5, "yearOf", "(II)I"⟩
abbrev cX5_isRoll : ByteArray := prog_7_method_42_code
def yX5_isRoll : MethodName := ⟨RX5, "isRoll", "(II)Z"⟩
abbrev cX5_rolls : ByteArray := prog_7_method_43_code
def yX5_rolls : MethodName := ⟨RX5, "rolls", "()I"⟩
abbrev cX5_year : ByteArray := prog_7_method_44_code
def yX5_year : MethodName := ⟨RX5, "yea\x72", "(II)I"⟩
abbrev cX5_wrong : ByteArray := prog_7_method_45_code
def yX5_wrong : MethodName := ⟨RX5, "wrong", "()I"⟩
abbrev cX5_letter : ByteArray := prog_7_method_46_code
def yX5_letter : MethodName := ⟨RX5, "lette\x72", "(II)I"⟩
def RJx145de : String := "java/io/Serializable"
def TJx145de : u_T := fun k => match k with
  | _ => ("", "", "", false)
def tyJx145de : Nat → FieldType := fun k => match k with
  | _ => .int
abbrev wsJx145de0 : List Cond := u_ws RJx145de TJx145de 0
theorem nmJx145de : ∀ a, a < 0 → ∀ b, b < 0 → a ≠ b → (TJx145de a).2.1 ≠ (TJx145de b).2.1 := by decide +kernel
theorem tyJx145de_ok : ∀ k, k < 0 → parseFieldDescriptor (TJx145de k).2.2.1 = some (tyJx145de k) := by decide +kernel
def RJxb160c : String := "java/lang/Comparable"
def TJxb160c : u_T := fun k => match k with
  | _ => ("", "", "", false)
def tyJxb160c : Nat → FieldType := fun k => match k with
  | _ => .int
abbrev wsJxb160c0 : List Cond := u_ws RJxb160c TJxb160c 0
theorem nmJxb160c : ∀ a, a < 0 → ∀ b, b < 0 → a ≠ b → (TJxb160c a).2.1 ≠ (TJxb160c b).2.1 := by decide +kernel
theorem tyJxb160c_ok : ∀ k, k < 0 → parseFieldDescriptor (TJxb160c k).2.2.1 = some (tyJxb160c k) := by decide +kernel
def RJ6 : String := "java/lang/Intege\x72"
def TJ6 : u_T := fun k => match k with
  | _ => ("", "", "", false)
def tyJ6 : Nat → FieldType := fun k => match k with
  | _ => .int
abbrev wsJ60 : List Cond := u_ws RJ6 TJ6 0
theorem nmJ6 : ∀ a, a < 0 → ∀ b, b < 0 → a ≠ b → (TJ6 a).2.1 ≠ (TJ6 b).2.1 := by decide +kernel
theorem tyJ6_ok : ∀ k, k < 0 → parseFieldDescriptor (TJ6 k).2.2.1 = some (tyJ6 k) := by decide +kernel
abbrev cJ6_numberOfLeadingZeros_0f7a4 : ByteArray := prog_8_method_47_code
def yJ6_numberOfLeadingZeros_0f7a4 : MethodName := ⟨RJ6, "numberOfLeadingZeros", "(I)I"⟩
abbrev cJ6_numberOfTrailingZeros_0f7a4 : ByteArray := prog_8_method_48_code
def yJ6_numberOfTrailingZeros_0f7a4 : MethodName := ⟨RJ6, "numberOfTrailingZeros", "(I)I"⟩
abbrev cJ6_bitCount_0f7a4 : ByteArray := prog_8_method_49_code
def yJ6_bitCount_0f7a4 : MethodName := ⟨RJ6, "bitCount", "(I)I"⟩
def RJ13 : String := "java/lang/Long"
def TJ13 : u_T := fun k => match k with
  | _ => ("", "", "", false)
def tyJ13 : Nat → FieldType := fun k => match k with
  | _ => .int
abbrev wsJ130 : List Cond := u_ws RJ13 TJ13 0
theorem nmJ13 : ∀ a, a < 0 → ∀ b, b < 0 → a ≠ b → (TJ13 a).2.1 ≠ (TJ13 b).2.1 := by decide +kernel
theorem tyJ13_ok : ∀ k, k < 0 → parseFieldDescriptor (TJ13 k).2.2.1 = some (tyJ13 k) := by decide +kernel
abbrev cJ13_numberOfLeadingZeros_95d88 : ByteArray := prog_9_method_48_code
def yJ13_numberOfLeadingZeros_95d88 : MethodName := ⟨RJ13, "numberOfLeadingZeros", "(J)I"⟩
abbrev cJ13_numberOfTrailingZeros_95d88 : ByteArray := prog_9_method_49_code
def yJ13_numberOfTrailingZeros_95d88 : MethodName := ⟨RJ13, "numberOfTrailingZeros", "(J)I"⟩
abbrev cJ13_bitCount_95d88 : ByteArray := prog_9_method_50_code
def yJ13_bitCount_95d88 : MethodName := ⟨RJ13, "bitCount", "(J)I"⟩
def RJ9 : String := "java/lang/Math"
def TJ9 : u_T := fun k => match k with
  | _ => ("", "", "", false)
def tyJ9 : Nat → FieldType := fun k => match k with
  | _ => .int
abbrev wsJ90 : List Cond := u_ws RJ9 TJ9 0
theorem nmJ9 : ∀ a, a < 0 → ∀ b, b < 0 → a ≠ b → (TJ9 a).2.1 ≠ (TJ9 b).2.1 := by decide +kernel
theorem tyJ9_ok : ∀ k, k < 0 → parseFieldDescriptor (TJ9 k).2.2.1 = some (tyJ9 k) := by decide +kernel
abbrev cJ9_floorMod_7cf53 : ByteArray := prog_10_method_50_code
def yJ9_floorMod_7cf53 : MethodName := ⟨RJ9, "floorMod", "(II)I"⟩
abbrev cJ9_abs_0f7a4 : ByteArray := prog_10_method_59_code
def yJ9_abs_0f7a4 : MethodName := ⟨RJ9, "abs", "(I)I"⟩
abbrev cJ9_min_7cf53 : ByteArray := prog_10_method_69_code
def yJ9_min_7cf53 : MethodName := ⟨RJ9, "min", "(II)I"⟩
def RJxd2413 : String := "java/lang/Numbe\x72"
def TJxd2413 : u_T := fun k => match k with
  | _ => ("", "", "", false)
def tyJxd2413 : Nat → FieldType := fun k => match k with
  | _ => .int
abbrev wsJxd24130 : List Cond := u_ws RJxd2413 TJxd2413 0
theorem nmJxd2413 : ∀ a, a < 0 → ∀ b, b < 0 → a ≠ b → (TJxd2413 a).2.1 ≠ (TJxd2413 b).2.1 := by decide +kernel
theorem tyJxd2413_ok : ∀ k, k < 0 → parseFieldDescriptor (TJxd2413 k).2.2.1 = some (tyJxd2413 k) := by decide +kernel
def RJxfd54e : String := "java/lang/constant/Constable"
def TJxfd54e : u_T := fun k => match k with
  | _ => ("", "", "", false)
def tyJxfd54e : Nat → FieldType := fun k => match k with
  | _ => .int
abbrev wsJxfd54e0 : List Cond := u_ws RJxfd54e TJxfd54e 0
theorem nmJxfd54e : ∀ a, a < 0 → ∀ b, b < 0 → a ≠ b → (TJxfd54e a).2.1 ≠ (TJxfd54e b).2.1 := by decide +kernel
theorem tyJxfd54e_ok : ∀ k, k < 0 → parseFieldDescriptor (TJxfd54e k).2.2.1 = some (tyJxfd54e k) := by decide +kernel
def RJx3cf43 : String := "java/lang/constant/ConstantDesc"
def TJx3cf43 : u_T := fun k => match k with
  | _ => ("", "", "", false)
def tyJx3cf43 : Nat → FieldType := fun k => match k with
  | _ => .int
abbrev wsJx3cf430 : List Cond := u_ws RJx3cf43 TJx3cf43 0
theorem nmJx3cf43 : ∀ a, a < 0 → ∀ b, b < 0 → a ≠ b → (TJx3cf43 a).2.1 ≠ (TJx3cf43 b).2.1 := by decide +kernel
theorem tyJx3cf43_ok : ∀ k, k < 0 → parseFieldDescriptor (TJx3cf43 k).2.2.1 = some (tyJx3cf43 k) := by decide +kernel
def RJ7 : String := "java/util/Arrays"
def TJ7 : u_T := fun k => match k with
  | _ => ("", "", "", false)
def tyJ7 : Nat → FieldType := fun k => match k with
  | _ => .int
abbrev wsJ70 : List Cond := u_ws RJ7 TJ7 0
theorem nmJ7 : ∀ a, a < 0 → ∀ b, b < 0 → a ≠ b → (TJ7 a).2.1 ≠ (TJ7 b).2.1 := by decide +kernel
theorem tyJ7_ok : ∀ k, k < 0 → parseFieldDescriptor (TJ7 k).2.2.1 = some (tyJ7 k) := by decide +kernel
abbrev cJ7_fill_d0a16 : ByteArray := prog_12_method_101_code
def yJ7_fill_d0a16 : MethodName := ⟨RJ7, "fill", "([JJ)V"⟩
abbrev cJ7_fill_53178 : ByteArray := prog_12_method_103_code
def yJ7_fill_53178 : MethodName := ⟨RJ7, "fill", "([II)V"⟩
def RL : String := "OldStadiumLaw"
abbrev cL_law : ByteArray := code
def yL_law : MethodName := ⟨RL, "law", "([I)Z"⟩
def wsX0_init : List Cond := .code yX0_init cX0_init 1 none :: ([.methodLink RX0 3 objectInit, .instanceMethod objectInit, .code objectInit ⟨#[0xb1]⟩ 1 none, .arrayClass .int, .fieldLink RX0 11 "OldStadium$FiveInOne" "wins" "[I", .fieldLink RX0 15 "OldStadium$FiveInOne" "sums" "[I", .fieldLink RX0 18 "OldStadium$FiveInOne" "athletes" "I", .fieldLink RX0 22 "OldStadium$FiveInOne" "told" "I", .fieldLink RX0 25 "OldStadium$FiveInOne" "champion" "I"] ++ wsX00)
def wsJ7_fill_53178 : List Cond := .code yJ7_fill_53178 cJ7_fill_53178 4 none :: ([])
def wsX0_begin : List Cond := .code yX0_begin cX0_begin 2 (some .boolean) :: ([.fieldLink RX0 18 "OldStadium$FiveInOne" "athletes" "I", .fieldLink RX0 22 "OldStadium$FiveInOne" "told" "I", .fieldLink RX0 25 "OldStadium$FiveInOne" "champion" "I", .fieldLink RX0 11 "OldStadium$FiveInOne" "wins" "[I", .fieldLink RX0 15 "OldStadium$FiveInOne" "sums" "[I", .methodLink RX0 28 yJ7_fill_53178, .static yJ7_fill_53178, .initialized RJ7, .code yJ7_fill_53178 cJ7_fill_53178 4 none] ++ wsX00)
def wsX4_hasBit : List Cond := .code yX4_hasBit cX4_hasBit 2 (some .boolean) :: ([])
def wsX0_isOrder : List Cond := .code yX0_isOrder cX0_isOrder 6 (some .boolean) :: ([.fieldLink RX0 18 "OldStadium$FiveInOne" "athletes" "I", .static yX4_hasBit, .initialized RX4, .code yX4_hasBit cX4_hasBit 2 (some .boolean)] ++ wsX00)
def wsX0_isAhead : List Cond := .code yX0_isAhead cX0_isAhead 6 (some .boolean) :: ([])
def wsX0_findChampion : List Cond := .code yX0_findChampion cX0_findChampion 3 (some .int) :: ([.fieldLink RX0 18 "OldStadium$FiveInOne" "athletes" "I", .fieldLink RX0 11 "OldStadium$FiveInOne" "wins" "[I", .fieldLink RX0 15 "OldStadium$FiveInOne" "sums" "[I", .fieldLink RX0 22 "OldStadium$FiveInOne" "told" "I", .methodLink RX0 46 yX0_isAhead, .static yX0_isAhead, .initialized RX0, .code yX0_isAhead cX0_isAhead 6 (some .boolean)] ++ wsX00)
def wsX0_tellOrder : List Cond := .code yX0_tellOrder cX0_tellOrder 5 (some .int) :: ([.fieldLink RX0 18 "OldStadium$FiveInOne" "athletes" "I", .fieldLink RX0 25 "OldStadium$FiveInOne" "champion" "I", .fieldLink RX0 15 "OldStadium$FiveInOne" "sums" "[I", .fieldLink RX0 11 "OldStadium$FiveInOne" "wins" "[I", .fieldLink RX0 22 "OldStadium$FiveInOne" "told" "I", .methodLink RX0 34 yX0_isOrder, .instanceMethod yX0_isOrder, .selects RX0 yX0_isOrder yX0_isOrder, .initialized RX0, .code yX0_isOrder cX0_isOrder 6 (some .boolean), .static yX4_hasBit, .initialized RX4, .code yX4_hasBit cX4_hasBit 2 (some .boolean), .methodLink RX0 38 yX0_findChampion, .instanceMethod yX0_findChampion, .selects RX0 yX0_findChampion yX0_findChampion, .code yX0_findChampion cX0_findChampion 3 (some .int), .methodLink RX0 46 yX0_isAhead, .static yX0_isAhead, .code yX0_isAhead cX0_isAhead 6 (some .boolean)] ++ wsX00)
def wsX0_champion : List Cond := .code yX0_champion cX0_champion 1 (some .int) :: ([.fieldLink RX0 25 "OldStadium$FiveInOne" "champion" "I"] ++ wsX00)
def wsX0_canWin : List Cond := .code yX0_canWin cX0_canWin 6 (some .boolean) :: ([.fieldLink RX0 25 "OldStadium$FiveInOne" "champion" "I", .fieldLink RX0 22 "OldStadium$FiveInOne" "told" "I", .fieldLink RX0 11 "OldStadium$FiveInOne" "wins" "[I", .fieldLink RX0 18 "OldStadium$FiveInOne" "athletes" "I", .fieldLink RX0 15 "OldStadium$FiveInOne" "sums" "[I", .methodLink RX0 46 yX0_isAhead, .static yX0_isAhead, .initialized RX0, .code yX0_isAhead cX0_isAhead 6 (some .boolean)] ++ wsX00)
def wsX0_tell : List Cond := .code yX0_tell cX0_tell 3 (some .int) :: ([.fieldLink RX0 18 "OldStadium$FiveInOne" "athletes" "I", .fieldLink RX0 11 "OldStadium$FiveInOne" "wins" "[I", .fieldLink RX0 15 "OldStadium$FiveInOne" "sums" "[I", .methodLink RX0 50 yX0_canWin, .instanceMethod yX0_canWin, .selects RX0 yX0_canWin yX0_canWin, .initialized RX0, .code yX0_canWin cX0_canWin 6 (some .boolean), .fieldLink RX0 25 "OldStadium$FiveInOne" "champion" "I", .fieldLink RX0 22 "OldStadium$FiveInOne" "told" "I", .methodLink RX0 46 yX0_isAhead, .static yX0_isAhead, .code yX0_isAhead cX0_isAhead 6 (some .boolean)] ++ wsX00)
def wsX1_init : List Cond := .code yX1_init cX1_init 1 none :: ([.methodLink RX1 5 objectInit, .instanceMethod objectInit, .code objectInit ⟨#[0xb1]⟩ 1 none, .arrayClass .int, .fieldLink RX1 11 "OldStadium$Heats" "runnerTowns" "[I", .fieldLink RX1 15 "OldStadium$Heats" "judgeTowns" "[I", .fieldLink RX1 18 "OldStadium$Heats" "row" "[I", .fieldLink RX1 21 "OldStadium$Heats" "winners" "[I", .classLink RX1 24 "[[I", .fieldLink RX1 26 "OldStadium$Heats" "votes" "[[I", .fieldLink RX1 29 "OldStadium$Heats" "runners" "I", .fieldLink RX1 33 "OldStadium$Heats" "judges" "I", .fieldLink RX1 36 "OldStadium$Heats" "going" "Z", .fieldLink RX1 40 "OldStadium$Heats" "round" "I", .fieldLink RX1 43 "OldStadium$Heats" "size" "I", .fieldLink RX1 46 "OldStadium$Heats" "entered" "I", .fieldLink RX1 49 "OldStadium$Heats" "heats" "I", .fieldLink RX1 52 "OldStadium$Heats" "bye" "I", .fieldLink RX1 55 "OldStadium$Heats" "byesHad" "I", .fieldLink RX1 58 "OldStadium$Heats" "victo\x72" "I", .fieldLink RX1 61 "OldStadium$Heats" "lot" "I"] ++ wsX10)
def wsX4_isTown : List Cond := .code yX4_isTown cX4_isTown 1 (some .boolean) :: ([])
def wsX1_addRunner : List Cond := .code yX1_addRunner cX1_addRunner 2 (some .int) :: ([.fieldLink RX1 29 "OldStadium$Heats" "runners" "I", .fieldLink RX1 11 "OldStadium$Heats" "runnerTowns" "[I", .static yX4_isTown, .initialized RX4, .code yX4_isTown cX4_isTown 1 (some .boolean)] ++ wsX10)
def wsX1_addJudge : List Cond := .code yX1_addJudge cX1_addJudge 2 (some .int) :: ([.fieldLink RX1 33 "OldStadium$Heats" "judges" "I", .fieldLink RX1 15 "OldStadium$Heats" "judgeTowns" "[I", .static yX4_isTown, .initialized RX4, .code yX4_isTown cX4_isTown 1 (some .boolean)] ++ wsX10)
def wsX1_enter : List Cond := .code yX1_enter cX1_enter 3 none :: ([.fieldLink RX1 46 "OldStadium$Heats" "entered" "I", .fieldLink RX1 29 "OldStadium$Heats" "runners" "I", .fieldLink RX1 18 "OldStadium$Heats" "row" "[I", .static yX4_hasBit, .initialized RX4, .code yX4_hasBit cX4_hasBit 2 (some .boolean)] ++ wsX10)
def wsX1_exchange : List Cond := .code yX1_exchange cX1_exchange 4 none :: ([.fieldLink RX1 18 "OldStadium$Heats" "row" "[I"] ++ wsX10)
def wsX1_mixRow : List Cond := .code yX1_mixRow cX1_mixRow 2 none :: ([.fieldLink RX1 46 "OldStadium$Heats" "entered" "I", .fieldLink RX1 61 "OldStadium$Heats" "lot" "I", .constant RX1 92 (1103515245), .methodLink RX1 93 yX1_exchange, .instanceMethod yX1_exchange, .selects RX1 yX1_exchange yX1_exchange, .initialized RX1, .code yX1_exchange cX1_exchange 4 none, .fieldLink RX1 18 "OldStadium$Heats" "row" "[I"] ++ wsX10)
def wsX1_lastWithoutBye : List Cond := .code yX1_lastWithoutBye cX1_lastWithoutBye 3 (some .int) :: ([.fieldLink RX1 55 "OldStadium$Heats" "byesHad" "I", .fieldLink RX1 18 "OldStadium$Heats" "row" "[I", .static yX4_hasBit, .initialized RX4, .code yX4_hasBit cX4_hasBit 2 (some .boolean)] ++ wsX10)
def wsX1_giveBye : List Cond := .code yX1_giveBye cX1_giveBye 2 none :: ([.fieldLink RX1 55 "OldStadium$Heats" "byesHad" "I", .fieldLink RX1 18 "OldStadium$Heats" "row" "[I", .fieldLink RX1 52 "OldStadium$Heats" "bye" "I", .static yX4_hasBit, .initialized RX4, .code yX4_hasBit cX4_hasBit 2 (some .boolean), .methodLink RX1 97 yX1_lastWithoutBye, .instanceMethod yX1_lastWithoutBye, .selects RX1 yX1_lastWithoutBye yX1_lastWithoutBye, .initialized RX1, .code yX1_lastWithoutBye cX1_lastWithoutBye 3 (some .int), .methodLink RX1 93 yX1_exchange, .instanceMethod yX1_exchange, .selects RX1 yX1_exchange yX1_exchange, .code yX1_exchange cX1_exchange 4 none] ++ wsX10)
def wsX1_beginRound_r1 : List Cond := [Cond.fieldLink RX1 40 "OldStadium$Heats" "round" "I", Cond.fieldLink RX1 43 "OldStadium$Heats" "size" "I", Cond.fieldLink RX1 46 "OldStadium$Heats" "entered" "I", Cond.fieldLink RX1 49 "OldStadium$Heats" "heats" "I", Cond.fieldLink RX1 52 "OldStadium$Heats" "bye" "I", Cond.fieldLink RX1 21 "OldStadium$Heats" "winners" "[I", Cond.fieldLink RX1 26 "OldStadium$Heats" "votes" "[[I", Cond.methodLink RX1 80 yX1_mixRow, Cond.instanceMethod yX1_mixRow, Cond.selects RX1 yX1_mixRow yX1_mixRow, Cond.initialized RX1, Cond.code yX1_mixRow cX1_mixRow 2 none, Cond.fieldLink RX1 61 "OldStadium$Heats" "lot" "I", Cond.constant RX1 92 (1103515245), Cond.methodLink RX1 93 yX1_exchange, Cond.instanceMethod yX1_exchange, Cond.selects RX1 yX1_exchange yX1_exchange, Cond.code yX1_exchange cX1_exchange 4 none, Cond.fieldLink RX1 18 "OldStadium$Heats" "row" "[I", Cond.methodLink RX1 83 yX1_giveBye, Cond.instanceMethod yX1_giveBye, Cond.selects RX1 yX1_giveBye yX1_giveBye, Cond.code yX1_giveBye cX1_giveBye 2 none, Cond.fieldLink RX1 55 "OldStadium$Heats" "byesHad" "I"]
def wsX1_beginRound_r2 : List Cond := [Cond.static yX4_hasBit, Cond.initialized RX4, Cond.code yX4_hasBit cX4_hasBit 2 (some .boolean), Cond.methodLink RX1 97 yX1_lastWithoutBye, Cond.instanceMethod yX1_lastWithoutBye, Cond.selects RX1 yX1_lastWithoutBye yX1_lastWithoutBye, Cond.code yX1_lastWithoutBye cX1_lastWithoutBye 3 (some .int), Cond.methodLink RX1 86 yJ7_fill_53178, Cond.static yJ7_fill_53178, Cond.initialized RJ7, Cond.code yJ7_fill_53178 cJ7_fill_53178 4 none]
def wsX1_beginRound : List Cond := .code yX1_beginRound cX1_beginRound 3 (some .int) :: ((wsX1_beginRound_r1 ++ wsX1_beginRound_r2) ++ wsX10)
def wsX1_begin_r1 : List Cond := [Cond.fieldLink RX1 29 "OldStadium$Heats" "runners" "I", Cond.fieldLink RX1 43 "OldStadium$Heats" "size" "I", Cond.fieldLink RX1 61 "OldStadium$Heats" "lot" "I", Cond.fieldLink RX1 40 "OldStadium$Heats" "round" "I", Cond.fieldLink RX1 55 "OldStadium$Heats" "byesHad" "I", Cond.fieldLink RX1 58 "OldStadium$Heats" "victo\x72" "I", Cond.fieldLink RX1 36 "OldStadium$Heats" "going" "Z", Cond.methodLink RX1 68 yX1_enter, Cond.instanceMethod yX1_enter, Cond.selects RX1 yX1_enter yX1_enter, Cond.initialized RX1, Cond.code yX1_enter cX1_enter 3 none, Cond.fieldLink RX1 46 "OldStadium$Heats" "entered" "I", Cond.fieldLink RX1 18 "OldStadium$Heats" "row" "[I", Cond.static yX4_hasBit, Cond.initialized RX4, Cond.code yX4_hasBit cX4_hasBit 2 (some .boolean), Cond.methodLink RX1 72 yX1_beginRound, Cond.instanceMethod yX1_beginRound, Cond.selects RX1 yX1_beginRound yX1_beginRound, Cond.code yX1_beginRound cX1_beginRound 3 (some .int), Cond.fieldLink RX1 49 "OldStadium$Heats" "heats" "I", Cond.fieldLink RX1 52 "OldStadium$Heats" "bye" "I", Cond.fieldLink RX1 21 "OldStadium$Heats" "winners" "[I"]
def wsX1_begin_r2 : List Cond := [Cond.fieldLink RX1 26 "OldStadium$Heats" "votes" "[[I", Cond.methodLink RX1 80 yX1_mixRow, Cond.instanceMethod yX1_mixRow, Cond.selects RX1 yX1_mixRow yX1_mixRow, Cond.code yX1_mixRow cX1_mixRow 2 none, Cond.constant RX1 92 (1103515245), Cond.methodLink RX1 93 yX1_exchange, Cond.instanceMethod yX1_exchange, Cond.selects RX1 yX1_exchange yX1_exchange, Cond.code yX1_exchange cX1_exchange 4 none, Cond.methodLink RX1 83 yX1_giveBye, Cond.instanceMethod yX1_giveBye, Cond.selects RX1 yX1_giveBye yX1_giveBye, Cond.code yX1_giveBye cX1_giveBye 2 none, Cond.methodLink RX1 97 yX1_lastWithoutBye, Cond.instanceMethod yX1_lastWithoutBye, Cond.selects RX1 yX1_lastWithoutBye yX1_lastWithoutBye, Cond.code yX1_lastWithoutBye cX1_lastWithoutBye 3 (some .int), Cond.methodLink RX1 86 yJ7_fill_53178, Cond.static yJ7_fill_53178, Cond.initialized RJ7, Cond.code yJ7_fill_53178 cJ7_fill_53178 4 none]
def wsX1_begin : List Cond := .code yX1_begin cX1_begin 5 (some .int) :: ((wsX1_begin_r1 ++ wsX1_begin_r2) ++ wsX10)
def wsX1_isHeat : List Cond := .code yX1_isHeat cX1_isHeat 2 (some .boolean) :: ([.fieldLink RX1 49 "OldStadium$Heats" "heats" "I"] ++ wsX10)
def wsX1_sizeOf : List Cond := .code yX1_sizeOf cX1_sizeOf 2 (some .int) :: ([.fieldLink RX1 43 "OldStadium$Heats" "size" "I", .fieldLink RX1 46 "OldStadium$Heats" "entered" "I", .methodLink RX1 101 Lib.Math.min.name, .static Lib.Math.min.name, .initialized "java/lang/Math", .code Lib.Math.min.name Lib.Math.min.code 2 (some .int)] ++ wsX10)
def wsX1_runnerAt : List Cond := .code yX1_runnerAt cX1_runnerAt 3 (some .int) :: ([.fieldLink RX1 18 "OldStadium$Heats" "row" "[I", .fieldLink RX1 43 "OldStadium$Heats" "size" "I", .methodLink RX1 107 yX1_isHeat, .instanceMethod yX1_isHeat, .selects RX1 yX1_isHeat yX1_isHeat, .initialized RX1, .code yX1_isHeat cX1_isHeat 2 (some .boolean), .fieldLink RX1 49 "OldStadium$Heats" "heats" "I", .methodLink RX1 110 yX1_sizeOf, .instanceMethod yX1_sizeOf, .selects RX1 yX1_sizeOf yX1_sizeOf, .code yX1_sizeOf cX1_sizeOf 2 (some .int), .fieldLink RX1 46 "OldStadium$Heats" "entered" "I", .methodLink RX1 101 Lib.Math.min.name, .static Lib.Math.min.name, .initialized "java/lang/Math", .code Lib.Math.min.name Lib.Math.min.code 2 (some .int)] ++ wsX10)
def wsX1_isIn : List Cond := .code yX1_isIn cX1_isIn 4 (some .boolean) :: ([.fieldLink RX1 43 "OldStadium$Heats" "size" "I", .methodLink RX1 113 yX1_runnerAt, .instanceMethod yX1_runnerAt, .selects RX1 yX1_runnerAt yX1_runnerAt, .initialized RX1, .code yX1_runnerAt cX1_runnerAt 3 (some .int), .fieldLink RX1 18 "OldStadium$Heats" "row" "[I", .methodLink RX1 107 yX1_isHeat, .instanceMethod yX1_isHeat, .selects RX1 yX1_isHeat yX1_isHeat, .code yX1_isHeat cX1_isHeat 2 (some .boolean), .fieldLink RX1 49 "OldStadium$Heats" "heats" "I", .methodLink RX1 110 yX1_sizeOf, .instanceMethod yX1_sizeOf, .selects RX1 yX1_sizeOf yX1_sizeOf, .code yX1_sizeOf cX1_sizeOf 2 (some .int), .fieldLink RX1 46 "OldStadium$Heats" "entered" "I", .methodLink RX1 101 Lib.Math.min.name, .static Lib.Math.min.name, .initialized "java/lang/Math", .code Lib.Math.min.name Lib.Math.min.code 2 (some .int)] ++ wsX10)
def wsX1_heatOf_r1 : List Cond := [Cond.fieldLink RX1 36 "OldStadium$Heats" "going" "Z", Cond.fieldLink RX1 49 "OldStadium$Heats" "heats" "I", Cond.methodLink RX1 116 yX1_isIn, Cond.instanceMethod yX1_isIn, Cond.selects RX1 yX1_isIn yX1_isIn, Cond.initialized RX1, Cond.code yX1_isIn cX1_isIn 4 (some .boolean), Cond.fieldLink RX1 43 "OldStadium$Heats" "size" "I", Cond.methodLink RX1 113 yX1_runnerAt, Cond.instanceMethod yX1_runnerAt, Cond.selects RX1 yX1_runnerAt yX1_runnerAt, Cond.code yX1_runnerAt cX1_runnerAt 3 (some .int), Cond.fieldLink RX1 18 "OldStadium$Heats" "row" "[I", Cond.methodLink RX1 107 yX1_isHeat, Cond.instanceMethod yX1_isHeat, Cond.selects RX1 yX1_isHeat yX1_isHeat, Cond.code yX1_isHeat cX1_isHeat 2 (some .boolean), Cond.methodLink RX1 110 yX1_sizeOf, Cond.instanceMethod yX1_sizeOf, Cond.selects RX1 yX1_sizeOf yX1_sizeOf, Cond.code yX1_sizeOf cX1_sizeOf 2 (some .int), Cond.fieldLink RX1 46 "OldStadium$Heats" "entered" "I", Cond.methodLink RX1 101 Lib.Math.min.name, Cond.static Lib.Math.min.name]
def wsX1_heatOf_r2 : List Cond := [Cond.initialized "java/lang/Math", Cond.code Lib.Math.min.name Lib.Math.min.code 2 (some .int)]
def wsX1_heatOf : List Cond := .code yX1_heatOf cX1_heatOf 3 (some .int) :: ((wsX1_heatOf_r1 ++ wsX1_heatOf_r2) ++ wsX10)
def wsX1_openHeats : List Cond := .code yX1_openHeats cX1_openHeats 3 (some .int) :: ([.fieldLink RX1 49 "OldStadium$Heats" "heats" "I", .fieldLink RX1 21 "OldStadium$Heats" "winners" "[I"] ++ wsX10)
def wsX1_tell : List Cond := .code yX1_tell cX1_tell 2 (some .int) :: ([.fieldLink RX1 29 "OldStadium$Heats" "runners" "I", .fieldLink RX1 33 "OldStadium$Heats" "judges" "I", .fieldLink RX1 40 "OldStadium$Heats" "round" "I", .fieldLink RX1 49 "OldStadium$Heats" "heats" "I", .fieldLink RX1 52 "OldStadium$Heats" "bye" "I", .fieldLink RX1 58 "OldStadium$Heats" "victo\x72" "I", .fieldLink RX1 61 "OldStadium$Heats" "lot" "I", .methodLink RX1 119 yX1_openHeats, .instanceMethod yX1_openHeats, .selects RX1 yX1_openHeats yX1_openHeats, .initialized RX1, .code yX1_openHeats cX1_openHeats 3 (some .int), .fieldLink RX1 21 "OldStadium$Heats" "winners" "[I"] ++ wsX10)
def wsX1_setWinner_r1 : List Cond := [Cond.fieldLink RX1 36 "OldStadium$Heats" "going" "Z", Cond.fieldLink RX1 21 "OldStadium$Heats" "winners" "[I", Cond.methodLink RX1 107 yX1_isHeat, Cond.instanceMethod yX1_isHeat, Cond.selects RX1 yX1_isHeat yX1_isHeat, Cond.initialized RX1, Cond.code yX1_isHeat cX1_isHeat 2 (some .boolean), Cond.fieldLink RX1 49 "OldStadium$Heats" "heats" "I", Cond.methodLink RX1 116 yX1_isIn, Cond.instanceMethod yX1_isIn, Cond.selects RX1 yX1_isIn yX1_isIn, Cond.code yX1_isIn cX1_isIn 4 (some .boolean), Cond.fieldLink RX1 43 "OldStadium$Heats" "size" "I", Cond.methodLink RX1 113 yX1_runnerAt, Cond.instanceMethod yX1_runnerAt, Cond.selects RX1 yX1_runnerAt yX1_runnerAt, Cond.code yX1_runnerAt cX1_runnerAt 3 (some .int), Cond.fieldLink RX1 18 "OldStadium$Heats" "row" "[I", Cond.methodLink RX1 110 yX1_sizeOf, Cond.instanceMethod yX1_sizeOf, Cond.selects RX1 yX1_sizeOf yX1_sizeOf, Cond.code yX1_sizeOf cX1_sizeOf 2 (some .int), Cond.fieldLink RX1 46 "OldStadium$Heats" "entered" "I", Cond.methodLink RX1 101 Lib.Math.min.name]
def wsX1_setWinner_r2 : List Cond := [Cond.static Lib.Math.min.name, Cond.initialized "java/lang/Math", Cond.code Lib.Math.min.name Lib.Math.min.code 2 (some .int)]
def wsX1_setWinner : List Cond := .code yX1_setWinner cX1_setWinner 3 (some .boolean) :: ((wsX1_setWinner_r1 ++ wsX1_setWinner_r2) ++ wsX10)
def wsX1_castVote_r1 : List Cond := [Cond.fieldLink RX1 33 "OldStadium$Heats" "judges" "I", Cond.fieldLink RX1 36 "OldStadium$Heats" "going" "Z", Cond.fieldLink RX1 26 "OldStadium$Heats" "votes" "[[I", Cond.methodLink RX1 107 yX1_isHeat, Cond.instanceMethod yX1_isHeat, Cond.selects RX1 yX1_isHeat yX1_isHeat, Cond.initialized RX1, Cond.code yX1_isHeat cX1_isHeat 2 (some .boolean), Cond.fieldLink RX1 49 "OldStadium$Heats" "heats" "I", Cond.methodLink RX1 116 yX1_isIn, Cond.instanceMethod yX1_isIn, Cond.selects RX1 yX1_isIn yX1_isIn, Cond.code yX1_isIn cX1_isIn 4 (some .boolean), Cond.fieldLink RX1 43 "OldStadium$Heats" "size" "I", Cond.methodLink RX1 113 yX1_runnerAt, Cond.instanceMethod yX1_runnerAt, Cond.selects RX1 yX1_runnerAt yX1_runnerAt, Cond.code yX1_runnerAt cX1_runnerAt 3 (some .int), Cond.fieldLink RX1 18 "OldStadium$Heats" "row" "[I", Cond.methodLink RX1 110 yX1_sizeOf, Cond.instanceMethod yX1_sizeOf, Cond.selects RX1 yX1_sizeOf yX1_sizeOf, Cond.code yX1_sizeOf cX1_sizeOf 2 (some .int), Cond.fieldLink RX1 46 "OldStadium$Heats" "entered" "I"]
def wsX1_castVote_r2 : List Cond := [Cond.methodLink RX1 101 Lib.Math.min.name, Cond.static Lib.Math.min.name, Cond.initialized "java/lang/Math", Cond.code Lib.Math.min.name Lib.Math.min.code 2 (some .int)]
def wsX1_castVote : List Cond := .code yX1_castVote cX1_castVote 4 (some .boolean) :: ((wsX1_castVote_r1 ++ wsX1_castVote_r2) ++ wsX10)
def wsX1_hasTown : List Cond := .code yX1_hasTown cX1_hasTown 5 (some .boolean) :: ([.fieldLink RX1 11 "OldStadium$Heats" "runnerTowns" "[I", .methodLink RX1 110 yX1_sizeOf, .instanceMethod yX1_sizeOf, .selects RX1 yX1_sizeOf yX1_sizeOf, .initialized RX1, .code yX1_sizeOf cX1_sizeOf 2 (some .int), .fieldLink RX1 43 "OldStadium$Heats" "size" "I", .fieldLink RX1 46 "OldStadium$Heats" "entered" "I", .methodLink RX1 101 Lib.Math.min.name, .static Lib.Math.min.name, .initialized "java/lang/Math", .code Lib.Math.min.name Lib.Math.min.code 2 (some .int), .methodLink RX1 113 yX1_runnerAt, .instanceMethod yX1_runnerAt, .selects RX1 yX1_runnerAt yX1_runnerAt, .code yX1_runnerAt cX1_runnerAt 3 (some .int), .fieldLink RX1 18 "OldStadium$Heats" "row" "[I", .methodLink RX1 107 yX1_isHeat, .instanceMethod yX1_isHeat, .selects RX1 yX1_isHeat yX1_isHeat, .code yX1_isHeat cX1_isHeat 2 (some .boolean), .fieldLink RX1 49 "OldStadium$Heats" "heats" "I"] ++ wsX10)
def wsX1_votesFor_r1 : List Cond := [Cond.fieldLink RX1 33 "OldStadium$Heats" "judges" "I", Cond.fieldLink RX1 26 "OldStadium$Heats" "votes" "[[I", Cond.fieldLink RX1 15 "OldStadium$Heats" "judgeTowns" "[I", Cond.methodLink RX1 125 yX1_hasTown, Cond.instanceMethod yX1_hasTown, Cond.selects RX1 yX1_hasTown yX1_hasTown, Cond.initialized RX1, Cond.code yX1_hasTown cX1_hasTown 5 (some .boolean), Cond.fieldLink RX1 11 "OldStadium$Heats" "runnerTowns" "[I", Cond.methodLink RX1 110 yX1_sizeOf, Cond.instanceMethod yX1_sizeOf, Cond.selects RX1 yX1_sizeOf yX1_sizeOf, Cond.code yX1_sizeOf cX1_sizeOf 2 (some .int), Cond.fieldLink RX1 43 "OldStadium$Heats" "size" "I", Cond.fieldLink RX1 46 "OldStadium$Heats" "entered" "I", Cond.methodLink RX1 101 Lib.Math.min.name, Cond.static Lib.Math.min.name, Cond.initialized "java/lang/Math", Cond.code Lib.Math.min.name Lib.Math.min.code 2 (some .int), Cond.methodLink RX1 113 yX1_runnerAt, Cond.instanceMethod yX1_runnerAt, Cond.selects RX1 yX1_runnerAt yX1_runnerAt, Cond.code yX1_runnerAt cX1_runnerAt 3 (some .int), Cond.fieldLink RX1 18 "OldStadium$Heats" "row" "[I"]
def wsX1_votesFor_r2 : List Cond := [Cond.methodLink RX1 107 yX1_isHeat, Cond.instanceMethod yX1_isHeat, Cond.selects RX1 yX1_isHeat yX1_isHeat, Cond.code yX1_isHeat cX1_isHeat 2 (some .boolean), Cond.fieldLink RX1 49 "OldStadium$Heats" "heats" "I"]
def wsX1_votesFor : List Cond := .code yX1_votesFor cX1_votesFor 5 (some .int) :: ((wsX1_votesFor_r1 ++ wsX1_votesFor_r2) ++ wsX10)
def wsX1_decideByVotes_r1 : List Cond := [Cond.fieldLink RX1 36 "OldStadium$Heats" "going" "Z", Cond.fieldLink RX1 21 "OldStadium$Heats" "winners" "[I", Cond.methodLink RX1 107 yX1_isHeat, Cond.instanceMethod yX1_isHeat, Cond.selects RX1 yX1_isHeat yX1_isHeat, Cond.initialized RX1, Cond.code yX1_isHeat cX1_isHeat 2 (some .boolean), Cond.fieldLink RX1 49 "OldStadium$Heats" "heats" "I", Cond.methodLink RX1 110 yX1_sizeOf, Cond.instanceMethod yX1_sizeOf, Cond.selects RX1 yX1_sizeOf yX1_sizeOf, Cond.code yX1_sizeOf cX1_sizeOf 2 (some .int), Cond.fieldLink RX1 43 "OldStadium$Heats" "size" "I", Cond.fieldLink RX1 46 "OldStadium$Heats" "entered" "I", Cond.methodLink RX1 101 Lib.Math.min.name, Cond.static Lib.Math.min.name, Cond.initialized "java/lang/Math", Cond.code Lib.Math.min.name Lib.Math.min.code 2 (some .int), Cond.methodLink RX1 113 yX1_runnerAt, Cond.instanceMethod yX1_runnerAt, Cond.selects RX1 yX1_runnerAt yX1_runnerAt, Cond.code yX1_runnerAt cX1_runnerAt 3 (some .int), Cond.fieldLink RX1 18 "OldStadium$Heats" "row" "[I", Cond.methodLink RX1 122 yX1_votesFor]
def wsX1_decideByVotes_r2 : List Cond := [Cond.instanceMethod yX1_votesFor, Cond.selects RX1 yX1_votesFor yX1_votesFor, Cond.code yX1_votesFor cX1_votesFor 5 (some .int), Cond.fieldLink RX1 33 "OldStadium$Heats" "judges" "I", Cond.fieldLink RX1 26 "OldStadium$Heats" "votes" "[[I", Cond.fieldLink RX1 15 "OldStadium$Heats" "judgeTowns" "[I", Cond.methodLink RX1 125 yX1_hasTown, Cond.instanceMethod yX1_hasTown, Cond.selects RX1 yX1_hasTown yX1_hasTown, Cond.code yX1_hasTown cX1_hasTown 5 (some .boolean), Cond.fieldLink RX1 11 "OldStadium$Heats" "runnerTowns" "[I"]
def wsX1_decideByVotes : List Cond := .code yX1_decideByVotes cX1_decideByVotes 5 (some .int) :: ((wsX1_decideByVotes_r1 ++ wsX1_decideByVotes_r2) ++ wsX10)
def wsX1_end : List Cond := .code yX1_end cX1_end 2 (some .int) :: ([.fieldLink RX1 58 "OldStadium$Heats" "victo\x72" "I", .fieldLink RX1 36 "OldStadium$Heats" "going" "Z"] ++ wsX10)
def wsX1_goOn_r1 : List Cond := [Cond.fieldLink RX1 36 "OldStadium$Heats" "going" "Z", Cond.fieldLink RX1 49 "OldStadium$Heats" "heats" "I", Cond.fieldLink RX1 52 "OldStadium$Heats" "bye" "I", Cond.fieldLink RX1 21 "OldStadium$Heats" "winners" "[I", Cond.methodLink RX1 119 yX1_openHeats, Cond.instanceMethod yX1_openHeats, Cond.selects RX1 yX1_openHeats yX1_openHeats, Cond.initialized RX1, Cond.code yX1_openHeats cX1_openHeats 3 (some .int), Cond.methodLink RX1 128 yX1_end, Cond.instanceMethod yX1_end, Cond.selects RX1 yX1_end yX1_end, Cond.code yX1_end cX1_end 2 (some .int), Cond.fieldLink RX1 58 "OldStadium$Heats" "victo\x72" "I", Cond.methodLink RX1 68 yX1_enter, Cond.instanceMethod yX1_enter, Cond.selects RX1 yX1_enter yX1_enter, Cond.code yX1_enter cX1_enter 3 none, Cond.fieldLink RX1 46 "OldStadium$Heats" "entered" "I", Cond.fieldLink RX1 29 "OldStadium$Heats" "runners" "I", Cond.fieldLink RX1 18 "OldStadium$Heats" "row" "[I", Cond.static yX4_hasBit, Cond.initialized RX4, Cond.code yX4_hasBit cX4_hasBit 2 (some .boolean)]
def wsX1_goOn_r2 : List Cond := [Cond.methodLink RX1 72 yX1_beginRound, Cond.instanceMethod yX1_beginRound, Cond.selects RX1 yX1_beginRound yX1_beginRound, Cond.code yX1_beginRound cX1_beginRound 3 (some .int), Cond.fieldLink RX1 40 "OldStadium$Heats" "round" "I", Cond.fieldLink RX1 43 "OldStadium$Heats" "size" "I", Cond.fieldLink RX1 26 "OldStadium$Heats" "votes" "[[I", Cond.methodLink RX1 80 yX1_mixRow, Cond.instanceMethod yX1_mixRow, Cond.selects RX1 yX1_mixRow yX1_mixRow, Cond.code yX1_mixRow cX1_mixRow 2 none, Cond.fieldLink RX1 61 "OldStadium$Heats" "lot" "I", Cond.constant RX1 92 (1103515245), Cond.methodLink RX1 93 yX1_exchange, Cond.instanceMethod yX1_exchange, Cond.selects RX1 yX1_exchange yX1_exchange, Cond.code yX1_exchange cX1_exchange 4 none, Cond.methodLink RX1 83 yX1_giveBye, Cond.instanceMethod yX1_giveBye, Cond.selects RX1 yX1_giveBye yX1_giveBye, Cond.code yX1_giveBye cX1_giveBye 2 none, Cond.fieldLink RX1 55 "OldStadium$Heats" "byesHad" "I", Cond.methodLink RX1 97 yX1_lastWithoutBye, Cond.instanceMethod yX1_lastWithoutBye]
def wsX1_goOn_r3 : List Cond := [Cond.selects RX1 yX1_lastWithoutBye yX1_lastWithoutBye, Cond.code yX1_lastWithoutBye cX1_lastWithoutBye 3 (some .int), Cond.methodLink RX1 86 yJ7_fill_53178, Cond.static yJ7_fill_53178, Cond.initialized RJ7, Cond.code yJ7_fill_53178 cJ7_fill_53178 4 none]
def wsX1_goOn : List Cond := .code yX1_goOn cX1_goOn 3 (some .int) :: ((wsX1_goOn_r1 ++ (wsX1_goOn_r2 ++ wsX1_goOn_r3)) ++ wsX10)
def wsX2_init : List Cond := .code yX2_init cX2_init 1 none :: ([.methodLink RX2 3 objectInit, .instanceMethod objectInit, .code objectInit ⟨#[0xb1]⟩ 1 none, .arrayClass .int, .fieldLink RX2 11 "OldStadium$Hippodrome" "delay" "[I", .fieldLink RX2 15 "OldStadium$Hippodrome" "lane" "[I", .fieldLink RX2 18 "OldStadium$Hippodrome" "cell" "[I", .fieldLink RX2 21 "OldStadium$Hippodrome" "lapsDone" "[I", .fieldLink RX2 24 "OldStadium$Hippodrome" "state" "[I", .fieldLink RX2 27 "OldStadium$Hippodrome" "endTick" "[I", .fieldLink RX2 30 "OldStadium$Hippodrome" "place" "[I", .fieldLink RX2 33 "OldStadium$Hippodrome" "acts" "[I", .classLink RX2 36 "[[I", .fieldLink RX2 38 "OldStadium$Hippodrome" "forward" "[[I", .fieldLink RX2 41 "OldStadium$Hippodrome" "side" "[[I", .fieldLink RX2 44 "OldStadium$Hippodrome" "lanes" "I", .fieldLink RX2 48 "OldStadium$Hippodrome" "cells" "I", .fieldLink RX2 51 "OldStadium$Hippodrome" "laps" "I", .fieldLink RX2 54 "OldStadium$Hippodrome" "chariots" "I", .fieldLink RX2 57 "OldStadium$Hippodrome" "tick" "I", .fieldLink RX2 60 "OldStadium$Hippodrome" "cameHome" "I"] ++ wsX20)
def wsX2_layOut : List Cond := .code yX2_layOut cX2_layOut 4 (some .boolean) :: ([.fieldLink RX2 44 "OldStadium$Hippodrome" "lanes" "I", .fieldLink RX2 48 "OldStadium$Hippodrome" "cells" "I", .fieldLink RX2 51 "OldStadium$Hippodrome" "laps" "I", .fieldLink RX2 54 "OldStadium$Hippodrome" "chariots" "I", .fieldLink RX2 57 "OldStadium$Hippodrome" "tick" "I", .fieldLink RX2 60 "OldStadium$Hippodrome" "cameHome" "I"] ++ wsX20)
def wsX2_isTaken : List Cond := .code yX2_isTaken cX2_isTaken 3 (some .boolean) :: ([.fieldLink RX2 54 "OldStadium$Hippodrome" "chariots" "I", .fieldLink RX2 15 "OldStadium$Hippodrome" "lane" "[I"] ++ wsX20)
def wsX2_addChariot : List Cond := .code yX2_addChariot cX2_addChariot 3 (some .int) :: ([.fieldLink RX2 44 "OldStadium$Hippodrome" "lanes" "I", .fieldLink RX2 54 "OldStadium$Hippodrome" "chariots" "I", .fieldLink RX2 57 "OldStadium$Hippodrome" "tick" "I", .fieldLink RX2 11 "OldStadium$Hippodrome" "delay" "[I", .fieldLink RX2 15 "OldStadium$Hippodrome" "lane" "[I", .fieldLink RX2 18 "OldStadium$Hippodrome" "cell" "[I", .fieldLink RX2 21 "OldStadium$Hippodrome" "lapsDone" "[I", .fieldLink RX2 24 "OldStadium$Hippodrome" "state" "[I", .fieldLink RX2 27 "OldStadium$Hippodrome" "endTick" "[I", .fieldLink RX2 30 "OldStadium$Hippodrome" "place" "[I", .fieldLink RX2 33 "OldStadium$Hippodrome" "acts" "[I", .methodLink RX2 63 yX2_isTaken, .instanceMethod yX2_isTaken, .selects RX2 yX2_isTaken yX2_isTaken, .initialized RX2, .code yX2_isTaken cX2_isTaken 3 (some .boolean)] ++ wsX20)
def wsX2_isChariot : List Cond := .code yX2_isChariot cX2_isChariot 2 (some .boolean) :: ([.fieldLink RX2 54 "OldStadium$Hippodrome" "chariots" "I"] ++ wsX20)
def wsX2_addAct : List Cond := .code yX2_addAct cX2_addAct 4 (some .int) :: ([.fieldLink RX2 33 "OldStadium$Hippodrome" "acts" "[I", .fieldLink RX2 57 "OldStadium$Hippodrome" "tick" "I", .fieldLink RX2 38 "OldStadium$Hippodrome" "forward" "[[I", .fieldLink RX2 41 "OldStadium$Hippodrome" "side" "[[I", .methodLink RX2 67 yX2_isChariot, .instanceMethod yX2_isChariot, .selects RX2 yX2_isChariot yX2_isChariot, .initialized RX2, .code yX2_isChariot cX2_isChariot 2 (some .boolean), .fieldLink RX2 54 "OldStadium$Hippodrome" "chariots" "I"] ++ wsX20)
def wsX2_letIn : List Cond := .code yX2_letIn cX2_letIn 2 none :: ([.fieldLink RX2 54 "OldStadium$Hippodrome" "chariots" "I", .fieldLink RX2 24 "OldStadium$Hippodrome" "state" "[I", .fieldLink RX2 11 "OldStadium$Hippodrome" "delay" "[I", .fieldLink RX2 57 "OldStadium$Hippodrome" "tick" "I"] ++ wsX20)
def wsX2_sharesCell : List Cond := .code yX2_sharesCell cX2_sharesCell 3 (some .boolean) :: ([.fieldLink RX2 24 "OldStadium$Hippodrome" "state" "[I", .fieldLink RX2 54 "OldStadium$Hippodrome" "chariots" "I", .fieldLink RX2 15 "OldStadium$Hippodrome" "lane" "[I", .fieldLink RX2 18 "OldStadium$Hippodrome" "cell" "[I"] ++ wsX20)
def wsX2_crash : List Cond := .code yX2_crash cX2_crash 3 none :: ([.fieldLink RX2 54 "OldStadium$Hippodrome" "chariots" "I", .fieldLink RX2 24 "OldStadium$Hippodrome" "state" "[I", .fieldLink RX2 27 "OldStadium$Hippodrome" "endTick" "[I", .fieldLink RX2 57 "OldStadium$Hippodrome" "tick" "I", .methodLink RX2 99 yX2_sharesCell, .instanceMethod yX2_sharesCell, .selects RX2 yX2_sharesCell yX2_sharesCell, .initialized RX2, .code yX2_sharesCell cX2_sharesCell 3 (some .boolean), .fieldLink RX2 15 "OldStadium$Hippodrome" "lane" "[I", .fieldLink RX2 18 "OldStadium$Hippodrome" "cell" "[I", .static yX4_hasBit, .initialized RX4, .code yX4_hasBit cX4_hasBit 2 (some .boolean)] ++ wsX20)
def wsJ9_floorMod_7cf53 : List Cond := .code yJ9_floorMod_7cf53 cJ9_floorMod_7cf53 3 (some .int) :: ([])
def wsX2_actOf : List Cond := .code yX2_actOf cX2_actOf 2 (some .int) :: ([.fieldLink RX2 33 "OldStadium$Hippodrome" "acts" "[I", .fieldLink RX2 57 "OldStadium$Hippodrome" "tick" "I", .fieldLink RX2 11 "OldStadium$Hippodrome" "delay" "[I", .methodLink RX2 89 yJ9_floorMod_7cf53, .static yJ9_floorMod_7cf53, .initialized RJ9, .code yJ9_floorMod_7cf53 cJ9_floorMod_7cf53 3 (some .int)] ++ wsX20)
def wsX2_goForward : List Cond := .code yX2_goForward cX2_goForward 4 none :: ([.fieldLink RX2 54 "OldStadium$Hippodrome" "chariots" "I", .fieldLink RX2 24 "OldStadium$Hippodrome" "state" "[I", .fieldLink RX2 38 "OldStadium$Hippodrome" "forward" "[[I", .fieldLink RX2 18 "OldStadium$Hippodrome" "cell" "[I", .fieldLink RX2 48 "OldStadium$Hippodrome" "cells" "I", .fieldLink RX2 21 "OldStadium$Hippodrome" "lapsDone" "[I", .methodLink RX2 95 yX2_actOf, .instanceMethod yX2_actOf, .selects RX2 yX2_actOf yX2_actOf, .initialized RX2, .code yX2_actOf cX2_actOf 2 (some .int), .fieldLink RX2 33 "OldStadium$Hippodrome" "acts" "[I", .fieldLink RX2 57 "OldStadium$Hippodrome" "tick" "I", .fieldLink RX2 11 "OldStadium$Hippodrome" "delay" "[I", .methodLink RX2 89 yJ9_floorMod_7cf53, .static yJ9_floorMod_7cf53, .initialized RJ9, .code yJ9_floorMod_7cf53 cJ9_floorMod_7cf53 3 (some .int)] ++ wsX20)
def wsX2_bringHome : List Cond := .code yX2_bringHome cX2_bringHome 3 none :: ([.fieldLink RX2 44 "OldStadium$Hippodrome" "lanes" "I", .fieldLink RX2 54 "OldStadium$Hippodrome" "chariots" "I", .fieldLink RX2 24 "OldStadium$Hippodrome" "state" "[I", .fieldLink RX2 15 "OldStadium$Hippodrome" "lane" "[I", .fieldLink RX2 21 "OldStadium$Hippodrome" "lapsDone" "[I", .fieldLink RX2 51 "OldStadium$Hippodrome" "laps" "I", .fieldLink RX2 60 "OldStadium$Hippodrome" "cameHome" "I", .fieldLink RX2 27 "OldStadium$Hippodrome" "endTick" "[I", .fieldLink RX2 57 "OldStadium$Hippodrome" "tick" "I", .fieldLink RX2 30 "OldStadium$Hippodrome" "place" "[I"] ++ wsX20)
def wsX2_changeLanes : List Cond := .code yX2_changeLanes cX2_changeLanes 4 none :: ([.fieldLink RX2 54 "OldStadium$Hippodrome" "chariots" "I", .fieldLink RX2 24 "OldStadium$Hippodrome" "state" "[I", .fieldLink RX2 15 "OldStadium$Hippodrome" "lane" "[I", .fieldLink RX2 41 "OldStadium$Hippodrome" "side" "[[I", .fieldLink RX2 44 "OldStadium$Hippodrome" "lanes" "I", .methodLink RX2 95 yX2_actOf, .instanceMethod yX2_actOf, .selects RX2 yX2_actOf yX2_actOf, .initialized RX2, .code yX2_actOf cX2_actOf 2 (some .int), .fieldLink RX2 33 "OldStadium$Hippodrome" "acts" "[I", .fieldLink RX2 57 "OldStadium$Hippodrome" "tick" "I", .fieldLink RX2 11 "OldStadium$Hippodrome" "delay" "[I", .methodLink RX2 89 yJ9_floorMod_7cf53, .static yJ9_floorMod_7cf53, .initialized RJ9, .code yJ9_floorMod_7cf53 cJ9_floorMod_7cf53 3 (some .int)] ++ wsX20)
def wsX2_passTick_r1 : List Cond := [Cond.fieldLink RX2 57 "OldStadium$Hippodrome" "tick" "I", Cond.methodLink RX2 73 yX2_letIn, Cond.instanceMethod yX2_letIn, Cond.selects RX2 yX2_letIn yX2_letIn, Cond.initialized RX2, Cond.code yX2_letIn cX2_letIn 2 none, Cond.fieldLink RX2 54 "OldStadium$Hippodrome" "chariots" "I", Cond.fieldLink RX2 24 "OldStadium$Hippodrome" "state" "[I", Cond.fieldLink RX2 11 "OldStadium$Hippodrome" "delay" "[I", Cond.methodLink RX2 76 yX2_crash, Cond.instanceMethod yX2_crash, Cond.selects RX2 yX2_crash yX2_crash, Cond.code yX2_crash cX2_crash 3 none, Cond.fieldLink RX2 27 "OldStadium$Hippodrome" "endTick" "[I", Cond.methodLink RX2 99 yX2_sharesCell, Cond.instanceMethod yX2_sharesCell, Cond.selects RX2 yX2_sharesCell yX2_sharesCell, Cond.code yX2_sharesCell cX2_sharesCell 3 (some .boolean), Cond.fieldLink RX2 15 "OldStadium$Hippodrome" "lane" "[I", Cond.fieldLink RX2 18 "OldStadium$Hippodrome" "cell" "[I", Cond.static yX4_hasBit, Cond.initialized RX4, Cond.code yX4_hasBit cX4_hasBit 2 (some .boolean), Cond.methodLink RX2 79 yX2_goForward]
def wsX2_passTick_r2 : List Cond := [Cond.instanceMethod yX2_goForward, Cond.selects RX2 yX2_goForward yX2_goForward, Cond.code yX2_goForward cX2_goForward 4 none, Cond.fieldLink RX2 38 "OldStadium$Hippodrome" "forward" "[[I", Cond.fieldLink RX2 48 "OldStadium$Hippodrome" "cells" "I", Cond.fieldLink RX2 21 "OldStadium$Hippodrome" "lapsDone" "[I", Cond.methodLink RX2 95 yX2_actOf, Cond.instanceMethod yX2_actOf, Cond.selects RX2 yX2_actOf yX2_actOf, Cond.code yX2_actOf cX2_actOf 2 (some .int), Cond.fieldLink RX2 33 "OldStadium$Hippodrome" "acts" "[I", Cond.methodLink RX2 89 yJ9_floorMod_7cf53, Cond.static yJ9_floorMod_7cf53, Cond.initialized RJ9, Cond.code yJ9_floorMod_7cf53 cJ9_floorMod_7cf53 3 (some .int), Cond.methodLink RX2 83 yX2_bringHome, Cond.instanceMethod yX2_bringHome, Cond.selects RX2 yX2_bringHome yX2_bringHome, Cond.code yX2_bringHome cX2_bringHome 3 none, Cond.fieldLink RX2 44 "OldStadium$Hippodrome" "lanes" "I", Cond.fieldLink RX2 51 "OldStadium$Hippodrome" "laps" "I", Cond.fieldLink RX2 60 "OldStadium$Hippodrome" "cameHome" "I", Cond.fieldLink RX2 30 "OldStadium$Hippodrome" "place" "[I", Cond.methodLink RX2 86 yX2_changeLanes]
def wsX2_passTick_r3 : List Cond := [Cond.instanceMethod yX2_changeLanes, Cond.selects RX2 yX2_changeLanes yX2_changeLanes, Cond.code yX2_changeLanes cX2_changeLanes 4 none, Cond.fieldLink RX2 41 "OldStadium$Hippodrome" "side" "[[I"]
def wsX2_passTick : List Cond := .code yX2_passTick cX2_passTick 2 none :: ((wsX2_passTick_r1 ++ (wsX2_passTick_r2 ++ wsX2_passTick_r3)) ++ wsX20)
def wsX2_pass_r1 : List Cond := [Cond.fieldLink RX2 44 "OldStadium$Hippodrome" "lanes" "I", Cond.fieldLink RX2 54 "OldStadium$Hippodrome" "chariots" "I", Cond.fieldLink RX2 24 "OldStadium$Hippodrome" "state" "[I", Cond.methodLink RX2 70 yX2_passTick, Cond.instanceMethod yX2_passTick, Cond.selects RX2 yX2_passTick yX2_passTick, Cond.initialized RX2, Cond.code yX2_passTick cX2_passTick 2 none, Cond.fieldLink RX2 57 "OldStadium$Hippodrome" "tick" "I", Cond.methodLink RX2 73 yX2_letIn, Cond.instanceMethod yX2_letIn, Cond.selects RX2 yX2_letIn yX2_letIn, Cond.code yX2_letIn cX2_letIn 2 none, Cond.fieldLink RX2 11 "OldStadium$Hippodrome" "delay" "[I", Cond.methodLink RX2 76 yX2_crash, Cond.instanceMethod yX2_crash, Cond.selects RX2 yX2_crash yX2_crash, Cond.code yX2_crash cX2_crash 3 none, Cond.fieldLink RX2 27 "OldStadium$Hippodrome" "endTick" "[I", Cond.methodLink RX2 99 yX2_sharesCell, Cond.instanceMethod yX2_sharesCell, Cond.selects RX2 yX2_sharesCell yX2_sharesCell, Cond.code yX2_sharesCell cX2_sharesCell 3 (some .boolean), Cond.fieldLink RX2 15 "OldStadium$Hippodrome" "lane" "[I"]
def wsX2_pass_r2 : List Cond := [Cond.fieldLink RX2 18 "OldStadium$Hippodrome" "cell" "[I", Cond.static yX4_hasBit, Cond.initialized RX4, Cond.code yX4_hasBit cX4_hasBit 2 (some .boolean), Cond.methodLink RX2 79 yX2_goForward, Cond.instanceMethod yX2_goForward, Cond.selects RX2 yX2_goForward yX2_goForward, Cond.code yX2_goForward cX2_goForward 4 none, Cond.fieldLink RX2 38 "OldStadium$Hippodrome" "forward" "[[I", Cond.fieldLink RX2 48 "OldStadium$Hippodrome" "cells" "I", Cond.fieldLink RX2 21 "OldStadium$Hippodrome" "lapsDone" "[I", Cond.methodLink RX2 95 yX2_actOf, Cond.instanceMethod yX2_actOf, Cond.selects RX2 yX2_actOf yX2_actOf, Cond.code yX2_actOf cX2_actOf 2 (some .int), Cond.fieldLink RX2 33 "OldStadium$Hippodrome" "acts" "[I", Cond.methodLink RX2 89 yJ9_floorMod_7cf53, Cond.static yJ9_floorMod_7cf53, Cond.initialized RJ9, Cond.code yJ9_floorMod_7cf53 cJ9_floorMod_7cf53 3 (some .int), Cond.methodLink RX2 83 yX2_bringHome, Cond.instanceMethod yX2_bringHome, Cond.selects RX2 yX2_bringHome yX2_bringHome, Cond.code yX2_bringHome cX2_bringHome 3 none]
def wsX2_pass_r3 : List Cond := [Cond.fieldLink RX2 51 "OldStadium$Hippodrome" "laps" "I", Cond.fieldLink RX2 60 "OldStadium$Hippodrome" "cameHome" "I", Cond.fieldLink RX2 30 "OldStadium$Hippodrome" "place" "[I", Cond.methodLink RX2 86 yX2_changeLanes, Cond.instanceMethod yX2_changeLanes, Cond.selects RX2 yX2_changeLanes yX2_changeLanes, Cond.code yX2_changeLanes cX2_changeLanes 4 none, Cond.fieldLink RX2 41 "OldStadium$Hippodrome" "side" "[[I"]
def wsX2_pass : List Cond := .code yX2_pass cX2_pass 4 (some .int) :: ((wsX2_pass_r1 ++ (wsX2_pass_r2 ++ wsX2_pass_r3)) ++ wsX20)
def wsX2_tell : List Cond := .code yX2_tell cX2_tell 3 (some .int) :: ([.fieldLink RX2 24 "OldStadium$Hippodrome" "state" "[I", .fieldLink RX2 15 "OldStadium$Hippodrome" "lane" "[I", .fieldLink RX2 18 "OldStadium$Hippodrome" "cell" "[I", .fieldLink RX2 21 "OldStadium$Hippodrome" "lapsDone" "[I", .fieldLink RX2 27 "OldStadium$Hippodrome" "endTick" "[I", .fieldLink RX2 30 "OldStadium$Hippodrome" "place" "[I", .methodLink RX2 67 yX2_isChariot, .instanceMethod yX2_isChariot, .selects RX2 yX2_isChariot yX2_isChariot, .initialized RX2, .code yX2_isChariot cX2_isChariot 2 (some .boolean), .fieldLink RX2 54 "OldStadium$Hippodrome" "chariots" "I"] ++ wsX20)
def wsX3_init : List Cond := .code yX3_init cX3_init 1 none :: ([.methodLink RX3 3 objectInit, .instanceMethod objectInit, .code objectInit ⟨#[0xb1]⟩ 1 none, .arrayClass .int, .fieldLink RX3 11 "OldStadium$Quarry" "event" "[I", .fieldLink RX3 15 "OldStadium$Quarry" "from" "[I", .fieldLink RX3 18 "OldStadium$Quarry" "to" "[I", .fieldLink RX3 21 "OldStadium$Quarry" "firstLetters" "[I", .fieldLink RX3 24 "OldStadium$Quarry" "lastLetters" "[I", .fieldLink RX3 27 "OldStadium$Quarry" "town" "[I", .fieldLink RX3 30 "OldStadium$Quarry" "joined" "[I", .fieldLink RX3 33 "OldStadium$Quarry" "stones" "I", .fieldLink RX3 37 "OldStadium$Quarry" "span" "I", .fieldLink RX3 40 "OldStadium$Quarry" "unlike" "[I", .fieldLink RX3 43 "OldStadium$Quarry" "yea\x72" "[I", .arrayClass .long, .fieldLink RX3 46 "OldStadium$Quarry" "seen" "[J", .fieldLink RX3 50 "OldStadium$Quarry" "rolls" "I", .fieldLink RX3 53 "OldStadium$Quarry" "fewest" "I"] ++ wsX30)
def wsX3_isStone : List Cond := .code yX3_isStone cX3_isStone 2 (some .boolean) :: ([.fieldLink RX3 33 "OldStadium$Quarry" "stones" "I"] ++ wsX30)
def wsX3_forget : List Cond := .code yX3_forget cX3_forget 1 none :: ([.fieldLink RX3 50 "OldStadium$Quarry" "rolls" "I", .fieldLink RX3 53 "OldStadium$Quarry" "fewest" "I"] ++ wsX30)
def wsX3_areYears : List Cond := .code yX3_areYears cX3_areYears 2 (some .boolean) :: ([])
def wsX3_letterIn : List Cond := .code yX3_letterIn cX3_letterIn 2 (some .int) :: ([])
def wsX3_isName : List Cond := .code yX3_isName cX3_isName 2 (some .boolean) :: ([.methodLink RX3 70 yX3_letterIn, .static yX3_letterIn, .initialized RX3, .code yX3_letterIn cX3_letterIn 2 (some .int)])
def wsX3_addStone_r1 : List Cond := [Cond.fieldLink RX3 33 "OldStadium$Quarry" "stones" "I", Cond.fieldLink RX3 11 "OldStadium$Quarry" "event" "[I", Cond.fieldLink RX3 15 "OldStadium$Quarry" "from" "[I", Cond.fieldLink RX3 18 "OldStadium$Quarry" "to" "[I", Cond.fieldLink RX3 21 "OldStadium$Quarry" "firstLetters" "[I", Cond.fieldLink RX3 24 "OldStadium$Quarry" "lastLetters" "[I", Cond.fieldLink RX3 27 "OldStadium$Quarry" "town" "[I", Cond.fieldLink RX3 30 "OldStadium$Quarry" "joined" "[I", Cond.methodLink RX3 56 yX3_areYears, Cond.static yX3_areYears, Cond.initialized RX3, Cond.code yX3_areYears cX3_areYears 2 (some .boolean), Cond.methodLink RX3 60 yX3_isName, Cond.static yX3_isName, Cond.code yX3_isName cX3_isName 2 (some .boolean), Cond.methodLink RX3 70 yX3_letterIn, Cond.static yX3_letterIn, Cond.code yX3_letterIn cX3_letterIn 2 (some .int), Cond.static yX4_isTown, Cond.initialized RX4, Cond.code yX4_isTown cX4_isTown 1 (some .boolean), Cond.methodLink RX3 67 yX3_forget, Cond.instanceMethod yX3_forget, Cond.selects RX3 yX3_forget yX3_forget]
def wsX3_addStone_r2 : List Cond := [Cond.code yX3_forget cX3_forget 1 none, Cond.fieldLink RX3 50 "OldStadium$Quarry" "rolls" "I", Cond.fieldLink RX3 53 "OldStadium$Quarry" "fewest" "I"]
def wsX3_addStone : List Cond := .code yX3_addStone cX3_addStone 7 (some .int) :: ((wsX3_addStone_r1 ++ wsX3_addStone_r2) ++ wsX30)
def wsX3_letterOf : List Cond := .code yX3_letterOf cX3_letterOf 4 (some .int) :: ([.fieldLink RX3 21 "OldStadium$Quarry" "firstLetters" "[I", .fieldLink RX3 24 "OldStadium$Quarry" "lastLetters" "[I", .methodLink RX3 70 yX3_letterIn, .static yX3_letterIn, .initialized RX3, .code yX3_letterIn cX3_letterIn 2 (some .int)] ++ wsX30)
def wsX3_tellLetter : List Cond := .code yX3_tellLetter cX3_tellLetter 3 (some .int) :: ([.methodLink RX3 74 yX3_isStone, .instanceMethod yX3_isStone, .selects RX3 yX3_isStone yX3_isStone, .initialized RX3, .code yX3_isStone cX3_isStone 2 (some .boolean), .fieldLink RX3 33 "OldStadium$Quarry" "stones" "I", .methodLink RX3 77 yX3_letterOf, .instanceMethod yX3_letterOf, .selects RX3 yX3_letterOf yX3_letterOf, .code yX3_letterOf cX3_letterOf 4 (some .int), .fieldLink RX3 21 "OldStadium$Quarry" "firstLetters" "[I", .fieldLink RX3 24 "OldStadium$Quarry" "lastLetters" "[I", .methodLink RX3 70 yX3_letterIn, .static yX3_letterIn, .code yX3_letterIn cX3_letterIn 2 (some .int)] ++ wsX30)
def wsX3_setJoined : List Cond := .code yX3_setJoined cX3_setJoined 4 (some .boolean) :: ([.fieldLink RX3 30 "OldStadium$Quarry" "joined" "[I", .methodLink RX3 74 yX3_isStone, .instanceMethod yX3_isStone, .selects RX3 yX3_isStone yX3_isStone, .initialized RX3, .code yX3_isStone cX3_isStone 2 (some .boolean), .fieldLink RX3 33 "OldStadium$Quarry" "stones" "I", .methodLink RX3 67 yX3_forget, .instanceMethod yX3_forget, .selects RX3 yX3_forget yX3_forget, .code yX3_forget cX3_forget 1 none, .fieldLink RX3 50 "OldStadium$Quarry" "rolls" "I", .fieldLink RX3 53 "OldStadium$Quarry" "fewest" "I"] ++ wsX30)
def wsX3_setSpan : List Cond := .code yX3_setSpan cX3_setSpan 3 (some .int) :: ([.fieldLink RX3 37 "OldStadium$Quarry" "span" "I", .methodLink RX3 67 yX3_forget, .instanceMethod yX3_forget, .selects RX3 yX3_forget yX3_forget, .initialized RX3, .code yX3_forget cX3_forget 1 none, .fieldLink RX3 50 "OldStadium$Quarry" "rolls" "I", .fieldLink RX3 53 "OldStadium$Quarry" "fewest" "I"] ++ wsX30)
def wsX3_withoutBit : List Cond := .code yX3_withoutBit cX3_withoutBit 3 (some .int) :: ([])
def wsX3_breakUp : List Cond := .code yX3_breakUp cX3_breakUp 3 (some .int) :: ([.fieldLink RX3 33 "OldStadium$Quarry" "stones" "I", .fieldLink RX3 11 "OldStadium$Quarry" "event" "[I", .fieldLink RX3 15 "OldStadium$Quarry" "from" "[I", .fieldLink RX3 18 "OldStadium$Quarry" "to" "[I", .fieldLink RX3 21 "OldStadium$Quarry" "firstLetters" "[I", .fieldLink RX3 24 "OldStadium$Quarry" "lastLetters" "[I", .fieldLink RX3 27 "OldStadium$Quarry" "town" "[I", .fieldLink RX3 30 "OldStadium$Quarry" "joined" "[I", .methodLink RX3 74 yX3_isStone, .instanceMethod yX3_isStone, .selects RX3 yX3_isStone yX3_isStone, .initialized RX3, .code yX3_isStone cX3_isStone 2 (some .boolean), .methodLink RX3 80 yX3_withoutBit, .static yX3_withoutBit, .code yX3_withoutBit cX3_withoutBit 3 (some .int), .methodLink RX3 67 yX3_forget, .instanceMethod yX3_forget, .selects RX3 yX3_forget yX3_forget, .code yX3_forget cX3_forget 1 none, .fieldLink RX3 50 "OldStadium$Quarry" "rolls" "I", .fieldLink RX3 53 "OldStadium$Quarry" "fewest" "I"] ++ wsX30)
def wsX3_isAgreeing : List Cond := .code yX3_isAgreeing cX3_isAgreeing 6 (some .boolean) :: ([.fieldLink RX3 27 "OldStadium$Quarry" "town" "[I", .methodLink RX3 77 yX3_letterOf, .instanceMethod yX3_letterOf, .selects RX3 yX3_letterOf yX3_letterOf, .initialized RX3, .code yX3_letterOf cX3_letterOf 4 (some .int), .fieldLink RX3 21 "OldStadium$Quarry" "firstLetters" "[I", .fieldLink RX3 24 "OldStadium$Quarry" "lastLetters" "[I", .methodLink RX3 70 yX3_letterIn, .static yX3_letterIn, .code yX3_letterIn cX3_letterIn 2 (some .int)] ++ wsX30)
def wsX3_tellAgreeing : List Cond := .code yX3_tellAgreeing cX3_tellAgreeing 3 (some .int) :: ([.methodLink RX3 74 yX3_isStone, .instanceMethod yX3_isStone, .selects RX3 yX3_isStone yX3_isStone, .initialized RX3, .code yX3_isStone cX3_isStone 2 (some .boolean), .fieldLink RX3 33 "OldStadium$Quarry" "stones" "I", .methodLink RX3 83 yX3_isAgreeing, .instanceMethod yX3_isAgreeing, .selects RX3 yX3_isAgreeing yX3_isAgreeing, .code yX3_isAgreeing cX3_isAgreeing 6 (some .boolean), .fieldLink RX3 27 "OldStadium$Quarry" "town" "[I", .methodLink RX3 77 yX3_letterOf, .instanceMethod yX3_letterOf, .selects RX3 yX3_letterOf yX3_letterOf, .code yX3_letterOf cX3_letterOf 4 (some .int), .fieldLink RX3 21 "OldStadium$Quarry" "firstLetters" "[I", .fieldLink RX3 24 "OldStadium$Quarry" "lastLetters" "[I", .methodLink RX3 70 yX3_letterIn, .static yX3_letterIn, .code yX3_letterIn cX3_letterIn 2 (some .int)] ++ wsX30)
def wsX3_findUnlike : List Cond := .code yX3_findUnlike cX3_findUnlike 3 none :: ([.fieldLink RX3 33 "OldStadium$Quarry" "stones" "I", .fieldLink RX3 40 "OldStadium$Quarry" "unlike" "[I", .methodLink RX3 83 yX3_isAgreeing, .instanceMethod yX3_isAgreeing, .selects RX3 yX3_isAgreeing yX3_isAgreeing, .initialized RX3, .code yX3_isAgreeing cX3_isAgreeing 6 (some .boolean), .fieldLink RX3 27 "OldStadium$Quarry" "town" "[I", .methodLink RX3 77 yX3_letterOf, .instanceMethod yX3_letterOf, .selects RX3 yX3_letterOf yX3_letterOf, .code yX3_letterOf cX3_letterOf 4 (some .int), .fieldLink RX3 21 "OldStadium$Quarry" "firstLetters" "[I", .fieldLink RX3 24 "OldStadium$Quarry" "lastLetters" "[I", .methodLink RX3 70 yX3_letterIn, .static yX3_letterIn, .code yX3_letterIn cX3_letterIn 2 (some .int)] ++ wsX30)
def wsX3_goTogether : List Cond := .code yX3_goTogether cX3_goTogether 4 (some .boolean) :: ([.fieldLink RX3 40 "OldStadium$Quarry" "unlike" "[I", .fieldLink RX3 30 "OldStadium$Quarry" "joined" "[I", .fieldLink RX3 43 "OldStadium$Quarry" "yea\x72" "[I", .methodLink RX3 92 Lib.Math.abs.name, .static Lib.Math.abs.name, .initialized "java/lang/Math", .code Lib.Math.abs.name Lib.Math.abs.code 1 (some .int), .fieldLink RX3 37 "OldStadium$Quarry" "span" "I", .fieldLink RX3 11 "OldStadium$Quarry" "event" "[I", .static yX4_hasBit, .initialized RX4, .code yX4_hasBit cX4_hasBit 2 (some .boolean)] ++ wsX30)
def wsX3_fits : List Cond := .code yX3_fits cX3_fits 4 (some .boolean) :: ([.static yX4_hasBit, .initialized RX4, .code yX4_hasBit cX4_hasBit 2 (some .boolean), .methodLink RX3 89 yX3_goTogether, .instanceMethod yX3_goTogether, .selects RX3 yX3_goTogether yX3_goTogether, .initialized RX3, .code yX3_goTogether cX3_goTogether 4 (some .boolean), .fieldLink RX3 40 "OldStadium$Quarry" "unlike" "[I", .fieldLink RX3 30 "OldStadium$Quarry" "joined" "[I", .fieldLink RX3 43 "OldStadium$Quarry" "yea\x72" "[I", .methodLink RX3 92 Lib.Math.abs.name, .static Lib.Math.abs.name, .initialized "java/lang/Math", .code Lib.Math.abs.name Lib.Math.abs.code 1 (some .int), .fieldLink RX3 37 "OldStadium$Quarry" "span" "I", .fieldLink RX3 11 "OldStadium$Quarry" "event" "[I"] ++ wsX30)
def wsX3_countFrom_r1 : List Cond := [Cond.fieldLink RX3 33 "OldStadium$Quarry" "stones" "I", Cond.fieldLink RX3 15 "OldStadium$Quarry" "from" "[I", Cond.fieldLink RX3 18 "OldStadium$Quarry" "to" "[I", Cond.fieldLink RX3 43 "OldStadium$Quarry" "yea\x72" "[I", Cond.fieldLink RX3 46 "OldStadium$Quarry" "seen" "[J", Cond.methodLink RX3 98 yX3_fits, Cond.instanceMethod yX3_fits, Cond.selects RX3 yX3_fits yX3_fits, Cond.initialized RX3, Cond.code yX3_fits cX3_fits 4 (some .boolean), Cond.static yX4_hasBit, Cond.initialized RX4, Cond.code yX4_hasBit cX4_hasBit 2 (some .boolean), Cond.methodLink RX3 89 yX3_goTogether, Cond.instanceMethod yX3_goTogether, Cond.selects RX3 yX3_goTogether yX3_goTogether, Cond.code yX3_goTogether cX3_goTogether 4 (some .boolean), Cond.fieldLink RX3 40 "OldStadium$Quarry" "unlike" "[I", Cond.fieldLink RX3 30 "OldStadium$Quarry" "joined" "[I", Cond.methodLink RX3 92 Lib.Math.abs.name, Cond.static Lib.Math.abs.name, Cond.initialized "java/lang/Math", Cond.code Lib.Math.abs.name Lib.Math.abs.code 1 (some .int), Cond.fieldLink RX3 37 "OldStadium$Quarry" "span" "I"]
def wsX3_countFrom_r2 : List Cond := [Cond.fieldLink RX3 11 "OldStadium$Quarry" "event" "[I", Cond.methodLink RX3 101 yX3_countFrom, Cond.static yX3_countFrom]
def wsX3_countFrom : List Cond := .code yX3_countFrom cX3_countFrom 5 (some .int) :: ((wsX3_countFrom_r1 ++ wsX3_countFrom_r2) ++ wsX30)
def wsX3_isRollFrom_r1 : List Cond := [Cond.fieldLink RX3 33 "OldStadium$Quarry" "stones" "I", Cond.fieldLink RX3 15 "OldStadium$Quarry" "from" "[I", Cond.fieldLink RX3 18 "OldStadium$Quarry" "to" "[I", Cond.fieldLink RX3 43 "OldStadium$Quarry" "yea\x72" "[I", Cond.static yX4_hasBit, Cond.initialized RX4, Cond.code yX4_hasBit cX4_hasBit 2 (some .boolean), Cond.methodLink RX3 105 yX3_isRollFrom, Cond.static yX3_isRollFrom, Cond.initialized RX3, Cond.methodLink RX3 98 yX3_fits, Cond.instanceMethod yX3_fits, Cond.selects RX3 yX3_fits yX3_fits, Cond.code yX3_fits cX3_fits 4 (some .boolean), Cond.methodLink RX3 89 yX3_goTogether, Cond.instanceMethod yX3_goTogether, Cond.selects RX3 yX3_goTogether yX3_goTogether, Cond.code yX3_goTogether cX3_goTogether 4 (some .boolean), Cond.fieldLink RX3 40 "OldStadium$Quarry" "unlike" "[I", Cond.fieldLink RX3 30 "OldStadium$Quarry" "joined" "[I", Cond.methodLink RX3 92 Lib.Math.abs.name, Cond.static Lib.Math.abs.name, Cond.initialized "java/lang/Math", Cond.code Lib.Math.abs.name Lib.Math.abs.code 1 (some .int)]
def wsX3_isRollFrom_r2 : List Cond := [Cond.fieldLink RX3 37 "OldStadium$Quarry" "span" "I", Cond.fieldLink RX3 11 "OldStadium$Quarry" "event" "[I"]
def wsX3_isRollFrom : List Cond := .code yX3_isRollFrom cX3_isRollFrom 4 (some .boolean) :: ((wsX3_isRollFrom_r1 ++ wsX3_isRollFrom_r2) ++ wsX30)
def wsJ7_fill_d0a16 : List Cond := .code yJ7_fill_d0a16 cJ7_fill_d0a16 5 none :: ([])
def wsX3_countRolls_r1 : List Cond := [Cond.fieldLink RX3 50 "OldStadium$Quarry" "rolls" "I", Cond.fieldLink RX3 46 "OldStadium$Quarry" "seen" "[J", Cond.methodLink RX3 109 yX3_findUnlike, Cond.instanceMethod yX3_findUnlike, Cond.selects RX3 yX3_findUnlike yX3_findUnlike, Cond.initialized RX3, Cond.code yX3_findUnlike cX3_findUnlike 3 none, Cond.fieldLink RX3 33 "OldStadium$Quarry" "stones" "I", Cond.fieldLink RX3 40 "OldStadium$Quarry" "unlike" "[I", Cond.methodLink RX3 83 yX3_isAgreeing, Cond.instanceMethod yX3_isAgreeing, Cond.selects RX3 yX3_isAgreeing yX3_isAgreeing, Cond.code yX3_isAgreeing cX3_isAgreeing 6 (some .boolean), Cond.fieldLink RX3 27 "OldStadium$Quarry" "town" "[I", Cond.methodLink RX3 77 yX3_letterOf, Cond.instanceMethod yX3_letterOf, Cond.selects RX3 yX3_letterOf yX3_letterOf, Cond.code yX3_letterOf cX3_letterOf 4 (some .int), Cond.fieldLink RX3 21 "OldStadium$Quarry" "firstLetters" "[I", Cond.fieldLink RX3 24 "OldStadium$Quarry" "lastLetters" "[I", Cond.methodLink RX3 70 yX3_letterIn, Cond.static yX3_letterIn, Cond.code yX3_letterIn cX3_letterIn 2 (some .int), Cond.methodLink RX3 112 yJ7_fill_d0a16]
def wsX3_countRolls_r2 : List Cond := [Cond.static yJ7_fill_d0a16, Cond.initialized RJ7, Cond.code yJ7_fill_d0a16 cJ7_fill_d0a16 5 none, Cond.methodLink RX3 101 yX3_countFrom, Cond.static yX3_countFrom, Cond.code yX3_countFrom cX3_countFrom 5 (some .int), Cond.fieldLink RX3 15 "OldStadium$Quarry" "from" "[I", Cond.fieldLink RX3 18 "OldStadium$Quarry" "to" "[I", Cond.fieldLink RX3 43 "OldStadium$Quarry" "yea\x72" "[I", Cond.methodLink RX3 98 yX3_fits, Cond.instanceMethod yX3_fits, Cond.selects RX3 yX3_fits yX3_fits, Cond.code yX3_fits cX3_fits 4 (some .boolean), Cond.static yX4_hasBit, Cond.initialized RX4, Cond.code yX4_hasBit cX4_hasBit 2 (some .boolean), Cond.methodLink RX3 89 yX3_goTogether, Cond.instanceMethod yX3_goTogether, Cond.selects RX3 yX3_goTogether yX3_goTogether, Cond.code yX3_goTogether cX3_goTogether 4 (some .boolean), Cond.fieldLink RX3 30 "OldStadium$Quarry" "joined" "[I", Cond.methodLink RX3 92 Lib.Math.abs.name, Cond.static Lib.Math.abs.name, Cond.initialized "java/lang/Math"]
def wsX3_countRolls_r3 : List Cond := [Cond.code Lib.Math.abs.name Lib.Math.abs.code 1 (some .int), Cond.fieldLink RX3 37 "OldStadium$Quarry" "span" "I", Cond.fieldLink RX3 11 "OldStadium$Quarry" "event" "[I"]
def wsX3_countRolls : List Cond := .code yX3_countRolls cX3_countRolls 1 (some .int) :: ((wsX3_countRolls_r1 ++ (wsX3_countRolls_r2 ++ wsX3_countRolls_r3)) ++ wsX30)
def wsX3_tellYear_r1 : List Cond := [Cond.fieldLink RX3 15 "OldStadium$Quarry" "from" "[I", Cond.fieldLink RX3 18 "OldStadium$Quarry" "to" "[I", Cond.fieldLink RX3 46 "OldStadium$Quarry" "seen" "[J", Cond.methodLink RX3 74 yX3_isStone, Cond.instanceMethod yX3_isStone, Cond.selects RX3 yX3_isStone yX3_isStone, Cond.initialized RX3, Cond.code yX3_isStone cX3_isStone 2 (some .boolean), Cond.fieldLink RX3 33 "OldStadium$Quarry" "stones" "I", Cond.methodLink RX3 118 yX3_countRolls, Cond.instanceMethod yX3_countRolls, Cond.selects RX3 yX3_countRolls yX3_countRolls, Cond.code yX3_countRolls cX3_countRolls 1 (some .int), Cond.fieldLink RX3 50 "OldStadium$Quarry" "rolls" "I", Cond.methodLink RX3 109 yX3_findUnlike, Cond.instanceMethod yX3_findUnlike, Cond.selects RX3 yX3_findUnlike yX3_findUnlike, Cond.code yX3_findUnlike cX3_findUnlike 3 none, Cond.fieldLink RX3 40 "OldStadium$Quarry" "unlike" "[I", Cond.methodLink RX3 83 yX3_isAgreeing, Cond.instanceMethod yX3_isAgreeing, Cond.selects RX3 yX3_isAgreeing yX3_isAgreeing, Cond.code yX3_isAgreeing cX3_isAgreeing 6 (some .boolean), Cond.fieldLink RX3 27 "OldStadium$Quarry" "town" "[I"]
def wsX3_tellYear_r2 : List Cond := [Cond.methodLink RX3 77 yX3_letterOf, Cond.instanceMethod yX3_letterOf, Cond.selects RX3 yX3_letterOf yX3_letterOf, Cond.code yX3_letterOf cX3_letterOf 4 (some .int), Cond.fieldLink RX3 21 "OldStadium$Quarry" "firstLetters" "[I", Cond.fieldLink RX3 24 "OldStadium$Quarry" "lastLetters" "[I", Cond.methodLink RX3 70 yX3_letterIn, Cond.static yX3_letterIn, Cond.code yX3_letterIn cX3_letterIn 2 (some .int), Cond.methodLink RX3 112 yJ7_fill_d0a16, Cond.static yJ7_fill_d0a16, Cond.initialized RJ7, Cond.code yJ7_fill_d0a16 cJ7_fill_d0a16 5 none, Cond.methodLink RX3 101 yX3_countFrom, Cond.static yX3_countFrom, Cond.code yX3_countFrom cX3_countFrom 5 (some .int), Cond.fieldLink RX3 43 "OldStadium$Quarry" "yea\x72" "[I", Cond.methodLink RX3 98 yX3_fits, Cond.instanceMethod yX3_fits, Cond.selects RX3 yX3_fits yX3_fits, Cond.code yX3_fits cX3_fits 4 (some .boolean), Cond.static yX4_hasBit, Cond.initialized RX4, Cond.code yX4_hasBit cX4_hasBit 2 (some .boolean)]
def wsX3_tellYear_r3 : List Cond := [Cond.methodLink RX3 89 yX3_goTogether, Cond.instanceMethod yX3_goTogether, Cond.selects RX3 yX3_goTogether yX3_goTogether, Cond.code yX3_goTogether cX3_goTogether 4 (some .boolean), Cond.fieldLink RX3 30 "OldStadium$Quarry" "joined" "[I", Cond.methodLink RX3 92 Lib.Math.abs.name, Cond.static Lib.Math.abs.name, Cond.initialized "java/lang/Math", Cond.code Lib.Math.abs.name Lib.Math.abs.code 1 (some .int), Cond.fieldLink RX3 37 "OldStadium$Quarry" "span" "I", Cond.fieldLink RX3 11 "OldStadium$Quarry" "event" "[I"]
def wsX3_tellYear : List Cond := .code yX3_tellYear cX3_tellYear 7 (some .int) :: ((wsX3_tellYear_r1 ++ (wsX3_tellYear_r2 ++ wsX3_tellYear_r3)) ++ wsX30)
def wsJ6_bitCount_0f7a4 : List Cond := .code yJ6_bitCount_0f7a4 cJ6_bitCount_0f7a4 1 (some .int) :: ([.constant RJ6 265 (1431655765), .constant RJ6 266 (858993459), .constant RJ6 267 (252645135)])
def wsX3_findFewest_r1 : List Cond := [Cond.fieldLink RX3 33 "OldStadium$Quarry" "stones" "I", Cond.methodLink RX3 125 yJ6_bitCount_0f7a4, Cond.static yJ6_bitCount_0f7a4, Cond.initialized RJ6, Cond.code yJ6_bitCount_0f7a4 cJ6_bitCount_0f7a4 1 (some .int), Cond.constant RJ6 265 (1431655765), Cond.constant RJ6 266 (858993459), Cond.constant RJ6 267 (252645135), Cond.methodLink RX3 105 yX3_isRollFrom, Cond.static yX3_isRollFrom, Cond.initialized RX3, Cond.code yX3_isRollFrom cX3_isRollFrom 4 (some .boolean), Cond.fieldLink RX3 15 "OldStadium$Quarry" "from" "[I", Cond.fieldLink RX3 18 "OldStadium$Quarry" "to" "[I", Cond.fieldLink RX3 43 "OldStadium$Quarry" "yea\x72" "[I", Cond.static yX4_hasBit, Cond.initialized RX4, Cond.code yX4_hasBit cX4_hasBit 2 (some .boolean), Cond.methodLink RX3 98 yX3_fits, Cond.instanceMethod yX3_fits, Cond.selects RX3 yX3_fits yX3_fits, Cond.code yX3_fits cX3_fits 4 (some .boolean), Cond.methodLink RX3 89 yX3_goTogether, Cond.instanceMethod yX3_goTogether]
def wsX3_findFewest_r2 : List Cond := [Cond.selects RX3 yX3_goTogether yX3_goTogether, Cond.code yX3_goTogether cX3_goTogether 4 (some .boolean), Cond.fieldLink RX3 40 "OldStadium$Quarry" "unlike" "[I", Cond.fieldLink RX3 30 "OldStadium$Quarry" "joined" "[I", Cond.methodLink RX3 92 Lib.Math.abs.name, Cond.static Lib.Math.abs.name, Cond.initialized "java/lang/Math", Cond.code Lib.Math.abs.name Lib.Math.abs.code 1 (some .int), Cond.fieldLink RX3 37 "OldStadium$Quarry" "span" "I", Cond.fieldLink RX3 11 "OldStadium$Quarry" "event" "[I"]
def wsX3_findFewest : List Cond := .code yX3_findFewest cX3_findFewest 4 (some .int) :: ((wsX3_findFewest_r1 ++ wsX3_findFewest_r2) ++ wsX30)
def wsX3_fewestWrong_r1 : List Cond := [Cond.fieldLink RX3 53 "OldStadium$Quarry" "fewest" "I", Cond.methodLink RX3 109 yX3_findUnlike, Cond.instanceMethod yX3_findUnlike, Cond.selects RX3 yX3_findUnlike yX3_findUnlike, Cond.initialized RX3, Cond.code yX3_findUnlike cX3_findUnlike 3 none, Cond.fieldLink RX3 33 "OldStadium$Quarry" "stones" "I", Cond.fieldLink RX3 40 "OldStadium$Quarry" "unlike" "[I", Cond.methodLink RX3 83 yX3_isAgreeing, Cond.instanceMethod yX3_isAgreeing, Cond.selects RX3 yX3_isAgreeing yX3_isAgreeing, Cond.code yX3_isAgreeing cX3_isAgreeing 6 (some .boolean), Cond.fieldLink RX3 27 "OldStadium$Quarry" "town" "[I", Cond.methodLink RX3 77 yX3_letterOf, Cond.instanceMethod yX3_letterOf, Cond.selects RX3 yX3_letterOf yX3_letterOf, Cond.code yX3_letterOf cX3_letterOf 4 (some .int), Cond.fieldLink RX3 21 "OldStadium$Quarry" "firstLetters" "[I", Cond.fieldLink RX3 24 "OldStadium$Quarry" "lastLetters" "[I", Cond.methodLink RX3 70 yX3_letterIn, Cond.static yX3_letterIn, Cond.code yX3_letterIn cX3_letterIn 2 (some .int), Cond.methodLink RX3 122 yX3_findFewest, Cond.instanceMethod yX3_findFewest]
def wsX3_fewestWrong_r2 : List Cond := [Cond.selects RX3 yX3_findFewest yX3_findFewest, Cond.code yX3_findFewest cX3_findFewest 4 (some .int), Cond.methodLink RX3 125 yJ6_bitCount_0f7a4, Cond.static yJ6_bitCount_0f7a4, Cond.initialized RJ6, Cond.code yJ6_bitCount_0f7a4 cJ6_bitCount_0f7a4 1 (some .int), Cond.constant RJ6 265 (1431655765), Cond.constant RJ6 266 (858993459), Cond.constant RJ6 267 (252645135), Cond.methodLink RX3 105 yX3_isRollFrom, Cond.static yX3_isRollFrom, Cond.code yX3_isRollFrom cX3_isRollFrom 4 (some .boolean), Cond.fieldLink RX3 15 "OldStadium$Quarry" "from" "[I", Cond.fieldLink RX3 18 "OldStadium$Quarry" "to" "[I", Cond.fieldLink RX3 43 "OldStadium$Quarry" "yea\x72" "[I", Cond.static yX4_hasBit, Cond.initialized RX4, Cond.code yX4_hasBit cX4_hasBit 2 (some .boolean), Cond.methodLink RX3 98 yX3_fits, Cond.instanceMethod yX3_fits, Cond.selects RX3 yX3_fits yX3_fits, Cond.code yX3_fits cX3_fits 4 (some .boolean), Cond.methodLink RX3 89 yX3_goTogether, Cond.instanceMethod yX3_goTogether]
def wsX3_fewestWrong_r3 : List Cond := [Cond.selects RX3 yX3_goTogether yX3_goTogether, Cond.code yX3_goTogether cX3_goTogether 4 (some .boolean), Cond.fieldLink RX3 30 "OldStadium$Quarry" "joined" "[I", Cond.methodLink RX3 92 Lib.Math.abs.name, Cond.static Lib.Math.abs.name, Cond.initialized "java/lang/Math", Cond.code Lib.Math.abs.name Lib.Math.abs.code 1 (some .int), Cond.fieldLink RX3 37 "OldStadium$Quarry" "span" "I", Cond.fieldLink RX3 11 "OldStadium$Quarry" "event" "[I"]
def wsX3_fewestWrong : List Cond := .code yX3_fewestWrong cX3_fewestWrong 1 (some .int) :: ((wsX3_fewestWrong_r1 ++ (wsX3_fewestWrong_r2 ++ wsX3_fewestWrong_r3)) ++ wsX30)
def wsX4_init_r1 : List Cond := [Cond.methodLink RX4 1 objectInit, Cond.instanceMethod objectInit, Cond.code objectInit ⟨#[0xb1]⟩ 1 none, Cond.classLink RX4 7 RX1, Cond.instantiable RX1 16, Cond.initialized RX1, Cond.fieldLink RX4 10 "OldStadium" "heats" "LOldStadium$Heats;", Cond.classLink RX4 16 RX0, Cond.instantiable RX0 5, Cond.initialized RX0, Cond.fieldLink RX4 19 "OldStadium" "games" "LOldStadium$FiveInOne;", Cond.classLink RX4 23 RX2, Cond.instantiable RX2 16, Cond.initialized RX2, Cond.fieldLink RX4 26 "OldStadium" "course" "LOldStadium$Hippodrome;", Cond.classLink RX4 30 RX3, Cond.instantiable RX3 14, Cond.initialized RX3, Cond.fieldLink RX4 33 "OldStadium" "quarry" "LOldStadium$Quarry;", Cond.instanceMethod yX1_init, Cond.code yX1_init cX1_init 1 none, Cond.methodLink RX1 5 objectInit, Cond.arrayClass .int, Cond.fieldLink RX1 11 "OldStadium$Heats" "runnerTowns" "[I"]
def wsX4_init_r2 : List Cond := [Cond.fieldLink RX1 15 "OldStadium$Heats" "judgeTowns" "[I", Cond.fieldLink RX1 18 "OldStadium$Heats" "row" "[I", Cond.fieldLink RX1 21 "OldStadium$Heats" "winners" "[I", Cond.classLink RX1 24 "[[I", Cond.fieldLink RX1 26 "OldStadium$Heats" "votes" "[[I", Cond.fieldLink RX1 29 "OldStadium$Heats" "runners" "I", Cond.fieldLink RX1 33 "OldStadium$Heats" "judges" "I", Cond.fieldLink RX1 36 "OldStadium$Heats" "going" "Z", Cond.fieldLink RX1 40 "OldStadium$Heats" "round" "I", Cond.fieldLink RX1 43 "OldStadium$Heats" "size" "I", Cond.fieldLink RX1 46 "OldStadium$Heats" "entered" "I", Cond.fieldLink RX1 49 "OldStadium$Heats" "heats" "I", Cond.fieldLink RX1 52 "OldStadium$Heats" "bye" "I", Cond.fieldLink RX1 55 "OldStadium$Heats" "byesHad" "I", Cond.fieldLink RX1 58 "OldStadium$Heats" "victo\x72" "I", Cond.fieldLink RX1 61 "OldStadium$Heats" "lot" "I", Cond.instanceMethod yX0_init, Cond.code yX0_init cX0_init 1 none, Cond.methodLink RX0 3 objectInit, Cond.fieldLink RX0 11 "OldStadium$FiveInOne" "wins" "[I", Cond.fieldLink RX0 15 "OldStadium$FiveInOne" "sums" "[I", Cond.fieldLink RX0 18 "OldStadium$FiveInOne" "athletes" "I", Cond.fieldLink RX0 22 "OldStadium$FiveInOne" "told" "I", Cond.fieldLink RX0 25 "OldStadium$FiveInOne" "champion" "I"]
def wsX4_init_r3 : List Cond := [Cond.instanceMethod yX2_init, Cond.code yX2_init cX2_init 1 none, Cond.methodLink RX2 3 objectInit, Cond.fieldLink RX2 11 "OldStadium$Hippodrome" "delay" "[I", Cond.fieldLink RX2 15 "OldStadium$Hippodrome" "lane" "[I", Cond.fieldLink RX2 18 "OldStadium$Hippodrome" "cell" "[I", Cond.fieldLink RX2 21 "OldStadium$Hippodrome" "lapsDone" "[I", Cond.fieldLink RX2 24 "OldStadium$Hippodrome" "state" "[I", Cond.fieldLink RX2 27 "OldStadium$Hippodrome" "endTick" "[I", Cond.fieldLink RX2 30 "OldStadium$Hippodrome" "place" "[I", Cond.fieldLink RX2 33 "OldStadium$Hippodrome" "acts" "[I", Cond.classLink RX2 36 "[[I", Cond.fieldLink RX2 38 "OldStadium$Hippodrome" "forward" "[[I", Cond.fieldLink RX2 41 "OldStadium$Hippodrome" "side" "[[I", Cond.fieldLink RX2 44 "OldStadium$Hippodrome" "lanes" "I", Cond.fieldLink RX2 48 "OldStadium$Hippodrome" "cells" "I", Cond.fieldLink RX2 51 "OldStadium$Hippodrome" "laps" "I", Cond.fieldLink RX2 54 "OldStadium$Hippodrome" "chariots" "I", Cond.fieldLink RX2 57 "OldStadium$Hippodrome" "tick" "I", Cond.fieldLink RX2 60 "OldStadium$Hippodrome" "cameHome" "I", Cond.instanceMethod yX3_init, Cond.code yX3_init cX3_init 1 none, Cond.methodLink RX3 3 objectInit, Cond.fieldLink RX3 11 "OldStadium$Quarry" "event" "[I"]
def wsX4_init_r4 : List Cond := [Cond.fieldLink RX3 15 "OldStadium$Quarry" "from" "[I", Cond.fieldLink RX3 18 "OldStadium$Quarry" "to" "[I", Cond.fieldLink RX3 21 "OldStadium$Quarry" "firstLetters" "[I", Cond.fieldLink RX3 24 "OldStadium$Quarry" "lastLetters" "[I", Cond.fieldLink RX3 27 "OldStadium$Quarry" "town" "[I", Cond.fieldLink RX3 30 "OldStadium$Quarry" "joined" "[I", Cond.fieldLink RX3 33 "OldStadium$Quarry" "stones" "I", Cond.fieldLink RX3 37 "OldStadium$Quarry" "span" "I", Cond.fieldLink RX3 40 "OldStadium$Quarry" "unlike" "[I", Cond.fieldLink RX3 43 "OldStadium$Quarry" "yea\x72" "[I", Cond.arrayClass .long, Cond.fieldLink RX3 46 "OldStadium$Quarry" "seen" "[J", Cond.fieldLink RX3 50 "OldStadium$Quarry" "rolls" "I", Cond.fieldLink RX3 53 "OldStadium$Quarry" "fewest" "I"]
def wsX4_init : List Cond := .code yX4_init cX4_init 1 none :: ((wsX4_init_r1 ++ (wsX4_init_r2 ++ (wsX4_init_r3 ++ wsX4_init_r4))) ++ wsX10 ++ wsX40 ++ wsX00 ++ wsX20 ++ wsX30)
def wsX4_runner : List Cond := .code yX4_runner cX4_runner 2 (some .int) :: ([.fieldLink RX4 10 "OldStadium" "heats" "LOldStadium$Heats;", .methodLink RX4 37 yX1_addRunner, .instanceMethod yX1_addRunner, .selects RX1 yX1_addRunner yX1_addRunner, .initialized RX1, .code yX1_addRunner cX1_addRunner 2 (some .int), .fieldLink RX1 29 "OldStadium$Heats" "runners" "I", .fieldLink RX1 11 "OldStadium$Heats" "runnerTowns" "[I", .static yX4_isTown, .initialized RX4, .code yX4_isTown cX4_isTown 1 (some .boolean)] ++ wsX40 ++ wsX10)
def wsX4_judge : List Cond := .code yX4_judge cX4_judge 2 (some .int) :: ([.fieldLink RX4 10 "OldStadium" "heats" "LOldStadium$Heats;", .methodLink RX4 41 yX1_addJudge, .instanceMethod yX1_addJudge, .selects RX1 yX1_addJudge yX1_addJudge, .initialized RX1, .code yX1_addJudge cX1_addJudge 2 (some .int), .fieldLink RX1 33 "OldStadium$Heats" "judges" "I", .fieldLink RX1 15 "OldStadium$Heats" "judgeTowns" "[I", .static yX4_isTown, .initialized RX4, .code yX4_isTown cX4_isTown 1 (some .boolean)] ++ wsX40 ++ wsX10)
def wsX4_contest_r1 : List Cond := [Cond.fieldLink RX4 10 "OldStadium" "heats" "LOldStadium$Heats;", Cond.methodLink RX4 44 yX1_begin, Cond.instanceMethod yX1_begin, Cond.selects RX1 yX1_begin yX1_begin, Cond.initialized RX1, Cond.code yX1_begin cX1_begin 5 (some .int), Cond.fieldLink RX1 29 "OldStadium$Heats" "runners" "I", Cond.fieldLink RX1 43 "OldStadium$Heats" "size" "I", Cond.fieldLink RX1 61 "OldStadium$Heats" "lot" "I", Cond.fieldLink RX1 40 "OldStadium$Heats" "round" "I", Cond.fieldLink RX1 55 "OldStadium$Heats" "byesHad" "I", Cond.fieldLink RX1 58 "OldStadium$Heats" "victo\x72" "I", Cond.fieldLink RX1 36 "OldStadium$Heats" "going" "Z", Cond.methodLink RX1 68 yX1_enter, Cond.instanceMethod yX1_enter, Cond.selects RX1 yX1_enter yX1_enter, Cond.code yX1_enter cX1_enter 3 none, Cond.fieldLink RX1 46 "OldStadium$Heats" "entered" "I", Cond.fieldLink RX1 18 "OldStadium$Heats" "row" "[I", Cond.static yX4_hasBit, Cond.initialized RX4, Cond.code yX4_hasBit cX4_hasBit 2 (some .boolean), Cond.methodLink RX1 72 yX1_beginRound, Cond.instanceMethod yX1_beginRound]
def wsX4_contest_r2 : List Cond := [Cond.selects RX1 yX1_beginRound yX1_beginRound, Cond.code yX1_beginRound cX1_beginRound 3 (some .int), Cond.fieldLink RX1 49 "OldStadium$Heats" "heats" "I", Cond.fieldLink RX1 52 "OldStadium$Heats" "bye" "I", Cond.fieldLink RX1 21 "OldStadium$Heats" "winners" "[I", Cond.fieldLink RX1 26 "OldStadium$Heats" "votes" "[[I", Cond.methodLink RX1 80 yX1_mixRow, Cond.instanceMethod yX1_mixRow, Cond.selects RX1 yX1_mixRow yX1_mixRow, Cond.code yX1_mixRow cX1_mixRow 2 none, Cond.constant RX1 92 (1103515245), Cond.methodLink RX1 93 yX1_exchange, Cond.instanceMethod yX1_exchange, Cond.selects RX1 yX1_exchange yX1_exchange, Cond.code yX1_exchange cX1_exchange 4 none, Cond.methodLink RX1 83 yX1_giveBye, Cond.instanceMethod yX1_giveBye, Cond.selects RX1 yX1_giveBye yX1_giveBye, Cond.code yX1_giveBye cX1_giveBye 2 none, Cond.methodLink RX1 97 yX1_lastWithoutBye, Cond.instanceMethod yX1_lastWithoutBye, Cond.selects RX1 yX1_lastWithoutBye yX1_lastWithoutBye, Cond.code yX1_lastWithoutBye cX1_lastWithoutBye 3 (some .int), Cond.methodLink RX1 86 yJ7_fill_53178]
def wsX4_contest_r3 : List Cond := [Cond.static yJ7_fill_53178, Cond.initialized RJ7, Cond.code yJ7_fill_53178 cJ7_fill_53178 4 none]
def wsX4_contest : List Cond := .code yX4_contest cX4_contest 4 (some .int) :: ((wsX4_contest_r1 ++ (wsX4_contest_r2 ++ wsX4_contest_r3)) ++ wsX40 ++ wsX10)
def wsX4_heat_r1 : List Cond := [Cond.fieldLink RX4 10 "OldStadium" "heats" "LOldStadium$Heats;", Cond.methodLink RX4 48 yX1_heatOf, Cond.instanceMethod yX1_heatOf, Cond.selects RX1 yX1_heatOf yX1_heatOf, Cond.initialized RX1, Cond.code yX1_heatOf cX1_heatOf 3 (some .int), Cond.fieldLink RX1 36 "OldStadium$Heats" "going" "Z", Cond.fieldLink RX1 49 "OldStadium$Heats" "heats" "I", Cond.methodLink RX1 116 yX1_isIn, Cond.instanceMethod yX1_isIn, Cond.selects RX1 yX1_isIn yX1_isIn, Cond.code yX1_isIn cX1_isIn 4 (some .boolean), Cond.fieldLink RX1 43 "OldStadium$Heats" "size" "I", Cond.methodLink RX1 113 yX1_runnerAt, Cond.instanceMethod yX1_runnerAt, Cond.selects RX1 yX1_runnerAt yX1_runnerAt, Cond.code yX1_runnerAt cX1_runnerAt 3 (some .int), Cond.fieldLink RX1 18 "OldStadium$Heats" "row" "[I", Cond.methodLink RX1 107 yX1_isHeat, Cond.instanceMethod yX1_isHeat, Cond.selects RX1 yX1_isHeat yX1_isHeat, Cond.code yX1_isHeat cX1_isHeat 2 (some .boolean), Cond.methodLink RX1 110 yX1_sizeOf, Cond.instanceMethod yX1_sizeOf]
def wsX4_heat_r2 : List Cond := [Cond.selects RX1 yX1_sizeOf yX1_sizeOf, Cond.code yX1_sizeOf cX1_sizeOf 2 (some .int), Cond.fieldLink RX1 46 "OldStadium$Heats" "entered" "I", Cond.methodLink RX1 101 Lib.Math.min.name, Cond.static Lib.Math.min.name, Cond.initialized "java/lang/Math", Cond.code Lib.Math.min.name Lib.Math.min.code 2 (some .int)]
def wsX4_heat : List Cond := .code yX4_heat cX4_heat 2 (some .int) :: ((wsX4_heat_r1 ++ wsX4_heat_r2) ++ wsX40 ++ wsX10)
def wsX4_lane : List Cond := .code yX4_lane cX4_lane 3 (some .int) :: ([.fieldLink RX4 10 "OldStadium" "heats" "LOldStadium$Heats;", .methodLink RX4 51 yX1_runnerAt, .instanceMethod yX1_runnerAt, .selects RX1 yX1_runnerAt yX1_runnerAt, .initialized RX1, .code yX1_runnerAt cX1_runnerAt 3 (some .int), .fieldLink RX1 18 "OldStadium$Heats" "row" "[I", .fieldLink RX1 43 "OldStadium$Heats" "size" "I", .methodLink RX1 107 yX1_isHeat, .instanceMethod yX1_isHeat, .selects RX1 yX1_isHeat yX1_isHeat, .code yX1_isHeat cX1_isHeat 2 (some .boolean), .fieldLink RX1 49 "OldStadium$Heats" "heats" "I", .methodLink RX1 110 yX1_sizeOf, .instanceMethod yX1_sizeOf, .selects RX1 yX1_sizeOf yX1_sizeOf, .code yX1_sizeOf cX1_sizeOf 2 (some .int), .fieldLink RX1 46 "OldStadium$Heats" "entered" "I", .methodLink RX1 101 Lib.Math.min.name, .static Lib.Math.min.name, .initialized "java/lang/Math", .code Lib.Math.min.name Lib.Math.min.code 2 (some .int)] ++ wsX40 ++ wsX10)
def wsX4_count : List Cond := .code yX4_count cX4_count 2 (some .int) :: ([.fieldLink RX4 10 "OldStadium" "heats" "LOldStadium$Heats;", .methodLink RX4 55 yX1_tell, .instanceMethod yX1_tell, .selects RX1 yX1_tell yX1_tell, .initialized RX1, .code yX1_tell cX1_tell 2 (some .int), .fieldLink RX1 29 "OldStadium$Heats" "runners" "I", .fieldLink RX1 33 "OldStadium$Heats" "judges" "I", .fieldLink RX1 40 "OldStadium$Heats" "round" "I", .fieldLink RX1 49 "OldStadium$Heats" "heats" "I", .fieldLink RX1 52 "OldStadium$Heats" "bye" "I", .fieldLink RX1 58 "OldStadium$Heats" "victo\x72" "I", .fieldLink RX1 61 "OldStadium$Heats" "lot" "I", .methodLink RX1 119 yX1_openHeats, .instanceMethod yX1_openHeats, .selects RX1 yX1_openHeats yX1_openHeats, .code yX1_openHeats cX1_openHeats 3 (some .int), .fieldLink RX1 21 "OldStadium$Heats" "winners" "[I"] ++ wsX40 ++ wsX10)
def wsX4_winner_r1 : List Cond := [Cond.fieldLink RX4 10 "OldStadium" "heats" "LOldStadium$Heats;", Cond.methodLink RX4 58 yX1_setWinner, Cond.instanceMethod yX1_setWinner, Cond.selects RX1 yX1_setWinner yX1_setWinner, Cond.initialized RX1, Cond.code yX1_setWinner cX1_setWinner 3 (some .boolean), Cond.fieldLink RX1 36 "OldStadium$Heats" "going" "Z", Cond.fieldLink RX1 21 "OldStadium$Heats" "winners" "[I", Cond.methodLink RX1 107 yX1_isHeat, Cond.instanceMethod yX1_isHeat, Cond.selects RX1 yX1_isHeat yX1_isHeat, Cond.code yX1_isHeat cX1_isHeat 2 (some .boolean), Cond.fieldLink RX1 49 "OldStadium$Heats" "heats" "I", Cond.methodLink RX1 116 yX1_isIn, Cond.instanceMethod yX1_isIn, Cond.selects RX1 yX1_isIn yX1_isIn, Cond.code yX1_isIn cX1_isIn 4 (some .boolean), Cond.fieldLink RX1 43 "OldStadium$Heats" "size" "I", Cond.methodLink RX1 113 yX1_runnerAt, Cond.instanceMethod yX1_runnerAt, Cond.selects RX1 yX1_runnerAt yX1_runnerAt, Cond.code yX1_runnerAt cX1_runnerAt 3 (some .int), Cond.fieldLink RX1 18 "OldStadium$Heats" "row" "[I", Cond.methodLink RX1 110 yX1_sizeOf]
def wsX4_winner_r2 : List Cond := [Cond.instanceMethod yX1_sizeOf, Cond.selects RX1 yX1_sizeOf yX1_sizeOf, Cond.code yX1_sizeOf cX1_sizeOf 2 (some .int), Cond.fieldLink RX1 46 "OldStadium$Heats" "entered" "I", Cond.methodLink RX1 101 Lib.Math.min.name, Cond.static Lib.Math.min.name, Cond.initialized "java/lang/Math", Cond.code Lib.Math.min.name Lib.Math.min.code 2 (some .int)]
def wsX4_winner : List Cond := .code yX4_winner cX4_winner 3 (some .boolean) :: ((wsX4_winner_r1 ++ wsX4_winner_r2) ++ wsX40 ++ wsX10)
def wsX4_vote_r1 : List Cond := [Cond.fieldLink RX4 10 "OldStadium" "heats" "LOldStadium$Heats;", Cond.methodLink RX4 62 yX1_castVote, Cond.instanceMethod yX1_castVote, Cond.selects RX1 yX1_castVote yX1_castVote, Cond.initialized RX1, Cond.code yX1_castVote cX1_castVote 4 (some .boolean), Cond.fieldLink RX1 33 "OldStadium$Heats" "judges" "I", Cond.fieldLink RX1 36 "OldStadium$Heats" "going" "Z", Cond.fieldLink RX1 26 "OldStadium$Heats" "votes" "[[I", Cond.methodLink RX1 107 yX1_isHeat, Cond.instanceMethod yX1_isHeat, Cond.selects RX1 yX1_isHeat yX1_isHeat, Cond.code yX1_isHeat cX1_isHeat 2 (some .boolean), Cond.fieldLink RX1 49 "OldStadium$Heats" "heats" "I", Cond.methodLink RX1 116 yX1_isIn, Cond.instanceMethod yX1_isIn, Cond.selects RX1 yX1_isIn yX1_isIn, Cond.code yX1_isIn cX1_isIn 4 (some .boolean), Cond.fieldLink RX1 43 "OldStadium$Heats" "size" "I", Cond.methodLink RX1 113 yX1_runnerAt, Cond.instanceMethod yX1_runnerAt, Cond.selects RX1 yX1_runnerAt yX1_runnerAt, Cond.code yX1_runnerAt cX1_runnerAt 3 (some .int), Cond.fieldLink RX1 18 "OldStadium$Heats" "row" "[I"]
def wsX4_vote_r2 : List Cond := [Cond.methodLink RX1 110 yX1_sizeOf, Cond.instanceMethod yX1_sizeOf, Cond.selects RX1 yX1_sizeOf yX1_sizeOf, Cond.code yX1_sizeOf cX1_sizeOf 2 (some .int), Cond.fieldLink RX1 46 "OldStadium$Heats" "entered" "I", Cond.methodLink RX1 101 Lib.Math.min.name, Cond.static Lib.Math.min.name, Cond.initialized "java/lang/Math", Cond.code Lib.Math.min.name Lib.Math.min.code 2 (some .int)]
def wsX4_vote : List Cond := .code yX4_vote cX4_vote 4 (some .boolean) :: ((wsX4_vote_r1 ++ wsX4_vote_r2) ++ wsX40 ++ wsX10)
def wsX4_decide_r1 : List Cond := [Cond.fieldLink RX4 10 "OldStadium" "heats" "LOldStadium$Heats;", Cond.methodLink RX4 66 yX1_decideByVotes, Cond.instanceMethod yX1_decideByVotes, Cond.selects RX1 yX1_decideByVotes yX1_decideByVotes, Cond.initialized RX1, Cond.code yX1_decideByVotes cX1_decideByVotes 5 (some .int), Cond.fieldLink RX1 36 "OldStadium$Heats" "going" "Z", Cond.fieldLink RX1 21 "OldStadium$Heats" "winners" "[I", Cond.methodLink RX1 107 yX1_isHeat, Cond.instanceMethod yX1_isHeat, Cond.selects RX1 yX1_isHeat yX1_isHeat, Cond.code yX1_isHeat cX1_isHeat 2 (some .boolean), Cond.fieldLink RX1 49 "OldStadium$Heats" "heats" "I", Cond.methodLink RX1 110 yX1_sizeOf, Cond.instanceMethod yX1_sizeOf, Cond.selects RX1 yX1_sizeOf yX1_sizeOf, Cond.code yX1_sizeOf cX1_sizeOf 2 (some .int), Cond.fieldLink RX1 43 "OldStadium$Heats" "size" "I", Cond.fieldLink RX1 46 "OldStadium$Heats" "entered" "I", Cond.methodLink RX1 101 Lib.Math.min.name, Cond.static Lib.Math.min.name, Cond.initialized "java/lang/Math", Cond.code Lib.Math.min.name Lib.Math.min.code 2 (some .int), Cond.methodLink RX1 113 yX1_runnerAt]
def wsX4_decide_r2 : List Cond := [Cond.instanceMethod yX1_runnerAt, Cond.selects RX1 yX1_runnerAt yX1_runnerAt, Cond.code yX1_runnerAt cX1_runnerAt 3 (some .int), Cond.fieldLink RX1 18 "OldStadium$Heats" "row" "[I", Cond.methodLink RX1 122 yX1_votesFor, Cond.instanceMethod yX1_votesFor, Cond.selects RX1 yX1_votesFor yX1_votesFor, Cond.code yX1_votesFor cX1_votesFor 5 (some .int), Cond.fieldLink RX1 33 "OldStadium$Heats" "judges" "I", Cond.fieldLink RX1 26 "OldStadium$Heats" "votes" "[[I", Cond.fieldLink RX1 15 "OldStadium$Heats" "judgeTowns" "[I", Cond.methodLink RX1 125 yX1_hasTown, Cond.instanceMethod yX1_hasTown, Cond.selects RX1 yX1_hasTown yX1_hasTown, Cond.code yX1_hasTown cX1_hasTown 5 (some .boolean), Cond.fieldLink RX1 11 "OldStadium$Heats" "runnerTowns" "[I"]
def wsX4_decide : List Cond := .code yX4_decide cX4_decide 2 (some .int) :: ((wsX4_decide_r1 ++ wsX4_decide_r2) ++ wsX40 ++ wsX10)
def wsX4_next_r1 : List Cond := [Cond.fieldLink RX4 10 "OldStadium" "heats" "LOldStadium$Heats;", Cond.methodLink RX4 69 yX1_goOn, Cond.instanceMethod yX1_goOn, Cond.selects RX1 yX1_goOn yX1_goOn, Cond.initialized RX1, Cond.code yX1_goOn cX1_goOn 3 (some .int), Cond.fieldLink RX1 36 "OldStadium$Heats" "going" "Z", Cond.fieldLink RX1 49 "OldStadium$Heats" "heats" "I", Cond.fieldLink RX1 52 "OldStadium$Heats" "bye" "I", Cond.fieldLink RX1 21 "OldStadium$Heats" "winners" "[I", Cond.methodLink RX1 119 yX1_openHeats, Cond.instanceMethod yX1_openHeats, Cond.selects RX1 yX1_openHeats yX1_openHeats, Cond.code yX1_openHeats cX1_openHeats 3 (some .int), Cond.methodLink RX1 128 yX1_end, Cond.instanceMethod yX1_end, Cond.selects RX1 yX1_end yX1_end, Cond.code yX1_end cX1_end 2 (some .int), Cond.fieldLink RX1 58 "OldStadium$Heats" "victo\x72" "I", Cond.methodLink RX1 68 yX1_enter, Cond.instanceMethod yX1_enter, Cond.selects RX1 yX1_enter yX1_enter, Cond.code yX1_enter cX1_enter 3 none, Cond.fieldLink RX1 46 "OldStadium$Heats" "entered" "I"]
def wsX4_next_r2 : List Cond := [Cond.fieldLink RX1 29 "OldStadium$Heats" "runners" "I", Cond.fieldLink RX1 18 "OldStadium$Heats" "row" "[I", Cond.static yX4_hasBit, Cond.initialized RX4, Cond.code yX4_hasBit cX4_hasBit 2 (some .boolean), Cond.methodLink RX1 72 yX1_beginRound, Cond.instanceMethod yX1_beginRound, Cond.selects RX1 yX1_beginRound yX1_beginRound, Cond.code yX1_beginRound cX1_beginRound 3 (some .int), Cond.fieldLink RX1 40 "OldStadium$Heats" "round" "I", Cond.fieldLink RX1 43 "OldStadium$Heats" "size" "I", Cond.fieldLink RX1 26 "OldStadium$Heats" "votes" "[[I", Cond.methodLink RX1 80 yX1_mixRow, Cond.instanceMethod yX1_mixRow, Cond.selects RX1 yX1_mixRow yX1_mixRow, Cond.code yX1_mixRow cX1_mixRow 2 none, Cond.fieldLink RX1 61 "OldStadium$Heats" "lot" "I", Cond.constant RX1 92 (1103515245), Cond.methodLink RX1 93 yX1_exchange, Cond.instanceMethod yX1_exchange, Cond.selects RX1 yX1_exchange yX1_exchange, Cond.code yX1_exchange cX1_exchange 4 none, Cond.methodLink RX1 83 yX1_giveBye, Cond.instanceMethod yX1_giveBye]
def wsX4_next_r3 : List Cond := [Cond.selects RX1 yX1_giveBye yX1_giveBye, Cond.code yX1_giveBye cX1_giveBye 2 none, Cond.fieldLink RX1 55 "OldStadium$Heats" "byesHad" "I", Cond.methodLink RX1 97 yX1_lastWithoutBye, Cond.instanceMethod yX1_lastWithoutBye, Cond.selects RX1 yX1_lastWithoutBye yX1_lastWithoutBye, Cond.code yX1_lastWithoutBye cX1_lastWithoutBye 3 (some .int), Cond.methodLink RX1 86 yJ7_fill_53178, Cond.static yJ7_fill_53178, Cond.initialized RJ7, Cond.code yJ7_fill_53178 cJ7_fill_53178 4 none]
def wsX4_next : List Cond := .code yX4_next cX4_next 1 (some .int) :: ((wsX4_next_r1 ++ (wsX4_next_r2 ++ wsX4_next_r3)) ++ wsX40 ++ wsX10)
def wsX4_five : List Cond := .code yX4_five cX4_five 2 (some .boolean) :: ([.fieldLink RX4 19 "OldStadium" "games" "LOldStadium$FiveInOne;", .methodLink RX4 73 yX0_begin, .instanceMethod yX0_begin, .selects RX0 yX0_begin yX0_begin, .initialized RX0, .code yX0_begin cX0_begin 2 (some .boolean), .fieldLink RX0 18 "OldStadium$FiveInOne" "athletes" "I", .fieldLink RX0 22 "OldStadium$FiveInOne" "told" "I", .fieldLink RX0 25 "OldStadium$FiveInOne" "champion" "I", .fieldLink RX0 11 "OldStadium$FiveInOne" "wins" "[I", .fieldLink RX0 15 "OldStadium$FiveInOne" "sums" "[I", .methodLink RX0 28 yJ7_fill_53178, .static yJ7_fill_53178, .initialized RJ7, .code yJ7_fill_53178 cJ7_fill_53178 4 none] ++ wsX40 ++ wsX00)
def wsX4_event_r1 : List Cond := [Cond.fieldLink RX4 19 "OldStadium" "games" "LOldStadium$FiveInOne;", Cond.methodLink RX4 76 yX0_tellOrder, Cond.instanceMethod yX0_tellOrder, Cond.selects RX0 yX0_tellOrder yX0_tellOrder, Cond.initialized RX0, Cond.code yX0_tellOrder cX0_tellOrder 5 (some .int), Cond.fieldLink RX0 18 "OldStadium$FiveInOne" "athletes" "I", Cond.fieldLink RX0 25 "OldStadium$FiveInOne" "champion" "I", Cond.fieldLink RX0 15 "OldStadium$FiveInOne" "sums" "[I", Cond.fieldLink RX0 11 "OldStadium$FiveInOne" "wins" "[I", Cond.fieldLink RX0 22 "OldStadium$FiveInOne" "told" "I", Cond.methodLink RX0 34 yX0_isOrder, Cond.instanceMethod yX0_isOrder, Cond.selects RX0 yX0_isOrder yX0_isOrder, Cond.code yX0_isOrder cX0_isOrder 6 (some .boolean), Cond.static yX4_hasBit, Cond.initialized RX4, Cond.code yX4_hasBit cX4_hasBit 2 (some .boolean), Cond.methodLink RX0 38 yX0_findChampion, Cond.instanceMethod yX0_findChampion, Cond.selects RX0 yX0_findChampion yX0_findChampion, Cond.code yX0_findChampion cX0_findChampion 3 (some .int), Cond.methodLink RX0 46 yX0_isAhead, Cond.static yX0_isAhead]
def wsX4_event_r2 : List Cond := [Cond.code yX0_isAhead cX0_isAhead 6 (some .boolean)]
def wsX4_event : List Cond := .code yX4_event cX4_event 2 (some .int) :: ((wsX4_event_r1 ++ wsX4_event_r2) ++ wsX40 ++ wsX00)
def wsX4_athlete : List Cond := .code yX4_athlete cX4_athlete 3 (some .int) :: ([.fieldLink RX4 19 "OldStadium" "games" "LOldStadium$FiveInOne;", .methodLink RX4 79 yX0_tell, .instanceMethod yX0_tell, .selects RX0 yX0_tell yX0_tell, .initialized RX0, .code yX0_tell cX0_tell 3 (some .int), .fieldLink RX0 18 "OldStadium$FiveInOne" "athletes" "I", .fieldLink RX0 11 "OldStadium$FiveInOne" "wins" "[I", .fieldLink RX0 15 "OldStadium$FiveInOne" "sums" "[I", .methodLink RX0 50 yX0_canWin, .instanceMethod yX0_canWin, .selects RX0 yX0_canWin yX0_canWin, .code yX0_canWin cX0_canWin 6 (some .boolean), .fieldLink RX0 25 "OldStadium$FiveInOne" "champion" "I", .fieldLink RX0 22 "OldStadium$FiveInOne" "told" "I", .methodLink RX0 46 yX0_isAhead, .static yX0_isAhead, .code yX0_isAhead cX0_isAhead 6 (some .boolean)] ++ wsX40 ++ wsX00)
def wsX4_won : List Cond := .code yX4_won cX4_won 1 (some .int) :: ([.fieldLink RX4 19 "OldStadium" "games" "LOldStadium$FiveInOne;", .methodLink RX4 81 yX0_champion, .instanceMethod yX0_champion, .selects RX0 yX0_champion yX0_champion, .initialized RX0, .code yX0_champion cX0_champion 1 (some .int), .fieldLink RX0 25 "OldStadium$FiveInOne" "champion" "I"] ++ wsX40 ++ wsX00)
def wsX4_track : List Cond := .code yX4_track cX4_track 4 (some .boolean) :: ([.fieldLink RX4 26 "OldStadium" "course" "LOldStadium$Hippodrome;", .methodLink RX4 84 yX2_layOut, .instanceMethod yX2_layOut, .selects RX2 yX2_layOut yX2_layOut, .initialized RX2, .code yX2_layOut cX2_layOut 4 (some .boolean), .fieldLink RX2 44 "OldStadium$Hippodrome" "lanes" "I", .fieldLink RX2 48 "OldStadium$Hippodrome" "cells" "I", .fieldLink RX2 51 "OldStadium$Hippodrome" "laps" "I", .fieldLink RX2 54 "OldStadium$Hippodrome" "chariots" "I", .fieldLink RX2 57 "OldStadium$Hippodrome" "tick" "I", .fieldLink RX2 60 "OldStadium$Hippodrome" "cameHome" "I"] ++ wsX40 ++ wsX20)
def wsX4_chariot : List Cond := .code yX4_chariot cX4_chariot 3 (some .int) :: ([.fieldLink RX4 26 "OldStadium" "course" "LOldStadium$Hippodrome;", .methodLink RX4 87 yX2_addChariot, .instanceMethod yX2_addChariot, .selects RX2 yX2_addChariot yX2_addChariot, .initialized RX2, .code yX2_addChariot cX2_addChariot 3 (some .int), .fieldLink RX2 44 "OldStadium$Hippodrome" "lanes" "I", .fieldLink RX2 54 "OldStadium$Hippodrome" "chariots" "I", .fieldLink RX2 57 "OldStadium$Hippodrome" "tick" "I", .fieldLink RX2 11 "OldStadium$Hippodrome" "delay" "[I", .fieldLink RX2 15 "OldStadium$Hippodrome" "lane" "[I", .fieldLink RX2 18 "OldStadium$Hippodrome" "cell" "[I", .fieldLink RX2 21 "OldStadium$Hippodrome" "lapsDone" "[I", .fieldLink RX2 24 "OldStadium$Hippodrome" "state" "[I", .fieldLink RX2 27 "OldStadium$Hippodrome" "endTick" "[I", .fieldLink RX2 30 "OldStadium$Hippodrome" "place" "[I", .fieldLink RX2 33 "OldStadium$Hippodrome" "acts" "[I", .methodLink RX2 63 yX2_isTaken, .instanceMethod yX2_isTaken, .selects RX2 yX2_isTaken yX2_isTaken, .code yX2_isTaken cX2_isTaken 3 (some .boolean)] ++ wsX40 ++ wsX20)
def wsX4_drive : List Cond := .code yX4_drive cX4_drive 4 (some .int) :: ([.fieldLink RX4 26 "OldStadium" "course" "LOldStadium$Hippodrome;", .methodLink RX4 90 yX2_addAct, .instanceMethod yX2_addAct, .selects RX2 yX2_addAct yX2_addAct, .initialized RX2, .code yX2_addAct cX2_addAct 4 (some .int), .fieldLink RX2 33 "OldStadium$Hippodrome" "acts" "[I", .fieldLink RX2 57 "OldStadium$Hippodrome" "tick" "I", .fieldLink RX2 38 "OldStadium$Hippodrome" "forward" "[[I", .fieldLink RX2 41 "OldStadium$Hippodrome" "side" "[[I", .methodLink RX2 67 yX2_isChariot, .instanceMethod yX2_isChariot, .selects RX2 yX2_isChariot yX2_isChariot, .code yX2_isChariot cX2_isChariot 2 (some .boolean), .fieldLink RX2 54 "OldStadium$Hippodrome" "chariots" "I"] ++ wsX40 ++ wsX20)
def wsX4_run_r1 : List Cond := [Cond.fieldLink RX4 26 "OldStadium" "course" "LOldStadium$Hippodrome;", Cond.methodLink RX4 93 yX2_pass, Cond.instanceMethod yX2_pass, Cond.selects RX2 yX2_pass yX2_pass, Cond.initialized RX2, Cond.code yX2_pass cX2_pass 4 (some .int), Cond.fieldLink RX2 44 "OldStadium$Hippodrome" "lanes" "I", Cond.fieldLink RX2 54 "OldStadium$Hippodrome" "chariots" "I", Cond.fieldLink RX2 24 "OldStadium$Hippodrome" "state" "[I", Cond.methodLink RX2 70 yX2_passTick, Cond.instanceMethod yX2_passTick, Cond.selects RX2 yX2_passTick yX2_passTick, Cond.code yX2_passTick cX2_passTick 2 none, Cond.fieldLink RX2 57 "OldStadium$Hippodrome" "tick" "I", Cond.methodLink RX2 73 yX2_letIn, Cond.instanceMethod yX2_letIn, Cond.selects RX2 yX2_letIn yX2_letIn, Cond.code yX2_letIn cX2_letIn 2 none, Cond.fieldLink RX2 11 "OldStadium$Hippodrome" "delay" "[I", Cond.methodLink RX2 76 yX2_crash, Cond.instanceMethod yX2_crash, Cond.selects RX2 yX2_crash yX2_crash, Cond.code yX2_crash cX2_crash 3 none, Cond.fieldLink RX2 27 "OldStadium$Hippodrome" "endTick" "[I"]
def wsX4_run_r2 : List Cond := [Cond.methodLink RX2 99 yX2_sharesCell, Cond.instanceMethod yX2_sharesCell, Cond.selects RX2 yX2_sharesCell yX2_sharesCell, Cond.code yX2_sharesCell cX2_sharesCell 3 (some .boolean), Cond.fieldLink RX2 15 "OldStadium$Hippodrome" "lane" "[I", Cond.fieldLink RX2 18 "OldStadium$Hippodrome" "cell" "[I", Cond.static yX4_hasBit, Cond.initialized RX4, Cond.code yX4_hasBit cX4_hasBit 2 (some .boolean), Cond.methodLink RX2 79 yX2_goForward, Cond.instanceMethod yX2_goForward, Cond.selects RX2 yX2_goForward yX2_goForward, Cond.code yX2_goForward cX2_goForward 4 none, Cond.fieldLink RX2 38 "OldStadium$Hippodrome" "forward" "[[I", Cond.fieldLink RX2 48 "OldStadium$Hippodrome" "cells" "I", Cond.fieldLink RX2 21 "OldStadium$Hippodrome" "lapsDone" "[I", Cond.methodLink RX2 95 yX2_actOf, Cond.instanceMethod yX2_actOf, Cond.selects RX2 yX2_actOf yX2_actOf, Cond.code yX2_actOf cX2_actOf 2 (some .int), Cond.fieldLink RX2 33 "OldStadium$Hippodrome" "acts" "[I", Cond.methodLink RX2 89 yJ9_floorMod_7cf53, Cond.static yJ9_floorMod_7cf53, Cond.initialized RJ9]
def wsX4_run_r3 : List Cond := [Cond.code yJ9_floorMod_7cf53 cJ9_floorMod_7cf53 3 (some .int), Cond.methodLink RX2 83 yX2_bringHome, Cond.instanceMethod yX2_bringHome, Cond.selects RX2 yX2_bringHome yX2_bringHome, Cond.code yX2_bringHome cX2_bringHome 3 none, Cond.fieldLink RX2 51 "OldStadium$Hippodrome" "laps" "I", Cond.fieldLink RX2 60 "OldStadium$Hippodrome" "cameHome" "I", Cond.fieldLink RX2 30 "OldStadium$Hippodrome" "place" "[I", Cond.methodLink RX2 86 yX2_changeLanes, Cond.instanceMethod yX2_changeLanes, Cond.selects RX2 yX2_changeLanes yX2_changeLanes, Cond.code yX2_changeLanes cX2_changeLanes 4 none, Cond.fieldLink RX2 41 "OldStadium$Hippodrome" "side" "[[I"]
def wsX4_run : List Cond := .code yX4_run cX4_run 2 (some .int) :: ((wsX4_run_r1 ++ (wsX4_run_r2 ++ wsX4_run_r3)) ++ wsX40 ++ wsX20)
def wsX4_at : List Cond := .code yX4_at cX4_at 3 (some .int) :: ([.fieldLink RX4 26 "OldStadium" "course" "LOldStadium$Hippodrome;", .methodLink RX4 96 yX2_tell, .instanceMethod yX2_tell, .selects RX2 yX2_tell yX2_tell, .initialized RX2, .code yX2_tell cX2_tell 3 (some .int), .fieldLink RX2 24 "OldStadium$Hippodrome" "state" "[I", .fieldLink RX2 15 "OldStadium$Hippodrome" "lane" "[I", .fieldLink RX2 18 "OldStadium$Hippodrome" "cell" "[I", .fieldLink RX2 21 "OldStadium$Hippodrome" "lapsDone" "[I", .fieldLink RX2 27 "OldStadium$Hippodrome" "endTick" "[I", .fieldLink RX2 30 "OldStadium$Hippodrome" "place" "[I", .methodLink RX2 67 yX2_isChariot, .instanceMethod yX2_isChariot, .selects RX2 yX2_isChariot yX2_isChariot, .code yX2_isChariot cX2_isChariot 2 (some .boolean), .fieldLink RX2 54 "OldStadium$Hippodrome" "chariots" "I"] ++ wsX40 ++ wsX20)
def wsX4_stone_r1 : List Cond := [Cond.fieldLink RX4 33 "OldStadium" "quarry" "LOldStadium$Quarry;", Cond.methodLink RX4 97 yX3_addStone, Cond.instanceMethod yX3_addStone, Cond.selects RX3 yX3_addStone yX3_addStone, Cond.initialized RX3, Cond.code yX3_addStone cX3_addStone 7 (some .int), Cond.fieldLink RX3 33 "OldStadium$Quarry" "stones" "I", Cond.fieldLink RX3 11 "OldStadium$Quarry" "event" "[I", Cond.fieldLink RX3 15 "OldStadium$Quarry" "from" "[I", Cond.fieldLink RX3 18 "OldStadium$Quarry" "to" "[I", Cond.fieldLink RX3 21 "OldStadium$Quarry" "firstLetters" "[I", Cond.fieldLink RX3 24 "OldStadium$Quarry" "lastLetters" "[I", Cond.fieldLink RX3 27 "OldStadium$Quarry" "town" "[I", Cond.fieldLink RX3 30 "OldStadium$Quarry" "joined" "[I", Cond.methodLink RX3 56 yX3_areYears, Cond.static yX3_areYears, Cond.code yX3_areYears cX3_areYears 2 (some .boolean), Cond.methodLink RX3 60 yX3_isName, Cond.static yX3_isName, Cond.code yX3_isName cX3_isName 2 (some .boolean), Cond.methodLink RX3 70 yX3_letterIn, Cond.static yX3_letterIn, Cond.code yX3_letterIn cX3_letterIn 2 (some .int), Cond.static yX4_isTown]
def wsX4_stone_r2 : List Cond := [Cond.initialized RX4, Cond.code yX4_isTown cX4_isTown 1 (some .boolean), Cond.methodLink RX3 67 yX3_forget, Cond.instanceMethod yX3_forget, Cond.selects RX3 yX3_forget yX3_forget, Cond.code yX3_forget cX3_forget 1 none, Cond.fieldLink RX3 50 "OldStadium$Quarry" "rolls" "I", Cond.fieldLink RX3 53 "OldStadium$Quarry" "fewest" "I"]
def wsX4_stone : List Cond := .code yX4_stone cX4_stone 7 (some .int) :: ((wsX4_stone_r1 ++ wsX4_stone_r2) ++ wsX40 ++ wsX30)
def wsX4_join : List Cond := .code yX4_join cX4_join 4 (some .boolean) :: ([.fieldLink RX4 33 "OldStadium" "quarry" "LOldStadium$Quarry;", .methodLink RX4 101 yX3_setJoined, .instanceMethod yX3_setJoined, .selects RX3 yX3_setJoined yX3_setJoined, .initialized RX3, .code yX3_setJoined cX3_setJoined 4 (some .boolean), .fieldLink RX3 30 "OldStadium$Quarry" "joined" "[I", .methodLink RX3 74 yX3_isStone, .instanceMethod yX3_isStone, .selects RX3 yX3_isStone yX3_isStone, .code yX3_isStone cX3_isStone 2 (some .boolean), .fieldLink RX3 33 "OldStadium$Quarry" "stones" "I", .methodLink RX3 67 yX3_forget, .instanceMethod yX3_forget, .selects RX3 yX3_forget yX3_forget, .code yX3_forget cX3_forget 1 none, .fieldLink RX3 50 "OldStadium$Quarry" "rolls" "I", .fieldLink RX3 53 "OldStadium$Quarry" "fewest" "I"] ++ wsX40 ++ wsX30)
def wsX4_span : List Cond := .code yX4_span cX4_span 2 (some .int) :: ([.fieldLink RX4 33 "OldStadium" "quarry" "LOldStadium$Quarry;", .methodLink RX4 105 yX3_setSpan, .instanceMethod yX3_setSpan, .selects RX3 yX3_setSpan yX3_setSpan, .initialized RX3, .code yX3_setSpan cX3_setSpan 3 (some .int), .fieldLink RX3 37 "OldStadium$Quarry" "span" "I", .methodLink RX3 67 yX3_forget, .instanceMethod yX3_forget, .selects RX3 yX3_forget yX3_forget, .code yX3_forget cX3_forget 1 none, .fieldLink RX3 50 "OldStadium$Quarry" "rolls" "I", .fieldLink RX3 53 "OldStadium$Quarry" "fewest" "I"] ++ wsX40 ++ wsX30)
def wsX4_lose_r1 : List Cond := [Cond.fieldLink RX4 33 "OldStadium" "quarry" "LOldStadium$Quarry;", Cond.methodLink RX4 108 yX3_breakUp, Cond.instanceMethod yX3_breakUp, Cond.selects RX3 yX3_breakUp yX3_breakUp, Cond.initialized RX3, Cond.code yX3_breakUp cX3_breakUp 3 (some .int), Cond.fieldLink RX3 33 "OldStadium$Quarry" "stones" "I", Cond.fieldLink RX3 11 "OldStadium$Quarry" "event" "[I", Cond.fieldLink RX3 15 "OldStadium$Quarry" "from" "[I", Cond.fieldLink RX3 18 "OldStadium$Quarry" "to" "[I", Cond.fieldLink RX3 21 "OldStadium$Quarry" "firstLetters" "[I", Cond.fieldLink RX3 24 "OldStadium$Quarry" "lastLetters" "[I", Cond.fieldLink RX3 27 "OldStadium$Quarry" "town" "[I", Cond.fieldLink RX3 30 "OldStadium$Quarry" "joined" "[I", Cond.methodLink RX3 74 yX3_isStone, Cond.instanceMethod yX3_isStone, Cond.selects RX3 yX3_isStone yX3_isStone, Cond.code yX3_isStone cX3_isStone 2 (some .boolean), Cond.methodLink RX3 80 yX3_withoutBit, Cond.static yX3_withoutBit, Cond.code yX3_withoutBit cX3_withoutBit 3 (some .int), Cond.methodLink RX3 67 yX3_forget, Cond.instanceMethod yX3_forget, Cond.selects RX3 yX3_forget yX3_forget]
def wsX4_lose_r2 : List Cond := [Cond.code yX3_forget cX3_forget 1 none, Cond.fieldLink RX3 50 "OldStadium$Quarry" "rolls" "I", Cond.fieldLink RX3 53 "OldStadium$Quarry" "fewest" "I"]
def wsX4_lose : List Cond := .code yX4_lose cX4_lose 2 (some .int) :: ((wsX4_lose_r1 ++ wsX4_lose_r2) ++ wsX40 ++ wsX30)
def wsX4_agree_r1 : List Cond := [Cond.fieldLink RX4 33 "OldStadium" "quarry" "LOldStadium$Quarry;", Cond.methodLink RX4 111 yX3_tellAgreeing, Cond.instanceMethod yX3_tellAgreeing, Cond.selects RX3 yX3_tellAgreeing yX3_tellAgreeing, Cond.initialized RX3, Cond.code yX3_tellAgreeing cX3_tellAgreeing 3 (some .int), Cond.methodLink RX3 74 yX3_isStone, Cond.instanceMethod yX3_isStone, Cond.selects RX3 yX3_isStone yX3_isStone, Cond.code yX3_isStone cX3_isStone 2 (some .boolean), Cond.fieldLink RX3 33 "OldStadium$Quarry" "stones" "I", Cond.methodLink RX3 83 yX3_isAgreeing, Cond.instanceMethod yX3_isAgreeing, Cond.selects RX3 yX3_isAgreeing yX3_isAgreeing, Cond.code yX3_isAgreeing cX3_isAgreeing 6 (some .boolean), Cond.fieldLink RX3 27 "OldStadium$Quarry" "town" "[I", Cond.methodLink RX3 77 yX3_letterOf, Cond.instanceMethod yX3_letterOf, Cond.selects RX3 yX3_letterOf yX3_letterOf, Cond.code yX3_letterOf cX3_letterOf 4 (some .int), Cond.fieldLink RX3 21 "OldStadium$Quarry" "firstLetters" "[I", Cond.fieldLink RX3 24 "OldStadium$Quarry" "lastLetters" "[I", Cond.methodLink RX3 70 yX3_letterIn, Cond.static yX3_letterIn]
def wsX4_agree_r2 : List Cond := [Cond.code yX3_letterIn cX3_letterIn 2 (some .int)]
def wsX4_agree : List Cond := .code yX4_agree cX4_agree 3 (some .int) :: ((wsX4_agree_r1 ++ wsX4_agree_r2) ++ wsX40 ++ wsX30)
def wsX4_rolls_r1 : List Cond := [Cond.fieldLink RX4 33 "OldStadium" "quarry" "LOldStadium$Quarry;", Cond.methodLink RX4 114 yX3_countRolls, Cond.instanceMethod yX3_countRolls, Cond.selects RX3 yX3_countRolls yX3_countRolls, Cond.initialized RX3, Cond.code yX3_countRolls cX3_countRolls 1 (some .int), Cond.fieldLink RX3 50 "OldStadium$Quarry" "rolls" "I", Cond.fieldLink RX3 46 "OldStadium$Quarry" "seen" "[J", Cond.methodLink RX3 109 yX3_findUnlike, Cond.instanceMethod yX3_findUnlike, Cond.selects RX3 yX3_findUnlike yX3_findUnlike, Cond.code yX3_findUnlike cX3_findUnlike 3 none, Cond.fieldLink RX3 33 "OldStadium$Quarry" "stones" "I", Cond.fieldLink RX3 40 "OldStadium$Quarry" "unlike" "[I", Cond.methodLink RX3 83 yX3_isAgreeing, Cond.instanceMethod yX3_isAgreeing, Cond.selects RX3 yX3_isAgreeing yX3_isAgreeing, Cond.code yX3_isAgreeing cX3_isAgreeing 6 (some .boolean), Cond.fieldLink RX3 27 "OldStadium$Quarry" "town" "[I", Cond.methodLink RX3 77 yX3_letterOf, Cond.instanceMethod yX3_letterOf, Cond.selects RX3 yX3_letterOf yX3_letterOf, Cond.code yX3_letterOf cX3_letterOf 4 (some .int), Cond.fieldLink RX3 21 "OldStadium$Quarry" "firstLetters" "[I"]
def wsX4_rolls_r2 : List Cond := [Cond.fieldLink RX3 24 "OldStadium$Quarry" "lastLetters" "[I", Cond.methodLink RX3 70 yX3_letterIn, Cond.static yX3_letterIn, Cond.code yX3_letterIn cX3_letterIn 2 (some .int), Cond.methodLink RX3 112 yJ7_fill_d0a16, Cond.static yJ7_fill_d0a16, Cond.initialized RJ7, Cond.code yJ7_fill_d0a16 cJ7_fill_d0a16 5 none, Cond.methodLink RX3 101 yX3_countFrom, Cond.static yX3_countFrom, Cond.code yX3_countFrom cX3_countFrom 5 (some .int), Cond.fieldLink RX3 15 "OldStadium$Quarry" "from" "[I", Cond.fieldLink RX3 18 "OldStadium$Quarry" "to" "[I", Cond.fieldLink RX3 43 "OldStadium$Quarry" "yea\x72" "[I", Cond.methodLink RX3 98 yX3_fits, Cond.instanceMethod yX3_fits, Cond.selects RX3 yX3_fits yX3_fits, Cond.code yX3_fits cX3_fits 4 (some .boolean), Cond.static yX4_hasBit, Cond.initialized RX4, Cond.code yX4_hasBit cX4_hasBit 2 (some .boolean), Cond.methodLink RX3 89 yX3_goTogether, Cond.instanceMethod yX3_goTogether, Cond.selects RX3 yX3_goTogether yX3_goTogether]
def wsX4_rolls_r3 : List Cond := [Cond.code yX3_goTogether cX3_goTogether 4 (some .boolean), Cond.fieldLink RX3 30 "OldStadium$Quarry" "joined" "[I", Cond.methodLink RX3 92 Lib.Math.abs.name, Cond.static Lib.Math.abs.name, Cond.initialized "java/lang/Math", Cond.code Lib.Math.abs.name Lib.Math.abs.code 1 (some .int), Cond.fieldLink RX3 37 "OldStadium$Quarry" "span" "I", Cond.fieldLink RX3 11 "OldStadium$Quarry" "event" "[I"]
def wsX4_rolls : List Cond := .code yX4_rolls cX4_rolls 1 (some .int) :: ((wsX4_rolls_r1 ++ (wsX4_rolls_r2 ++ wsX4_rolls_r3)) ++ wsX40 ++ wsX30)
def wsX4_year_r1 : List Cond := [Cond.fieldLink RX4 33 "OldStadium" "quarry" "LOldStadium$Quarry;", Cond.methodLink RX4 117 yX3_tellYear, Cond.instanceMethod yX3_tellYear, Cond.selects RX3 yX3_tellYear yX3_tellYear, Cond.initialized RX3, Cond.code yX3_tellYear cX3_tellYear 7 (some .int), Cond.fieldLink RX3 15 "OldStadium$Quarry" "from" "[I", Cond.fieldLink RX3 18 "OldStadium$Quarry" "to" "[I", Cond.fieldLink RX3 46 "OldStadium$Quarry" "seen" "[J", Cond.methodLink RX3 74 yX3_isStone, Cond.instanceMethod yX3_isStone, Cond.selects RX3 yX3_isStone yX3_isStone, Cond.code yX3_isStone cX3_isStone 2 (some .boolean), Cond.fieldLink RX3 33 "OldStadium$Quarry" "stones" "I", Cond.methodLink RX3 118 yX3_countRolls, Cond.instanceMethod yX3_countRolls, Cond.selects RX3 yX3_countRolls yX3_countRolls, Cond.code yX3_countRolls cX3_countRolls 1 (some .int), Cond.fieldLink RX3 50 "OldStadium$Quarry" "rolls" "I", Cond.methodLink RX3 109 yX3_findUnlike, Cond.instanceMethod yX3_findUnlike, Cond.selects RX3 yX3_findUnlike yX3_findUnlike, Cond.code yX3_findUnlike cX3_findUnlike 3 none, Cond.fieldLink RX3 40 "OldStadium$Quarry" "unlike" "[I"]
def wsX4_year_r2 : List Cond := [Cond.methodLink RX3 83 yX3_isAgreeing, Cond.instanceMethod yX3_isAgreeing, Cond.selects RX3 yX3_isAgreeing yX3_isAgreeing, Cond.code yX3_isAgreeing cX3_isAgreeing 6 (some .boolean), Cond.fieldLink RX3 27 "OldStadium$Quarry" "town" "[I", Cond.methodLink RX3 77 yX3_letterOf, Cond.instanceMethod yX3_letterOf, Cond.selects RX3 yX3_letterOf yX3_letterOf, Cond.code yX3_letterOf cX3_letterOf 4 (some .int), Cond.fieldLink RX3 21 "OldStadium$Quarry" "firstLetters" "[I", Cond.fieldLink RX3 24 "OldStadium$Quarry" "lastLetters" "[I", Cond.methodLink RX3 70 yX3_letterIn, Cond.static yX3_letterIn, Cond.code yX3_letterIn cX3_letterIn 2 (some .int), Cond.methodLink RX3 112 yJ7_fill_d0a16, Cond.static yJ7_fill_d0a16, Cond.initialized RJ7, Cond.code yJ7_fill_d0a16 cJ7_fill_d0a16 5 none, Cond.methodLink RX3 101 yX3_countFrom, Cond.static yX3_countFrom, Cond.code yX3_countFrom cX3_countFrom 5 (some .int), Cond.fieldLink RX3 43 "OldStadium$Quarry" "yea\x72" "[I", Cond.methodLink RX3 98 yX3_fits, Cond.instanceMethod yX3_fits]
def wsX4_year_r3 : List Cond := [Cond.selects RX3 yX3_fits yX3_fits, Cond.code yX3_fits cX3_fits 4 (some .boolean), Cond.static yX4_hasBit, Cond.initialized RX4, Cond.code yX4_hasBit cX4_hasBit 2 (some .boolean), Cond.methodLink RX3 89 yX3_goTogether, Cond.instanceMethod yX3_goTogether, Cond.selects RX3 yX3_goTogether yX3_goTogether, Cond.code yX3_goTogether cX3_goTogether 4 (some .boolean), Cond.fieldLink RX3 30 "OldStadium$Quarry" "joined" "[I", Cond.methodLink RX3 92 Lib.Math.abs.name, Cond.static Lib.Math.abs.name, Cond.initialized "java/lang/Math", Cond.code Lib.Math.abs.name Lib.Math.abs.code 1 (some .int), Cond.fieldLink RX3 37 "OldStadium$Quarry" "span" "I", Cond.fieldLink RX3 11 "OldStadium$Quarry" "event" "[I"]
def wsX4_year : List Cond := .code yX4_year cX4_year 3 (some .int) :: ((wsX4_year_r1 ++ (wsX4_year_r2 ++ wsX4_year_r3)) ++ wsX40 ++ wsX30)
def wsX4_wrong_r1 : List Cond := [Cond.fieldLink RX4 33 "OldStadium" "quarry" "LOldStadium$Quarry;", Cond.methodLink RX4 120 yX3_fewestWrong, Cond.instanceMethod yX3_fewestWrong, Cond.selects RX3 yX3_fewestWrong yX3_fewestWrong, Cond.initialized RX3, Cond.code yX3_fewestWrong cX3_fewestWrong 1 (some .int), Cond.fieldLink RX3 53 "OldStadium$Quarry" "fewest" "I", Cond.methodLink RX3 109 yX3_findUnlike, Cond.instanceMethod yX3_findUnlike, Cond.selects RX3 yX3_findUnlike yX3_findUnlike, Cond.code yX3_findUnlike cX3_findUnlike 3 none, Cond.fieldLink RX3 33 "OldStadium$Quarry" "stones" "I", Cond.fieldLink RX3 40 "OldStadium$Quarry" "unlike" "[I", Cond.methodLink RX3 83 yX3_isAgreeing, Cond.instanceMethod yX3_isAgreeing, Cond.selects RX3 yX3_isAgreeing yX3_isAgreeing, Cond.code yX3_isAgreeing cX3_isAgreeing 6 (some .boolean), Cond.fieldLink RX3 27 "OldStadium$Quarry" "town" "[I", Cond.methodLink RX3 77 yX3_letterOf, Cond.instanceMethod yX3_letterOf, Cond.selects RX3 yX3_letterOf yX3_letterOf, Cond.code yX3_letterOf cX3_letterOf 4 (some .int), Cond.fieldLink RX3 21 "OldStadium$Quarry" "firstLetters" "[I", Cond.fieldLink RX3 24 "OldStadium$Quarry" "lastLetters" "[I"]
def wsX4_wrong_r2 : List Cond := [Cond.methodLink RX3 70 yX3_letterIn, Cond.static yX3_letterIn, Cond.code yX3_letterIn cX3_letterIn 2 (some .int), Cond.methodLink RX3 122 yX3_findFewest, Cond.instanceMethod yX3_findFewest, Cond.selects RX3 yX3_findFewest yX3_findFewest, Cond.code yX3_findFewest cX3_findFewest 4 (some .int), Cond.methodLink RX3 125 yJ6_bitCount_0f7a4, Cond.static yJ6_bitCount_0f7a4, Cond.initialized RJ6, Cond.code yJ6_bitCount_0f7a4 cJ6_bitCount_0f7a4 1 (some .int), Cond.constant RJ6 265 (1431655765), Cond.constant RJ6 266 (858993459), Cond.constant RJ6 267 (252645135), Cond.methodLink RX3 105 yX3_isRollFrom, Cond.static yX3_isRollFrom, Cond.code yX3_isRollFrom cX3_isRollFrom 4 (some .boolean), Cond.fieldLink RX3 15 "OldStadium$Quarry" "from" "[I", Cond.fieldLink RX3 18 "OldStadium$Quarry" "to" "[I", Cond.fieldLink RX3 43 "OldStadium$Quarry" "yea\x72" "[I", Cond.static yX4_hasBit, Cond.initialized RX4, Cond.code yX4_hasBit cX4_hasBit 2 (some .boolean), Cond.methodLink RX3 98 yX3_fits]
def wsX4_wrong_r3 : List Cond := [Cond.instanceMethod yX3_fits, Cond.selects RX3 yX3_fits yX3_fits, Cond.code yX3_fits cX3_fits 4 (some .boolean), Cond.methodLink RX3 89 yX3_goTogether, Cond.instanceMethod yX3_goTogether, Cond.selects RX3 yX3_goTogether yX3_goTogether, Cond.code yX3_goTogether cX3_goTogether 4 (some .boolean), Cond.fieldLink RX3 30 "OldStadium$Quarry" "joined" "[I", Cond.methodLink RX3 92 Lib.Math.abs.name, Cond.static Lib.Math.abs.name, Cond.initialized "java/lang/Math", Cond.code Lib.Math.abs.name Lib.Math.abs.code 1 (some .int), Cond.fieldLink RX3 37 "OldStadium$Quarry" "span" "I", Cond.fieldLink RX3 11 "OldStadium$Quarry" "event" "[I"]
def wsX4_wrong : List Cond := .code yX4_wrong cX4_wrong 1 (some .int) :: ((wsX4_wrong_r1 ++ (wsX4_wrong_r2 ++ wsX4_wrong_r3)) ++ wsX40 ++ wsX30)
def wsX4_letter : List Cond := .code yX4_letter cX4_letter 3 (some .int) :: ([.fieldLink RX4 33 "OldStadium" "quarry" "LOldStadium$Quarry;", .methodLink RX4 123 yX3_tellLetter, .instanceMethod yX3_tellLetter, .selects RX3 yX3_tellLetter yX3_tellLetter, .initialized RX3, .code yX3_tellLetter cX3_tellLetter 3 (some .int), .methodLink RX3 74 yX3_isStone, .instanceMethod yX3_isStone, .selects RX3 yX3_isStone yX3_isStone, .code yX3_isStone cX3_isStone 2 (some .boolean), .fieldLink RX3 33 "OldStadium$Quarry" "stones" "I", .methodLink RX3 77 yX3_letterOf, .instanceMethod yX3_letterOf, .selects RX3 yX3_letterOf yX3_letterOf, .code yX3_letterOf cX3_letterOf 4 (some .int), .fieldLink RX3 21 "OldStadium$Quarry" "firstLetters" "[I", .fieldLink RX3 24 "OldStadium$Quarry" "lastLetters" "[I", .methodLink RX3 70 yX3_letterIn, .static yX3_letterIn, .code yX3_letterIn cX3_letterIn 2 (some .int)] ++ wsX40 ++ wsX30)
def wsX5_init_r1 : List Cond := [Cond.methodLink RX5 1 objectInit, Cond.instanceMethod objectInit, Cond.code objectInit ⟨#[0xb1]⟩ 1 none, Cond.arrayClass .int, Cond.fieldLink RX5 9 "OldStadiumModel" "town" "[I", Cond.fieldLink RX5 13 "OldStadiumModel" "judgeTown" "[I", Cond.fieldLink RX5 16 "OldStadiumModel" "row" "[I", Cond.fieldLink RX5 19 "OldStadiumModel" "bye" "I", Cond.arrayClass .boolean, Cond.fieldLink RX5 23 "OldStadiumModel" "hadBye" "[Z", Cond.fieldLink RX5 27 "OldStadiumModel" "won" "[I", Cond.fieldLink RX5 30 "OldStadiumModel" "votes" "[I", Cond.fieldLink RX5 33 "OldStadiumModel" "victo\x72" "I", Cond.fieldLink RX5 36 "OldStadiumModel" "wins" "[I", Cond.fieldLink RX5 39 "OldStadiumModel" "sums" "[I", Cond.fieldLink RX5 42 "OldStadiumModel" "state" "[I", Cond.fieldLink RX5 45 "OldStadiumModel" "lane" "[I", Cond.fieldLink RX5 48 "OldStadiumModel" "cell" "[I", Cond.fieldLink RX5 51 "OldStadiumModel" "done" "[I", Cond.fieldLink RX5 54 "OldStadiumModel" "when" "[I", Cond.fieldLink RX5 57 "OldStadiumModel" "place" "[I", Cond.fieldLink RX5 60 "OldStadiumModel" "delay" "[I", Cond.fieldLink RX5 63 "OldStadiumModel" "actMany" "[I", Cond.fieldLink RX5 66 "OldStadiumModel" "forward" "[I"]
def wsX5_init_r2 : List Cond := [Cond.fieldLink RX5 69 "OldStadiumModel" "side" "[I", Cond.fieldLink RX5 72 "OldStadiumModel" "event" "[I", Cond.fieldLink RX5 75 "OldStadiumModel" "from" "[I", Cond.fieldLink RX5 78 "OldStadiumModel" "to" "[I", Cond.fieldLink RX5 81 "OldStadiumModel" "letters" "[I", Cond.fieldLink RX5 84 "OldStadiumModel" "stoneTown" "[I", Cond.fieldLink RX5 87 "OldStadiumModel" "joined" "[Z", Cond.fieldLink RX5 90 "OldStadiumModel" "span" "I", Cond.fieldLink RX5 93 "OldStadiumModel" "stays" "[Z"]
def wsX5_init : List Cond := .code yX5_init cX5_init 1 none :: ((wsX5_init_r1 ++ wsX5_init_r2) ++ wsX50)
def wsX5_in : List Cond := .code yX5_in cX5_in 3 (some .boolean) :: ([])
def wsX5_runner : List Cond := .code yX5_runner cX5_runner 2 (some .int) :: ([.fieldLink RX5 100 "OldStadiumModel" "runners" "I", .fieldLink RX5 9 "OldStadiumModel" "town" "[I", .methodLink RX5 96 yX5_in, .static yX5_in, .initialized RX5, .code yX5_in cX5_in 3 (some .boolean)] ++ wsX50)
def wsX5_judge : List Cond := .code yX5_judge cX5_judge 2 (some .int) :: ([.fieldLink RX5 103 "OldStadiumModel" "judges" "I", .fieldLink RX5 13 "OldStadiumModel" "judgeTown" "[I", .methodLink RX5 96 yX5_in, .static yX5_in, .initialized RX5, .code yX5_in cX5_in 3 (some .boolean)] ++ wsX50)
def wsX5_heats : List Cond := .code yX5_heats cX5_heats 2 (some .int) :: ([.fieldLink RX5 106 "OldStadiumModel" "many" "I", .fieldLink RX5 19 "OldStadiumModel" "bye" "I", .fieldLink RX5 109 "OldStadiumModel" "size" "I"] ++ wsX50)
def wsX5_mix : List Cond := .code yX5_mix cX5_mix 4 none :: ([.fieldLink RX5 106 "OldStadiumModel" "many" "I", .fieldLink RX5 112 "OldStadiumModel" "\x72" "I", .constant RX5 115 (1103515245), .fieldLink RX5 16 "OldStadiumModel" "row" "[I", .fieldLink RX5 19 "OldStadiumModel" "bye" "I", .fieldLink RX5 109 "OldStadiumModel" "size" "I", .fieldLink RX5 23 "OldStadiumModel" "hadBye" "[Z", .fieldLink RX5 27 "OldStadiumModel" "won" "[I", .fieldLink RX5 30 "OldStadiumModel" "votes" "[I"] ++ wsX50)
def wsX5_contest_r1 : List Cond := [Cond.fieldLink RX5 100 "OldStadiumModel" "runners" "I", Cond.fieldLink RX5 116 "OldStadiumModel" "goes" "Z", Cond.fieldLink RX5 109 "OldStadiumModel" "size" "I", Cond.fieldLink RX5 112 "OldStadiumModel" "\x72" "I", Cond.fieldLink RX5 120 "OldStadiumModel" "round" "I", Cond.fieldLink RX5 33 "OldStadiumModel" "victo\x72" "I", Cond.fieldLink RX5 106 "OldStadiumModel" "many" "I", Cond.fieldLink RX5 16 "OldStadiumModel" "row" "[I", Cond.fieldLink RX5 23 "OldStadiumModel" "hadBye" "[Z", Cond.methodLink RX5 96 yX5_in, Cond.static yX5_in, Cond.initialized RX5, Cond.code yX5_in cX5_in 3 (some .boolean), Cond.methodLink RX5 123 yX5_mix, Cond.instanceMethod yX5_mix, Cond.selects RX5 yX5_mix yX5_mix, Cond.code yX5_mix cX5_mix 4 none, Cond.constant RX5 115 (1103515245), Cond.fieldLink RX5 19 "OldStadiumModel" "bye" "I", Cond.fieldLink RX5 27 "OldStadiumModel" "won" "[I", Cond.fieldLink RX5 30 "OldStadiumModel" "votes" "[I", Cond.methodLink RX5 126 yX5_heats, Cond.instanceMethod yX5_heats, Cond.selects RX5 yX5_heats yX5_heats]
def wsX5_contest_r2 : List Cond := [Cond.code yX5_heats cX5_heats 2 (some .int)]
def wsX5_contest : List Cond := .code yX5_contest cX5_contest 5 (some .int) :: ((wsX5_contest_r1 ++ wsX5_contest_r2) ++ wsX50)
def wsX5_inHeat : List Cond := .code yX5_inHeat cX5_inHeat 3 (some .int) :: ([.fieldLink RX5 106 "OldStadiumModel" "many" "I", .fieldLink RX5 19 "OldStadiumModel" "bye" "I", .fieldLink RX5 109 "OldStadiumModel" "size" "I"] ++ wsX50)
def wsX5_isHeat : List Cond := .code yX5_isHeat cX5_isHeat 2 (some .boolean) :: ([.fieldLink RX5 120 "OldStadiumModel" "round" "I", .methodLink RX5 126 yX5_heats, .instanceMethod yX5_heats, .selects RX5 yX5_heats yX5_heats, .initialized RX5, .code yX5_heats cX5_heats 2 (some .int), .fieldLink RX5 106 "OldStadiumModel" "many" "I", .fieldLink RX5 19 "OldStadiumModel" "bye" "I", .fieldLink RX5 109 "OldStadiumModel" "size" "I", .methodLink RX5 96 yX5_in, .static yX5_in, .code yX5_in cX5_in 3 (some .boolean)] ++ wsX50)
def wsX5_heat : List Cond := .code yX5_heat cX5_heat 3 (some .int) :: ([.fieldLink RX5 116 "OldStadiumModel" "goes" "Z", .fieldLink RX5 106 "OldStadiumModel" "many" "I", .fieldLink RX5 16 "OldStadiumModel" "row" "[I", .fieldLink RX5 19 "OldStadiumModel" "bye" "I", .fieldLink RX5 109 "OldStadiumModel" "size" "I"] ++ wsX50)
def wsX5_lane : List Cond := .code yX5_lane cX5_lane 3 (some .int) :: ([.fieldLink RX5 16 "OldStadiumModel" "row" "[I", .fieldLink RX5 109 "OldStadiumModel" "size" "I", .methodLink RX5 130 yX5_isHeat, .instanceMethod yX5_isHeat, .selects RX5 yX5_isHeat yX5_isHeat, .initialized RX5, .code yX5_isHeat cX5_isHeat 2 (some .boolean), .fieldLink RX5 120 "OldStadiumModel" "round" "I", .methodLink RX5 126 yX5_heats, .instanceMethod yX5_heats, .selects RX5 yX5_heats yX5_heats, .code yX5_heats cX5_heats 2 (some .int), .fieldLink RX5 106 "OldStadiumModel" "many" "I", .fieldLink RX5 19 "OldStadiumModel" "bye" "I", .methodLink RX5 96 yX5_in, .static yX5_in, .code yX5_in cX5_in 3 (some .boolean), .methodLink RX5 134 yX5_inHeat, .instanceMethod yX5_inHeat, .selects RX5 yX5_inHeat yX5_inHeat, .code yX5_inHeat cX5_inHeat 3 (some .int)] ++ wsX50)
def wsX5_open : List Cond := .code yX5_open cX5_open 3 (some .int) :: ([.fieldLink RX5 27 "OldStadiumModel" "won" "[I", .methodLink RX5 126 yX5_heats, .instanceMethod yX5_heats, .selects RX5 yX5_heats yX5_heats, .initialized RX5, .code yX5_heats cX5_heats 2 (some .int), .fieldLink RX5 106 "OldStadiumModel" "many" "I", .fieldLink RX5 19 "OldStadiumModel" "bye" "I", .fieldLink RX5 109 "OldStadiumModel" "size" "I"] ++ wsX50)
def wsX5_count : List Cond := .code yX5_count cX5_count 2 (some .int) :: ([.fieldLink RX5 100 "OldStadiumModel" "runners" "I", .fieldLink RX5 103 "OldStadiumModel" "judges" "I", .fieldLink RX5 120 "OldStadiumModel" "round" "I", .fieldLink RX5 19 "OldStadiumModel" "bye" "I", .fieldLink RX5 33 "OldStadiumModel" "victo\x72" "I", .fieldLink RX5 112 "OldStadiumModel" "\x72" "I", .methodLink RX5 126 yX5_heats, .instanceMethod yX5_heats, .selects RX5 yX5_heats yX5_heats, .initialized RX5, .code yX5_heats cX5_heats 2 (some .int), .fieldLink RX5 106 "OldStadiumModel" "many" "I", .fieldLink RX5 109 "OldStadiumModel" "size" "I", .methodLink RX5 138 yX5_open, .instanceMethod yX5_open, .selects RX5 yX5_open yX5_open, .code yX5_open cX5_open 3 (some .int), .fieldLink RX5 27 "OldStadiumModel" "won" "[I"] ++ wsX50)
def wsX5_isIn : List Cond := .code yX5_isIn cX5_isIn 4 (some .boolean) :: ([.fieldLink RX5 116 "OldStadiumModel" "goes" "Z", .fieldLink RX5 16 "OldStadiumModel" "row" "[I", .fieldLink RX5 109 "OldStadiumModel" "size" "I", .methodLink RX5 130 yX5_isHeat, .instanceMethod yX5_isHeat, .selects RX5 yX5_isHeat yX5_isHeat, .initialized RX5, .code yX5_isHeat cX5_isHeat 2 (some .boolean), .fieldLink RX5 120 "OldStadiumModel" "round" "I", .methodLink RX5 126 yX5_heats, .instanceMethod yX5_heats, .selects RX5 yX5_heats yX5_heats, .code yX5_heats cX5_heats 2 (some .int), .fieldLink RX5 106 "OldStadiumModel" "many" "I", .fieldLink RX5 19 "OldStadiumModel" "bye" "I", .methodLink RX5 96 yX5_in, .static yX5_in, .code yX5_in cX5_in 3 (some .boolean), .methodLink RX5 134 yX5_inHeat, .instanceMethod yX5_inHeat, .selects RX5 yX5_inHeat yX5_inHeat, .code yX5_inHeat cX5_inHeat 3 (some .int)] ++ wsX50)
def wsX5_winner_r1 : List Cond := [Cond.fieldLink RX5 27 "OldStadiumModel" "won" "[I", Cond.methodLink RX5 141 yX5_isIn, Cond.instanceMethod yX5_isIn, Cond.selects RX5 yX5_isIn yX5_isIn, Cond.initialized RX5, Cond.code yX5_isIn cX5_isIn 4 (some .boolean), Cond.fieldLink RX5 116 "OldStadiumModel" "goes" "Z", Cond.fieldLink RX5 16 "OldStadiumModel" "row" "[I", Cond.fieldLink RX5 109 "OldStadiumModel" "size" "I", Cond.methodLink RX5 130 yX5_isHeat, Cond.instanceMethod yX5_isHeat, Cond.selects RX5 yX5_isHeat yX5_isHeat, Cond.code yX5_isHeat cX5_isHeat 2 (some .boolean), Cond.fieldLink RX5 120 "OldStadiumModel" "round" "I", Cond.methodLink RX5 126 yX5_heats, Cond.instanceMethod yX5_heats, Cond.selects RX5 yX5_heats yX5_heats, Cond.code yX5_heats cX5_heats 2 (some .int), Cond.fieldLink RX5 106 "OldStadiumModel" "many" "I", Cond.fieldLink RX5 19 "OldStadiumModel" "bye" "I", Cond.methodLink RX5 96 yX5_in, Cond.static yX5_in, Cond.code yX5_in cX5_in 3 (some .boolean), Cond.methodLink RX5 134 yX5_inHeat]
def wsX5_winner_r2 : List Cond := [Cond.instanceMethod yX5_inHeat, Cond.selects RX5 yX5_inHeat yX5_inHeat, Cond.code yX5_inHeat cX5_inHeat 3 (some .int)]
def wsX5_winner : List Cond := .code yX5_winner cX5_winner 3 (some .boolean) :: ((wsX5_winner_r1 ++ wsX5_winner_r2) ++ wsX50)
def wsX5_vote_r1 : List Cond := [Cond.fieldLink RX5 103 "OldStadiumModel" "judges" "I", Cond.fieldLink RX5 30 "OldStadiumModel" "votes" "[I", Cond.methodLink RX5 96 yX5_in, Cond.static yX5_in, Cond.initialized RX5, Cond.code yX5_in cX5_in 3 (some .boolean), Cond.methodLink RX5 141 yX5_isIn, Cond.instanceMethod yX5_isIn, Cond.selects RX5 yX5_isIn yX5_isIn, Cond.code yX5_isIn cX5_isIn 4 (some .boolean), Cond.fieldLink RX5 116 "OldStadiumModel" "goes" "Z", Cond.fieldLink RX5 16 "OldStadiumModel" "row" "[I", Cond.fieldLink RX5 109 "OldStadiumModel" "size" "I", Cond.methodLink RX5 130 yX5_isHeat, Cond.instanceMethod yX5_isHeat, Cond.selects RX5 yX5_isHeat yX5_isHeat, Cond.code yX5_isHeat cX5_isHeat 2 (some .boolean), Cond.fieldLink RX5 120 "OldStadiumModel" "round" "I", Cond.methodLink RX5 126 yX5_heats, Cond.instanceMethod yX5_heats, Cond.selects RX5 yX5_heats yX5_heats, Cond.code yX5_heats cX5_heats 2 (some .int), Cond.fieldLink RX5 106 "OldStadiumModel" "many" "I", Cond.fieldLink RX5 19 "OldStadiumModel" "bye" "I"]
def wsX5_vote_r2 : List Cond := [Cond.methodLink RX5 134 yX5_inHeat, Cond.instanceMethod yX5_inHeat, Cond.selects RX5 yX5_inHeat yX5_inHeat, Cond.code yX5_inHeat cX5_inHeat 3 (some .int)]
def wsX5_vote : List Cond := .code yX5_vote cX5_vote 4 (some .boolean) :: ((wsX5_vote_r1 ++ wsX5_vote_r2) ++ wsX50)
def wsX5_counts : List Cond := .code yX5_counts cX5_counts 4 (some .boolean) :: ([.fieldLink RX5 9 "OldStadiumModel" "town" "[I", .fieldLink RX5 16 "OldStadiumModel" "row" "[I", .fieldLink RX5 109 "OldStadiumModel" "size" "I", .fieldLink RX5 13 "OldStadiumModel" "judgeTown" "[I", .fieldLink RX5 30 "OldStadiumModel" "votes" "[I", .methodLink RX5 134 yX5_inHeat, .instanceMethod yX5_inHeat, .selects RX5 yX5_inHeat yX5_inHeat, .initialized RX5, .code yX5_inHeat cX5_inHeat 3 (some .int), .fieldLink RX5 106 "OldStadiumModel" "many" "I", .fieldLink RX5 19 "OldStadiumModel" "bye" "I"] ++ wsX50)
def wsX5_decide_r1 : List Cond := [Cond.fieldLink RX5 116 "OldStadiumModel" "goes" "Z", Cond.fieldLink RX5 103 "OldStadiumModel" "judges" "I", Cond.fieldLink RX5 16 "OldStadiumModel" "row" "[I", Cond.fieldLink RX5 109 "OldStadiumModel" "size" "I", Cond.fieldLink RX5 30 "OldStadiumModel" "votes" "[I", Cond.fieldLink RX5 27 "OldStadiumModel" "won" "[I", Cond.methodLink RX5 130 yX5_isHeat, Cond.instanceMethod yX5_isHeat, Cond.selects RX5 yX5_isHeat yX5_isHeat, Cond.initialized RX5, Cond.code yX5_isHeat cX5_isHeat 2 (some .boolean), Cond.fieldLink RX5 120 "OldStadiumModel" "round" "I", Cond.methodLink RX5 126 yX5_heats, Cond.instanceMethod yX5_heats, Cond.selects RX5 yX5_heats yX5_heats, Cond.code yX5_heats cX5_heats 2 (some .int), Cond.fieldLink RX5 106 "OldStadiumModel" "many" "I", Cond.fieldLink RX5 19 "OldStadiumModel" "bye" "I", Cond.methodLink RX5 96 yX5_in, Cond.static yX5_in, Cond.code yX5_in cX5_in 3 (some .boolean), Cond.methodLink RX5 145 yX5_counts, Cond.instanceMethod yX5_counts, Cond.selects RX5 yX5_counts yX5_counts]
def wsX5_decide_r2 : List Cond := [Cond.code yX5_counts cX5_counts 4 (some .boolean), Cond.fieldLink RX5 9 "OldStadiumModel" "town" "[I", Cond.fieldLink RX5 13 "OldStadiumModel" "judgeTown" "[I", Cond.methodLink RX5 134 yX5_inHeat, Cond.instanceMethod yX5_inHeat, Cond.selects RX5 yX5_inHeat yX5_inHeat, Cond.code yX5_inHeat cX5_inHeat 3 (some .int)]
def wsX5_decide : List Cond := .code yX5_decide cX5_decide 7 (some .int) :: ((wsX5_decide_r1 ++ wsX5_decide_r2) ++ wsX50)
def wsX5_next_r1 : List Cond := [Cond.fieldLink RX5 116 "OldStadiumModel" "goes" "Z", Cond.fieldLink RX5 19 "OldStadiumModel" "bye" "I", Cond.fieldLink RX5 27 "OldStadiumModel" "won" "[I", Cond.fieldLink RX5 33 "OldStadiumModel" "victo\x72" "I", Cond.fieldLink RX5 93 "OldStadiumModel" "stays" "[Z", Cond.fieldLink RX5 16 "OldStadiumModel" "row" "[I", Cond.fieldLink RX5 106 "OldStadiumModel" "many" "I", Cond.fieldLink RX5 120 "OldStadiumModel" "round" "I", Cond.methodLink RX5 138 yX5_open, Cond.instanceMethod yX5_open, Cond.selects RX5 yX5_open yX5_open, Cond.initialized RX5, Cond.code yX5_open cX5_open 3 (some .int), Cond.methodLink RX5 126 yX5_heats, Cond.instanceMethod yX5_heats, Cond.selects RX5 yX5_heats yX5_heats, Cond.code yX5_heats cX5_heats 2 (some .int), Cond.fieldLink RX5 109 "OldStadiumModel" "size" "I", Cond.methodLink RX5 123 yX5_mix, Cond.instanceMethod yX5_mix, Cond.selects RX5 yX5_mix yX5_mix, Cond.code yX5_mix cX5_mix 4 none, Cond.fieldLink RX5 112 "OldStadiumModel" "\x72" "I", Cond.constant RX5 115 (1103515245)]
def wsX5_next_r2 : List Cond := [Cond.fieldLink RX5 23 "OldStadiumModel" "hadBye" "[Z", Cond.fieldLink RX5 30 "OldStadiumModel" "votes" "[I"]
def wsX5_next : List Cond := .code yX5_next cX5_next 6 (some .int) :: ((wsX5_next_r1 ++ wsX5_next_r2) ++ wsX50)
def wsX5_five : List Cond := .code yX5_five cX5_five 3 (some .boolean) :: ([.fieldLink RX5 148 "OldStadiumModel" "athletes" "I", .fieldLink RX5 151 "OldStadiumModel" "events" "I", .fieldLink RX5 36 "OldStadiumModel" "wins" "[I", .fieldLink RX5 39 "OldStadiumModel" "sums" "[I", .methodLink RX5 96 yX5_in, .static yX5_in, .initialized RX5, .code yX5_in cX5_in 3 (some .boolean)] ++ wsX50)
def wsX5_won : List Cond := .code yX5_won cX5_won 3 (some .int) :: ([.fieldLink RX5 148 "OldStadiumModel" "athletes" "I", .fieldLink RX5 36 "OldStadiumModel" "wins" "[I", .fieldLink RX5 39 "OldStadiumModel" "sums" "[I", .fieldLink RX5 151 "OldStadiumModel" "events" "I"] ++ wsX50)
def wsX5_event : List Cond := .code yX5_event cX5_event 6 (some .int) :: ([.fieldLink RX5 148 "OldStadiumModel" "athletes" "I", .fieldLink RX5 36 "OldStadiumModel" "wins" "[I", .fieldLink RX5 39 "OldStadiumModel" "sums" "[I", .fieldLink RX5 151 "OldStadiumModel" "events" "I", .methodLink RX5 154 yX5_won, .instanceMethod yX5_won, .selects RX5 yX5_won yX5_won, .initialized RX5, .code yX5_won cX5_won 3 (some .int)] ++ wsX50)
def wsX5_can : List Cond := .code yX5_can cX5_can 8 (some .boolean) :: ([.fieldLink RX5 151 "OldStadiumModel" "events" "I", .fieldLink RX5 36 "OldStadiumModel" "wins" "[I", .fieldLink RX5 148 "OldStadiumModel" "athletes" "I", .fieldLink RX5 39 "OldStadiumModel" "sums" "[I", .methodLink RX5 154 yX5_won, .instanceMethod yX5_won, .selects RX5 yX5_won yX5_won, .initialized RX5, .code yX5_won cX5_won 3 (some .int)] ++ wsX50)
def wsX5_athlete : List Cond := .code yX5_athlete cX5_athlete 3 (some .int) :: ([.fieldLink RX5 148 "OldStadiumModel" "athletes" "I", .fieldLink RX5 36 "OldStadiumModel" "wins" "[I", .fieldLink RX5 39 "OldStadiumModel" "sums" "[I", .methodLink RX5 96 yX5_in, .static yX5_in, .initialized RX5, .code yX5_in cX5_in 3 (some .boolean), .methodLink RX5 156 yX5_can, .instanceMethod yX5_can, .selects RX5 yX5_can yX5_can, .code yX5_can cX5_can 8 (some .boolean), .fieldLink RX5 151 "OldStadiumModel" "events" "I", .methodLink RX5 154 yX5_won, .instanceMethod yX5_won, .selects RX5 yX5_won yX5_won, .code yX5_won cX5_won 3 (some .int)] ++ wsX50)
def wsX5_track : List Cond := .code yX5_track cX5_track 4 (some .boolean) :: ([.fieldLink RX5 159 "OldStadiumModel" "lanes" "I", .fieldLink RX5 162 "OldStadiumModel" "cells" "I", .fieldLink RX5 165 "OldStadiumModel" "laps" "I", .fieldLink RX5 168 "OldStadiumModel" "tick" "I", .fieldLink RX5 171 "OldStadiumModel" "chariots" "I", .fieldLink RX5 174 "OldStadiumModel" "home" "I", .methodLink RX5 96 yX5_in, .static yX5_in, .initialized RX5, .code yX5_in cX5_in 3 (some .boolean)] ++ wsX50)
def wsX5_chariot : List Cond := .code yX5_chariot cX5_chariot 4 (some .int) :: ([.fieldLink RX5 159 "OldStadiumModel" "lanes" "I", .fieldLink RX5 171 "OldStadiumModel" "chariots" "I", .fieldLink RX5 168 "OldStadiumModel" "tick" "I", .fieldLink RX5 45 "OldStadiumModel" "lane" "[I", .fieldLink RX5 42 "OldStadiumModel" "state" "[I", .fieldLink RX5 48 "OldStadiumModel" "cell" "[I", .fieldLink RX5 51 "OldStadiumModel" "done" "[I", .fieldLink RX5 54 "OldStadiumModel" "when" "[I", .fieldLink RX5 57 "OldStadiumModel" "place" "[I", .fieldLink RX5 60 "OldStadiumModel" "delay" "[I", .fieldLink RX5 63 "OldStadiumModel" "actMany" "[I", .methodLink RX5 96 yX5_in, .static yX5_in, .initialized RX5, .code yX5_in cX5_in 3 (some .boolean)] ++ wsX50)
def wsX5_drive : List Cond := .code yX5_drive cX5_drive 4 (some .int) :: ([.fieldLink RX5 171 "OldStadiumModel" "chariots" "I", .fieldLink RX5 63 "OldStadiumModel" "actMany" "[I", .fieldLink RX5 168 "OldStadiumModel" "tick" "I", .fieldLink RX5 66 "OldStadiumModel" "forward" "[I", .fieldLink RX5 69 "OldStadiumModel" "side" "[I", .methodLink RX5 96 yX5_in, .static yX5_in, .initialized RX5, .code yX5_in cX5_in 3 (some .boolean)] ++ wsX50)
def wsX5_crash : List Cond := .code yX5_crash cX5_crash 4 none :: ([.fieldLink RX5 171 "OldStadiumModel" "chariots" "I", .fieldLink RX5 42 "OldStadiumModel" "state" "[I", .fieldLink RX5 45 "OldStadiumModel" "lane" "[I", .fieldLink RX5 48 "OldStadiumModel" "cell" "[I", .fieldLink RX5 54 "OldStadiumModel" "when" "[I", .fieldLink RX5 168 "OldStadiumModel" "tick" "I"] ++ wsX50)
def wsX5_actOf : List Cond := .code yX5_actOf cX5_actOf 2 (some .int) :: ([.fieldLink RX5 63 "OldStadiumModel" "actMany" "[I", .fieldLink RX5 168 "OldStadiumModel" "tick" "I", .fieldLink RX5 60 "OldStadiumModel" "delay" "[I"] ++ wsX50)
def wsX5_step : List Cond := .code yX5_step cX5_step 4 none :: ([.fieldLink RX5 171 "OldStadiumModel" "chariots" "I", .fieldLink RX5 42 "OldStadiumModel" "state" "[I", .fieldLink RX5 66 "OldStadiumModel" "forward" "[I", .fieldLink RX5 48 "OldStadiumModel" "cell" "[I", .fieldLink RX5 162 "OldStadiumModel" "cells" "I", .fieldLink RX5 51 "OldStadiumModel" "done" "[I", .fieldLink RX5 159 "OldStadiumModel" "lanes" "I", .fieldLink RX5 45 "OldStadiumModel" "lane" "[I", .fieldLink RX5 165 "OldStadiumModel" "laps" "I", .fieldLink RX5 54 "OldStadiumModel" "when" "[I", .fieldLink RX5 168 "OldStadiumModel" "tick" "I", .fieldLink RX5 174 "OldStadiumModel" "home" "I", .fieldLink RX5 57 "OldStadiumModel" "place" "[I", .methodLink RX5 177 yX5_actOf, .instanceMethod yX5_actOf, .selects RX5 yX5_actOf yX5_actOf, .initialized RX5, .code yX5_actOf cX5_actOf 2 (some .int), .fieldLink RX5 63 "OldStadiumModel" "actMany" "[I", .fieldLink RX5 60 "OldStadiumModel" "delay" "[I", .methodLink RX5 180 yX5_crash, .instanceMethod yX5_crash, .selects RX5 yX5_crash yX5_crash, .code yX5_crash cX5_crash 4 none] ++ wsX50)
def wsX5_run_r1 : List Cond := [Cond.fieldLink RX5 159 "OldStadiumModel" "lanes" "I", Cond.fieldLink RX5 168 "OldStadiumModel" "tick" "I", Cond.fieldLink RX5 171 "OldStadiumModel" "chariots" "I", Cond.fieldLink RX5 42 "OldStadiumModel" "state" "[I", Cond.fieldLink RX5 60 "OldStadiumModel" "delay" "[I", Cond.fieldLink RX5 45 "OldStadiumModel" "lane" "[I", Cond.fieldLink RX5 69 "OldStadiumModel" "side" "[I", Cond.methodLink RX5 96 yX5_in, Cond.static yX5_in, Cond.initialized RX5, Cond.code yX5_in cX5_in 3 (some .boolean), Cond.methodLink RX5 180 yX5_crash, Cond.instanceMethod yX5_crash, Cond.selects RX5 yX5_crash yX5_crash, Cond.code yX5_crash cX5_crash 4 none, Cond.fieldLink RX5 48 "OldStadiumModel" "cell" "[I", Cond.fieldLink RX5 54 "OldStadiumModel" "when" "[I", Cond.methodLink RX5 183 yX5_step, Cond.instanceMethod yX5_step, Cond.selects RX5 yX5_step yX5_step, Cond.code yX5_step cX5_step 4 none, Cond.fieldLink RX5 66 "OldStadiumModel" "forward" "[I", Cond.fieldLink RX5 162 "OldStadiumModel" "cells" "I", Cond.fieldLink RX5 51 "OldStadiumModel" "done" "[I"]
def wsX5_run_r2 : List Cond := [Cond.fieldLink RX5 165 "OldStadiumModel" "laps" "I", Cond.fieldLink RX5 174 "OldStadiumModel" "home" "I", Cond.fieldLink RX5 57 "OldStadiumModel" "place" "[I", Cond.methodLink RX5 177 yX5_actOf, Cond.instanceMethod yX5_actOf, Cond.selects RX5 yX5_actOf yX5_actOf, Cond.code yX5_actOf cX5_actOf 2 (some .int), Cond.fieldLink RX5 63 "OldStadiumModel" "actMany" "[I"]
def wsX5_run : List Cond := .code yX5_run cX5_run 5 (some .int) :: ((wsX5_run_r1 ++ wsX5_run_r2) ++ wsX50)
def wsX5_at : List Cond := .code yX5_at cX5_at 3 (some .int) :: ([.fieldLink RX5 171 "OldStadiumModel" "chariots" "I", .fieldLink RX5 42 "OldStadiumModel" "state" "[I", .fieldLink RX5 45 "OldStadiumModel" "lane" "[I", .fieldLink RX5 48 "OldStadiumModel" "cell" "[I", .fieldLink RX5 51 "OldStadiumModel" "done" "[I", .fieldLink RX5 54 "OldStadiumModel" "when" "[I", .fieldLink RX5 57 "OldStadiumModel" "place" "[I", .methodLink RX5 96 yX5_in, .static yX5_in, .initialized RX5, .code yX5_in cX5_in 3 (some .boolean)] ++ wsX50)
def wsX5_stone : List Cond := .code yX5_stone cX5_stone 8 (some .int) :: ([.fieldLink RX5 187 "OldStadiumModel" "stones" "I", .fieldLink RX5 81 "OldStadiumModel" "letters" "[I", .fieldLink RX5 72 "OldStadiumModel" "event" "[I", .fieldLink RX5 75 "OldStadiumModel" "from" "[I", .fieldLink RX5 78 "OldStadiumModel" "to" "[I", .fieldLink RX5 84 "OldStadiumModel" "stoneTown" "[I", .fieldLink RX5 87 "OldStadiumModel" "joined" "[Z", .methodLink RX5 96 yX5_in, .static yX5_in, .initialized RX5, .code yX5_in cX5_in 3 (some .boolean)] ++ wsX50)
def wsX5_isStone : List Cond := .code yX5_isStone cX5_isStone 2 (some .boolean) :: ([.fieldLink RX5 187 "OldStadiumModel" "stones" "I", .methodLink RX5 96 yX5_in, .static yX5_in, .initialized RX5, .code yX5_in cX5_in 3 (some .boolean)] ++ wsX50)
def wsX5_join : List Cond := .code yX5_join cX5_join 4 (some .boolean) :: ([.fieldLink RX5 87 "OldStadiumModel" "joined" "[Z", .methodLink RX5 190 yX5_isStone, .instanceMethod yX5_isStone, .selects RX5 yX5_isStone yX5_isStone, .initialized RX5, .code yX5_isStone cX5_isStone 2 (some .boolean), .fieldLink RX5 187 "OldStadiumModel" "stones" "I", .methodLink RX5 96 yX5_in, .static yX5_in, .code yX5_in cX5_in 3 (some .boolean)] ++ wsX50)
def wsX5_span : List Cond := .code yX5_span cX5_span 3 (some .int) :: ([.fieldLink RX5 90 "OldStadiumModel" "span" "I", .methodLink RX5 96 yX5_in, .static yX5_in, .initialized RX5, .code yX5_in cX5_in 3 (some .boolean)] ++ wsX50)
def wsX5_lose : List Cond := .code yX5_lose cX5_lose 4 (some .int) :: ([.fieldLink RX5 187 "OldStadiumModel" "stones" "I", .fieldLink RX5 72 "OldStadiumModel" "event" "[I", .fieldLink RX5 75 "OldStadiumModel" "from" "[I", .fieldLink RX5 78 "OldStadiumModel" "to" "[I", .fieldLink RX5 84 "OldStadiumModel" "stoneTown" "[I", .fieldLink RX5 81 "OldStadiumModel" "letters" "[I", .fieldLink RX5 87 "OldStadiumModel" "joined" "[Z", .methodLink RX5 190 yX5_isStone, .instanceMethod yX5_isStone, .selects RX5 yX5_isStone yX5_isStone, .initialized RX5, .code yX5_isStone cX5_isStone 2 (some .boolean), .methodLink RX5 96 yX5_in, .static yX5_in, .code yX5_in cX5_in 3 (some .boolean)] ++ wsX50)
def wsX5_doAgree : List Cond := .code yX5_doAgree cX5_doAgree 6 (some .boolean) :: ([.fieldLink RX5 81 "OldStadiumModel" "letters" "[I", .fieldLink RX5 84 "OldStadiumModel" "stoneTown" "[I"] ++ wsX50)
def wsX5_agree : List Cond := .code yX5_agree cX5_agree 3 (some .int) :: ([.methodLink RX5 190 yX5_isStone, .instanceMethod yX5_isStone, .selects RX5 yX5_isStone yX5_isStone, .initialized RX5, .code yX5_isStone cX5_isStone 2 (some .boolean), .fieldLink RX5 187 "OldStadiumModel" "stones" "I", .methodLink RX5 96 yX5_in, .static yX5_in, .code yX5_in cX5_in 3 (some .boolean), .methodLink RX5 193 yX5_doAgree, .instanceMethod yX5_doAgree, .selects RX5 yX5_doAgree yX5_doAgree, .code yX5_doAgree cX5_doAgree 6 (some .boolean), .fieldLink RX5 81 "OldStadiumModel" "letters" "[I", .fieldLink RX5 84 "OldStadiumModel" "stoneTown" "[I"] ++ wsX50)
def wsX5_codes : List Cond := .code yX5_codes cX5_codes 3 (some .int) :: ([.fieldLink RX5 187 "OldStadiumModel" "stones" "I", .fieldLink RX5 78 "OldStadiumModel" "to" "[I", .fieldLink RX5 75 "OldStadiumModel" "from" "[I"] ++ wsX50)
def wsX5_yearOf : List Cond := .code yX5_yearOf cX5_yearOf 5 (some .int) :: ([.fieldLink RX5 78 "OldStadiumModel" "to" "[I", .fieldLink RX5 75 "OldStadiumModel" "from" "[I"] ++ wsX50)
def wsX5_isRoll : List Cond := .code yX5_isRoll cX5_isRoll 8 (some .boolean) :: ([.fieldLink RX5 187 "OldStadiumModel" "stones" "I", .fieldLink RX5 75 "OldStadiumModel" "from" "[I", .fieldLink RX5 87 "OldStadiumModel" "joined" "[Z", .fieldLink RX5 90 "OldStadiumModel" "span" "I", .fieldLink RX5 72 "OldStadiumModel" "event" "[I", .methodLink RX5 196 yX5_yearOf, .instanceMethod yX5_yearOf, .selects RX5 yX5_yearOf yX5_yearOf, .initialized RX5, .code yX5_yearOf cX5_yearOf 5 (some .int), .fieldLink RX5 78 "OldStadiumModel" "to" "[I", .methodLink RX5 193 yX5_doAgree, .instanceMethod yX5_doAgree, .selects RX5 yX5_doAgree yX5_doAgree, .code yX5_doAgree cX5_doAgree 6 (some .boolean), .fieldLink RX5 81 "OldStadiumModel" "letters" "[I", .fieldLink RX5 84 "OldStadiumModel" "stoneTown" "[I"] ++ wsX50)
def wsX5_rolls_r1 : List Cond := [Cond.methodLink RX5 200 yX5_codes, Cond.instanceMethod yX5_codes, Cond.selects RX5 yX5_codes yX5_codes, Cond.initialized RX5, Cond.code yX5_codes cX5_codes 3 (some .int), Cond.fieldLink RX5 187 "OldStadiumModel" "stones" "I", Cond.fieldLink RX5 78 "OldStadiumModel" "to" "[I", Cond.fieldLink RX5 75 "OldStadiumModel" "from" "[I", Cond.methodLink RX5 203 yX5_isRoll, Cond.instanceMethod yX5_isRoll, Cond.selects RX5 yX5_isRoll yX5_isRoll, Cond.code yX5_isRoll cX5_isRoll 8 (some .boolean), Cond.fieldLink RX5 87 "OldStadiumModel" "joined" "[Z", Cond.fieldLink RX5 90 "OldStadiumModel" "span" "I", Cond.fieldLink RX5 72 "OldStadiumModel" "event" "[I", Cond.methodLink RX5 196 yX5_yearOf, Cond.instanceMethod yX5_yearOf, Cond.selects RX5 yX5_yearOf yX5_yearOf, Cond.code yX5_yearOf cX5_yearOf 5 (some .int), Cond.methodLink RX5 193 yX5_doAgree, Cond.instanceMethod yX5_doAgree, Cond.selects RX5 yX5_doAgree yX5_doAgree, Cond.code yX5_doAgree cX5_doAgree 6 (some .boolean), Cond.fieldLink RX5 81 "OldStadiumModel" "letters" "[I"]
def wsX5_rolls_r2 : List Cond := [Cond.fieldLink RX5 84 "OldStadiumModel" "stoneTown" "[I"]
def wsX5_rolls : List Cond := .code yX5_rolls cX5_rolls 3 (some .int) :: ((wsX5_rolls_r1 ++ wsX5_rolls_r2) ++ wsX50)
def wsJ6_numberOfTrailingZeros_0f7a4 : List Cond := .code yJ6_numberOfTrailingZeros_0f7a4 cJ6_numberOfTrailingZeros_0f7a4 2 (some .int) :: ([.constant RJ6 264 (65536)])
def wsJ13_numberOfTrailingZeros_95d88 : List Cond := .code yJ13_numberOfTrailingZeros_95d88 cJ13_numberOfTrailingZeros_95d88 3 (some .int) :: ([.methodLink RJ13 311 yJ6_numberOfTrailingZeros_0f7a4, .static yJ6_numberOfTrailingZeros_0f7a4, .initialized RJ6, .code yJ6_numberOfTrailingZeros_0f7a4 cJ6_numberOfTrailingZeros_0f7a4 2 (some .int), .constant RJ6 264 (65536)])
def wsJ6_numberOfLeadingZeros_0f7a4 : List Cond := .code yJ6_numberOfLeadingZeros_0f7a4 cJ6_numberOfLeadingZeros_0f7a4 2 (some .int) :: ([.constant RJ6 264 (65536)])
def wsJ13_numberOfLeadingZeros_95d88 : List Cond := .code yJ13_numberOfLeadingZeros_95d88 cJ13_numberOfLeadingZeros_95d88 3 (some .int) :: ([.methodLink RJ13 308 yJ6_numberOfLeadingZeros_0f7a4, .static yJ6_numberOfLeadingZeros_0f7a4, .initialized RJ6, .code yJ6_numberOfLeadingZeros_0f7a4 cJ6_numberOfLeadingZeros_0f7a4 2 (some .int), .constant RJ6 264 (65536)])
def wsJ13_bitCount_95d88 : List Cond := .code yJ13_bitCount_95d88 cJ13_bitCount_95d88 2 (some .int) :: ([.constantLong RJ13 314 (6148914691236517205), .constantLong RJ13 316 (3689348814741910323), .constantLong RJ13 318 (1085102592571150095)])
def wsX5_year_r1 : List Cond := [Cond.methodLink RX5 190 yX5_isStone, Cond.instanceMethod yX5_isStone, Cond.selects RX5 yX5_isStone yX5_isStone, Cond.initialized RX5, Cond.code yX5_isStone cX5_isStone 2 (some .boolean), Cond.fieldLink RX5 187 "OldStadiumModel" "stones" "I", Cond.methodLink RX5 96 yX5_in, Cond.static yX5_in, Cond.code yX5_in cX5_in 3 (some .boolean), Cond.methodLink RX5 200 yX5_codes, Cond.instanceMethod yX5_codes, Cond.selects RX5 yX5_codes yX5_codes, Cond.code yX5_codes cX5_codes 3 (some .int), Cond.fieldLink RX5 78 "OldStadiumModel" "to" "[I", Cond.fieldLink RX5 75 "OldStadiumModel" "from" "[I", Cond.methodLink RX5 203 yX5_isRoll, Cond.instanceMethod yX5_isRoll, Cond.selects RX5 yX5_isRoll yX5_isRoll, Cond.code yX5_isRoll cX5_isRoll 8 (some .boolean), Cond.fieldLink RX5 87 "OldStadiumModel" "joined" "[Z", Cond.fieldLink RX5 90 "OldStadiumModel" "span" "I", Cond.fieldLink RX5 72 "OldStadiumModel" "event" "[I", Cond.methodLink RX5 196 yX5_yearOf, Cond.instanceMethod yX5_yearOf]
def wsX5_year_r2 : List Cond := [Cond.selects RX5 yX5_yearOf yX5_yearOf, Cond.code yX5_yearOf cX5_yearOf 5 (some .int), Cond.methodLink RX5 193 yX5_doAgree, Cond.instanceMethod yX5_doAgree, Cond.selects RX5 yX5_doAgree yX5_doAgree, Cond.code yX5_doAgree cX5_doAgree 6 (some .boolean), Cond.fieldLink RX5 81 "OldStadiumModel" "letters" "[I", Cond.fieldLink RX5 84 "OldStadiumModel" "stoneTown" "[I", Cond.methodLink RX5 206 yJ13_numberOfTrailingZeros_95d88, Cond.static yJ13_numberOfTrailingZeros_95d88, Cond.initialized RJ13, Cond.code yJ13_numberOfTrailingZeros_95d88 cJ13_numberOfTrailingZeros_95d88 3 (some .int), Cond.methodLink RJ13 311 yJ6_numberOfTrailingZeros_0f7a4, Cond.static yJ6_numberOfTrailingZeros_0f7a4, Cond.initialized RJ6, Cond.code yJ6_numberOfTrailingZeros_0f7a4 cJ6_numberOfTrailingZeros_0f7a4 2 (some .int), Cond.constant RJ6 264 (65536), Cond.methodLink RX5 212 yJ13_numberOfLeadingZeros_95d88, Cond.static yJ13_numberOfLeadingZeros_95d88, Cond.code yJ13_numberOfLeadingZeros_95d88 cJ13_numberOfLeadingZeros_95d88 3 (some .int), Cond.methodLink RJ13 308 yJ6_numberOfLeadingZeros_0f7a4, Cond.static yJ6_numberOfLeadingZeros_0f7a4, Cond.code yJ6_numberOfLeadingZeros_0f7a4 cJ6_numberOfLeadingZeros_0f7a4 2 (some .int), Cond.methodLink RX5 215 yJ13_bitCount_95d88]
def wsX5_year_r3 : List Cond := [Cond.static yJ13_bitCount_95d88, Cond.code yJ13_bitCount_95d88 cJ13_bitCount_95d88 2 (some .int), Cond.constantLong RJ13 314 (6148914691236517205), Cond.constantLong RJ13 316 (3689348814741910323), Cond.constantLong RJ13 318 (1085102592571150095)]
def wsX5_year : List Cond := .code yX5_year cX5_year 7 (some .int) :: ((wsX5_year_r1 ++ (wsX5_year_r2 ++ wsX5_year_r3)) ++ wsX50)
def wsX5_wrong_r1 : List Cond := [Cond.fieldLink RX5 187 "OldStadiumModel" "stones" "I", Cond.methodLink RX5 200 yX5_codes, Cond.instanceMethod yX5_codes, Cond.selects RX5 yX5_codes yX5_codes, Cond.initialized RX5, Cond.code yX5_codes cX5_codes 3 (some .int), Cond.fieldLink RX5 78 "OldStadiumModel" "to" "[I", Cond.fieldLink RX5 75 "OldStadiumModel" "from" "[I", Cond.methodLink RX5 218 yJ6_bitCount_0f7a4, Cond.static yJ6_bitCount_0f7a4, Cond.initialized RJ6, Cond.code yJ6_bitCount_0f7a4 cJ6_bitCount_0f7a4 1 (some .int), Cond.constant RJ6 265 (1431655765), Cond.constant RJ6 266 (858993459), Cond.constant RJ6 267 (252645135), Cond.methodLink RX5 203 yX5_isRoll, Cond.instanceMethod yX5_isRoll, Cond.selects RX5 yX5_isRoll yX5_isRoll, Cond.code yX5_isRoll cX5_isRoll 8 (some .boolean), Cond.fieldLink RX5 87 "OldStadiumModel" "joined" "[Z", Cond.fieldLink RX5 90 "OldStadiumModel" "span" "I", Cond.fieldLink RX5 72 "OldStadiumModel" "event" "[I", Cond.methodLink RX5 196 yX5_yearOf, Cond.instanceMethod yX5_yearOf]
def wsX5_wrong_r2 : List Cond := [Cond.selects RX5 yX5_yearOf yX5_yearOf, Cond.code yX5_yearOf cX5_yearOf 5 (some .int), Cond.methodLink RX5 193 yX5_doAgree, Cond.instanceMethod yX5_doAgree, Cond.selects RX5 yX5_doAgree yX5_doAgree, Cond.code yX5_doAgree cX5_doAgree 6 (some .boolean), Cond.fieldLink RX5 81 "OldStadiumModel" "letters" "[I", Cond.fieldLink RX5 84 "OldStadiumModel" "stoneTown" "[I"]
def wsX5_wrong : List Cond := .code yX5_wrong cX5_wrong 5 (some .int) :: ((wsX5_wrong_r1 ++ wsX5_wrong_r2) ++ wsX50)
def wsX5_letter : List Cond := .code yX5_letter cX5_letter 3 (some .int) :: ([.fieldLink RX5 81 "OldStadiumModel" "letters" "[I", .methodLink RX5 190 yX5_isStone, .instanceMethod yX5_isStone, .selects RX5 yX5_isStone yX5_isStone, .initialized RX5, .code yX5_isStone cX5_isStone 2 (some .boolean), .fieldLink RX5 187 "OldStadiumModel" "stones" "I", .methodLink RX5 96 yX5_in, .static yX5_in, .code yX5_in cX5_in 3 (some .boolean)] ++ wsX50)
def wsJ9_abs_0f7a4 : List Cond := .code yJ9_abs_0f7a4 cJ9_abs_0f7a4 1 (some .int) :: ([])
def wsJ9_min_7cf53 : List Cond := .code yJ9_min_7cf53 cJ9_min_7cf53 2 (some .int) :: ([])
def wsL_law_r1 : List Cond := [Cond.classLink RL 7 RX4, Cond.instantiable RX4 4, Cond.initialized RX4, Cond.classLink RL 10 RX5, Cond.instantiable RX5 44, Cond.initialized RX5, Cond.methodLink RL 9 yX4_init, Cond.instanceMethod yX4_init, Cond.code yX4_init cX4_init 1 none, Cond.methodLink RX4 1 objectInit, Cond.instanceMethod objectInit, Cond.code objectInit ⟨#[0xb1]⟩ 1 none, Cond.classLink RX4 7 RX1, Cond.instantiable RX1 16, Cond.initialized RX1, Cond.fieldLink RX4 10 "OldStadium" "heats" "LOldStadium$Heats;", Cond.classLink RX4 16 RX0, Cond.instantiable RX0 5, Cond.initialized RX0, Cond.fieldLink RX4 19 "OldStadium" "games" "LOldStadium$FiveInOne;", Cond.classLink RX4 23 RX2, Cond.instantiable RX2 16, Cond.initialized RX2, Cond.fieldLink RX4 26 "OldStadium" "course" "LOldStadium$Hippodrome;"]
def wsL_law_r2 : List Cond := [Cond.classLink RX4 30 RX3, Cond.instantiable RX3 14, Cond.initialized RX3, Cond.fieldLink RX4 33 "OldStadium" "quarry" "LOldStadium$Quarry;", Cond.instanceMethod yX1_init, Cond.code yX1_init cX1_init 1 none, Cond.methodLink RX1 5 objectInit, Cond.arrayClass .int, Cond.fieldLink RX1 11 "OldStadium$Heats" "runnerTowns" "[I", Cond.fieldLink RX1 15 "OldStadium$Heats" "judgeTowns" "[I", Cond.fieldLink RX1 18 "OldStadium$Heats" "row" "[I", Cond.fieldLink RX1 21 "OldStadium$Heats" "winners" "[I", Cond.classLink RX1 24 "[[I", Cond.fieldLink RX1 26 "OldStadium$Heats" "votes" "[[I", Cond.fieldLink RX1 29 "OldStadium$Heats" "runners" "I", Cond.fieldLink RX1 33 "OldStadium$Heats" "judges" "I", Cond.fieldLink RX1 36 "OldStadium$Heats" "going" "Z", Cond.fieldLink RX1 40 "OldStadium$Heats" "round" "I", Cond.fieldLink RX1 43 "OldStadium$Heats" "size" "I", Cond.fieldLink RX1 46 "OldStadium$Heats" "entered" "I", Cond.fieldLink RX1 49 "OldStadium$Heats" "heats" "I", Cond.fieldLink RX1 52 "OldStadium$Heats" "bye" "I", Cond.fieldLink RX1 55 "OldStadium$Heats" "byesHad" "I", Cond.fieldLink RX1 58 "OldStadium$Heats" "victo\x72" "I"]
def wsL_law_r3 : List Cond := [Cond.fieldLink RX1 61 "OldStadium$Heats" "lot" "I", Cond.instanceMethod yX0_init, Cond.code yX0_init cX0_init 1 none, Cond.methodLink RX0 3 objectInit, Cond.fieldLink RX0 11 "OldStadium$FiveInOne" "wins" "[I", Cond.fieldLink RX0 15 "OldStadium$FiveInOne" "sums" "[I", Cond.fieldLink RX0 18 "OldStadium$FiveInOne" "athletes" "I", Cond.fieldLink RX0 22 "OldStadium$FiveInOne" "told" "I", Cond.fieldLink RX0 25 "OldStadium$FiveInOne" "champion" "I", Cond.instanceMethod yX2_init, Cond.code yX2_init cX2_init 1 none, Cond.methodLink RX2 3 objectInit, Cond.fieldLink RX2 11 "OldStadium$Hippodrome" "delay" "[I", Cond.fieldLink RX2 15 "OldStadium$Hippodrome" "lane" "[I", Cond.fieldLink RX2 18 "OldStadium$Hippodrome" "cell" "[I", Cond.fieldLink RX2 21 "OldStadium$Hippodrome" "lapsDone" "[I", Cond.fieldLink RX2 24 "OldStadium$Hippodrome" "state" "[I", Cond.fieldLink RX2 27 "OldStadium$Hippodrome" "endTick" "[I", Cond.fieldLink RX2 30 "OldStadium$Hippodrome" "place" "[I", Cond.fieldLink RX2 33 "OldStadium$Hippodrome" "acts" "[I", Cond.classLink RX2 36 "[[I", Cond.fieldLink RX2 38 "OldStadium$Hippodrome" "forward" "[[I", Cond.fieldLink RX2 41 "OldStadium$Hippodrome" "side" "[[I", Cond.fieldLink RX2 44 "OldStadium$Hippodrome" "lanes" "I"]
def wsL_law_r4 : List Cond := [Cond.fieldLink RX2 48 "OldStadium$Hippodrome" "cells" "I", Cond.fieldLink RX2 51 "OldStadium$Hippodrome" "laps" "I", Cond.fieldLink RX2 54 "OldStadium$Hippodrome" "chariots" "I", Cond.fieldLink RX2 57 "OldStadium$Hippodrome" "tick" "I", Cond.fieldLink RX2 60 "OldStadium$Hippodrome" "cameHome" "I", Cond.instanceMethod yX3_init, Cond.code yX3_init cX3_init 1 none, Cond.methodLink RX3 3 objectInit, Cond.fieldLink RX3 11 "OldStadium$Quarry" "event" "[I", Cond.fieldLink RX3 15 "OldStadium$Quarry" "from" "[I", Cond.fieldLink RX3 18 "OldStadium$Quarry" "to" "[I", Cond.fieldLink RX3 21 "OldStadium$Quarry" "firstLetters" "[I", Cond.fieldLink RX3 24 "OldStadium$Quarry" "lastLetters" "[I", Cond.fieldLink RX3 27 "OldStadium$Quarry" "town" "[I", Cond.fieldLink RX3 30 "OldStadium$Quarry" "joined" "[I", Cond.fieldLink RX3 33 "OldStadium$Quarry" "stones" "I", Cond.fieldLink RX3 37 "OldStadium$Quarry" "span" "I", Cond.fieldLink RX3 40 "OldStadium$Quarry" "unlike" "[I", Cond.fieldLink RX3 43 "OldStadium$Quarry" "yea\x72" "[I", Cond.arrayClass .long, Cond.fieldLink RX3 46 "OldStadium$Quarry" "seen" "[J", Cond.fieldLink RX3 50 "OldStadium$Quarry" "rolls" "I", Cond.fieldLink RX3 53 "OldStadium$Quarry" "fewest" "I", Cond.methodLink RL 12 yX5_init]
def wsL_law_r5 : List Cond := [Cond.instanceMethod yX5_init, Cond.code yX5_init cX5_init 1 none, Cond.methodLink RX5 1 objectInit, Cond.fieldLink RX5 9 "OldStadiumModel" "town" "[I", Cond.fieldLink RX5 13 "OldStadiumModel" "judgeTown" "[I", Cond.fieldLink RX5 16 "OldStadiumModel" "row" "[I", Cond.fieldLink RX5 19 "OldStadiumModel" "bye" "I", Cond.arrayClass .boolean, Cond.fieldLink RX5 23 "OldStadiumModel" "hadBye" "[Z", Cond.fieldLink RX5 27 "OldStadiumModel" "won" "[I", Cond.fieldLink RX5 30 "OldStadiumModel" "votes" "[I", Cond.fieldLink RX5 33 "OldStadiumModel" "victo\x72" "I", Cond.fieldLink RX5 36 "OldStadiumModel" "wins" "[I", Cond.fieldLink RX5 39 "OldStadiumModel" "sums" "[I", Cond.fieldLink RX5 42 "OldStadiumModel" "state" "[I", Cond.fieldLink RX5 45 "OldStadiumModel" "lane" "[I", Cond.fieldLink RX5 48 "OldStadiumModel" "cell" "[I", Cond.fieldLink RX5 51 "OldStadiumModel" "done" "[I", Cond.fieldLink RX5 54 "OldStadiumModel" "when" "[I", Cond.fieldLink RX5 57 "OldStadiumModel" "place" "[I", Cond.fieldLink RX5 60 "OldStadiumModel" "delay" "[I", Cond.fieldLink RX5 63 "OldStadiumModel" "actMany" "[I", Cond.fieldLink RX5 66 "OldStadiumModel" "forward" "[I", Cond.fieldLink RX5 69 "OldStadiumModel" "side" "[I"]
def wsL_law_r6 : List Cond := [Cond.fieldLink RX5 72 "OldStadiumModel" "event" "[I", Cond.fieldLink RX5 75 "OldStadiumModel" "from" "[I", Cond.fieldLink RX5 78 "OldStadiumModel" "to" "[I", Cond.fieldLink RX5 81 "OldStadiumModel" "letters" "[I", Cond.fieldLink RX5 84 "OldStadiumModel" "stoneTown" "[I", Cond.fieldLink RX5 87 "OldStadiumModel" "joined" "[Z", Cond.fieldLink RX5 90 "OldStadiumModel" "span" "I", Cond.fieldLink RX5 93 "OldStadiumModel" "stays" "[Z", Cond.methodLink RL 13 yX4_runner, Cond.instanceMethod yX4_runner, Cond.selects RX4 yX4_runner yX4_runner, Cond.code yX4_runner cX4_runner 2 (some .int), Cond.methodLink RX4 37 yX1_addRunner, Cond.instanceMethod yX1_addRunner, Cond.selects RX1 yX1_addRunner yX1_addRunner, Cond.code yX1_addRunner cX1_addRunner 2 (some .int), Cond.static yX4_isTown, Cond.code yX4_isTown cX4_isTown 1 (some .boolean), Cond.methodLink RL 17 yX5_runner, Cond.instanceMethod yX5_runner, Cond.selects RX5 yX5_runner yX5_runner, Cond.code yX5_runner cX5_runner 2 (some .int), Cond.fieldLink RX5 100 "OldStadiumModel" "runners" "I", Cond.methodLink RX5 96 yX5_in]
def wsL_law_r7 : List Cond := [Cond.static yX5_in, Cond.code yX5_in cX5_in 3 (some .boolean), Cond.methodLink RL 18 yX4_judge, Cond.instanceMethod yX4_judge, Cond.selects RX4 yX4_judge yX4_judge, Cond.code yX4_judge cX4_judge 2 (some .int), Cond.methodLink RX4 41 yX1_addJudge, Cond.instanceMethod yX1_addJudge, Cond.selects RX1 yX1_addJudge yX1_addJudge, Cond.code yX1_addJudge cX1_addJudge 2 (some .int), Cond.methodLink RL 21 yX5_judge, Cond.instanceMethod yX5_judge, Cond.selects RX5 yX5_judge yX5_judge, Cond.code yX5_judge cX5_judge 2 (some .int), Cond.fieldLink RX5 103 "OldStadiumModel" "judges" "I", Cond.methodLink RL 22 yX4_contest, Cond.instanceMethod yX4_contest, Cond.selects RX4 yX4_contest yX4_contest, Cond.code yX4_contest cX4_contest 4 (some .int), Cond.methodLink RX4 44 yX1_begin, Cond.instanceMethod yX1_begin, Cond.selects RX1 yX1_begin yX1_begin, Cond.code yX1_begin cX1_begin 5 (some .int), Cond.methodLink RX1 68 yX1_enter]
def wsL_law_r8 : List Cond := [Cond.instanceMethod yX1_enter, Cond.selects RX1 yX1_enter yX1_enter, Cond.code yX1_enter cX1_enter 3 none, Cond.static yX4_hasBit, Cond.code yX4_hasBit cX4_hasBit 2 (some .boolean), Cond.methodLink RX1 72 yX1_beginRound, Cond.instanceMethod yX1_beginRound, Cond.selects RX1 yX1_beginRound yX1_beginRound, Cond.code yX1_beginRound cX1_beginRound 3 (some .int), Cond.methodLink RX1 80 yX1_mixRow, Cond.instanceMethod yX1_mixRow, Cond.selects RX1 yX1_mixRow yX1_mixRow, Cond.code yX1_mixRow cX1_mixRow 2 none, Cond.constant RX1 92 (1103515245), Cond.methodLink RX1 93 yX1_exchange, Cond.instanceMethod yX1_exchange, Cond.selects RX1 yX1_exchange yX1_exchange, Cond.code yX1_exchange cX1_exchange 4 none, Cond.methodLink RX1 83 yX1_giveBye, Cond.instanceMethod yX1_giveBye, Cond.selects RX1 yX1_giveBye yX1_giveBye, Cond.code yX1_giveBye cX1_giveBye 2 none, Cond.methodLink RX1 97 yX1_lastWithoutBye, Cond.instanceMethod yX1_lastWithoutBye]
def wsL_law_r9 : List Cond := [Cond.selects RX1 yX1_lastWithoutBye yX1_lastWithoutBye, Cond.code yX1_lastWithoutBye cX1_lastWithoutBye 3 (some .int), Cond.methodLink RX1 86 yJ7_fill_53178, Cond.static yJ7_fill_53178, Cond.initialized RJ7, Cond.code yJ7_fill_53178 cJ7_fill_53178 4 none, Cond.methodLink RL 26 yX5_contest, Cond.instanceMethod yX5_contest, Cond.selects RX5 yX5_contest yX5_contest, Cond.code yX5_contest cX5_contest 5 (some .int), Cond.fieldLink RX5 116 "OldStadiumModel" "goes" "Z", Cond.fieldLink RX5 109 "OldStadiumModel" "size" "I", Cond.fieldLink RX5 112 "OldStadiumModel" "\x72" "I", Cond.fieldLink RX5 120 "OldStadiumModel" "round" "I", Cond.fieldLink RX5 106 "OldStadiumModel" "many" "I", Cond.methodLink RX5 123 yX5_mix, Cond.instanceMethod yX5_mix, Cond.selects RX5 yX5_mix yX5_mix, Cond.code yX5_mix cX5_mix 4 none, Cond.constant RX5 115 (1103515245), Cond.methodLink RX5 126 yX5_heats, Cond.instanceMethod yX5_heats, Cond.selects RX5 yX5_heats yX5_heats, Cond.code yX5_heats cX5_heats 2 (some .int)]
def wsL_law_r10 : List Cond := [Cond.methodLink RL 27 yX4_heat, Cond.instanceMethod yX4_heat, Cond.selects RX4 yX4_heat yX4_heat, Cond.code yX4_heat cX4_heat 2 (some .int), Cond.methodLink RX4 48 yX1_heatOf, Cond.instanceMethod yX1_heatOf, Cond.selects RX1 yX1_heatOf yX1_heatOf, Cond.code yX1_heatOf cX1_heatOf 3 (some .int), Cond.methodLink RX1 116 yX1_isIn, Cond.instanceMethod yX1_isIn, Cond.selects RX1 yX1_isIn yX1_isIn, Cond.code yX1_isIn cX1_isIn 4 (some .boolean), Cond.methodLink RX1 113 yX1_runnerAt, Cond.instanceMethod yX1_runnerAt, Cond.selects RX1 yX1_runnerAt yX1_runnerAt, Cond.code yX1_runnerAt cX1_runnerAt 3 (some .int), Cond.methodLink RX1 107 yX1_isHeat, Cond.instanceMethod yX1_isHeat, Cond.selects RX1 yX1_isHeat yX1_isHeat, Cond.code yX1_isHeat cX1_isHeat 2 (some .boolean), Cond.methodLink RX1 110 yX1_sizeOf, Cond.instanceMethod yX1_sizeOf, Cond.selects RX1 yX1_sizeOf yX1_sizeOf, Cond.code yX1_sizeOf cX1_sizeOf 2 (some .int)]
def wsL_law_r11 : List Cond := [Cond.methodLink RX1 101 Lib.Math.min.name, Cond.static Lib.Math.min.name, Cond.initialized "java/lang/Math", Cond.code Lib.Math.min.name Lib.Math.min.code 2 (some .int), Cond.methodLink RL 30 yX5_heat, Cond.instanceMethod yX5_heat, Cond.selects RX5 yX5_heat yX5_heat, Cond.code yX5_heat cX5_heat 3 (some .int), Cond.methodLink RL 31 yX4_lane, Cond.instanceMethod yX4_lane, Cond.selects RX4 yX4_lane yX4_lane, Cond.code yX4_lane cX4_lane 3 (some .int), Cond.methodLink RX4 51 yX1_runnerAt, Cond.methodLink RL 35 yX5_lane, Cond.instanceMethod yX5_lane, Cond.selects RX5 yX5_lane yX5_lane, Cond.code yX5_lane cX5_lane 3 (some .int), Cond.methodLink RX5 130 yX5_isHeat, Cond.instanceMethod yX5_isHeat, Cond.selects RX5 yX5_isHeat yX5_isHeat, Cond.code yX5_isHeat cX5_isHeat 2 (some .boolean), Cond.methodLink RX5 134 yX5_inHeat, Cond.instanceMethod yX5_inHeat, Cond.selects RX5 yX5_inHeat yX5_inHeat]
def wsL_law_r12 : List Cond := [Cond.code yX5_inHeat cX5_inHeat 3 (some .int), Cond.methodLink RL 36 yX4_count, Cond.instanceMethod yX4_count, Cond.selects RX4 yX4_count yX4_count, Cond.code yX4_count cX4_count 2 (some .int), Cond.methodLink RX4 55 yX1_tell, Cond.instanceMethod yX1_tell, Cond.selects RX1 yX1_tell yX1_tell, Cond.code yX1_tell cX1_tell 2 (some .int), Cond.methodLink RX1 119 yX1_openHeats, Cond.instanceMethod yX1_openHeats, Cond.selects RX1 yX1_openHeats yX1_openHeats, Cond.code yX1_openHeats cX1_openHeats 3 (some .int), Cond.methodLink RL 39 yX5_count, Cond.instanceMethod yX5_count, Cond.selects RX5 yX5_count yX5_count, Cond.code yX5_count cX5_count 2 (some .int), Cond.methodLink RX5 138 yX5_open, Cond.instanceMethod yX5_open, Cond.selects RX5 yX5_open yX5_open, Cond.code yX5_open cX5_open 3 (some .int), Cond.methodLink RL 40 yX4_winner, Cond.instanceMethod yX4_winner, Cond.selects RX4 yX4_winner yX4_winner]
def wsL_law_r13 : List Cond := [Cond.code yX4_winner cX4_winner 3 (some .boolean), Cond.methodLink RX4 58 yX1_setWinner, Cond.instanceMethod yX1_setWinner, Cond.selects RX1 yX1_setWinner yX1_setWinner, Cond.code yX1_setWinner cX1_setWinner 3 (some .boolean), Cond.methodLink RL 44 yX5_winner, Cond.instanceMethod yX5_winner, Cond.selects RX5 yX5_winner yX5_winner, Cond.code yX5_winner cX5_winner 3 (some .boolean), Cond.methodLink RX5 141 yX5_isIn, Cond.instanceMethod yX5_isIn, Cond.selects RX5 yX5_isIn yX5_isIn, Cond.code yX5_isIn cX5_isIn 4 (some .boolean), Cond.methodLink RL 45 yX4_vote, Cond.instanceMethod yX4_vote, Cond.selects RX4 yX4_vote yX4_vote, Cond.code yX4_vote cX4_vote 4 (some .boolean), Cond.methodLink RX4 62 yX1_castVote, Cond.instanceMethod yX1_castVote, Cond.selects RX1 yX1_castVote yX1_castVote, Cond.code yX1_castVote cX1_castVote 4 (some .boolean), Cond.methodLink RL 49 yX5_vote, Cond.instanceMethod yX5_vote, Cond.selects RX5 yX5_vote yX5_vote]
def wsL_law_r14 : List Cond := [Cond.code yX5_vote cX5_vote 4 (some .boolean), Cond.methodLink RL 50 yX4_decide, Cond.instanceMethod yX4_decide, Cond.selects RX4 yX4_decide yX4_decide, Cond.code yX4_decide cX4_decide 2 (some .int), Cond.methodLink RX4 66 yX1_decideByVotes, Cond.instanceMethod yX1_decideByVotes, Cond.selects RX1 yX1_decideByVotes yX1_decideByVotes, Cond.code yX1_decideByVotes cX1_decideByVotes 5 (some .int), Cond.methodLink RX1 122 yX1_votesFor, Cond.instanceMethod yX1_votesFor, Cond.selects RX1 yX1_votesFor yX1_votesFor, Cond.code yX1_votesFor cX1_votesFor 5 (some .int), Cond.methodLink RX1 125 yX1_hasTown, Cond.instanceMethod yX1_hasTown, Cond.selects RX1 yX1_hasTown yX1_hasTown, Cond.code yX1_hasTown cX1_hasTown 5 (some .boolean), Cond.methodLink RL 53 yX5_decide, Cond.instanceMethod yX5_decide, Cond.selects RX5 yX5_decide yX5_decide, Cond.code yX5_decide cX5_decide 7 (some .int), Cond.methodLink RX5 145 yX5_counts, Cond.instanceMethod yX5_counts, Cond.selects RX5 yX5_counts yX5_counts]
def wsL_law_r15 : List Cond := [Cond.code yX5_counts cX5_counts 4 (some .boolean), Cond.methodLink RL 54 yX4_next, Cond.instanceMethod yX4_next, Cond.selects RX4 yX4_next yX4_next, Cond.code yX4_next cX4_next 1 (some .int), Cond.methodLink RX4 69 yX1_goOn, Cond.instanceMethod yX1_goOn, Cond.selects RX1 yX1_goOn yX1_goOn, Cond.code yX1_goOn cX1_goOn 3 (some .int), Cond.methodLink RX1 128 yX1_end, Cond.instanceMethod yX1_end, Cond.selects RX1 yX1_end yX1_end, Cond.code yX1_end cX1_end 2 (some .int), Cond.methodLink RL 58 yX5_next, Cond.instanceMethod yX5_next, Cond.selects RX5 yX5_next yX5_next, Cond.code yX5_next cX5_next 6 (some .int), Cond.methodLink RL 59 yX4_five, Cond.instanceMethod yX4_five, Cond.selects RX4 yX4_five yX4_five, Cond.code yX4_five cX4_five 2 (some .boolean), Cond.methodLink RX4 73 yX0_begin, Cond.instanceMethod yX0_begin, Cond.selects RX0 yX0_begin yX0_begin]
def wsL_law_r16 : List Cond := [Cond.code yX0_begin cX0_begin 2 (some .boolean), Cond.methodLink RX0 28 yJ7_fill_53178, Cond.methodLink RL 63 yX5_five, Cond.instanceMethod yX5_five, Cond.selects RX5 yX5_five yX5_five, Cond.code yX5_five cX5_five 3 (some .boolean), Cond.fieldLink RX5 148 "OldStadiumModel" "athletes" "I", Cond.fieldLink RX5 151 "OldStadiumModel" "events" "I", Cond.methodLink RL 64 yX4_event, Cond.instanceMethod yX4_event, Cond.selects RX4 yX4_event yX4_event, Cond.code yX4_event cX4_event 2 (some .int), Cond.methodLink RX4 76 yX0_tellOrder, Cond.instanceMethod yX0_tellOrder, Cond.selects RX0 yX0_tellOrder yX0_tellOrder, Cond.code yX0_tellOrder cX0_tellOrder 5 (some .int), Cond.methodLink RX0 34 yX0_isOrder, Cond.instanceMethod yX0_isOrder, Cond.selects RX0 yX0_isOrder yX0_isOrder, Cond.code yX0_isOrder cX0_isOrder 6 (some .boolean), Cond.methodLink RX0 38 yX0_findChampion, Cond.instanceMethod yX0_findChampion, Cond.selects RX0 yX0_findChampion yX0_findChampion, Cond.code yX0_findChampion cX0_findChampion 3 (some .int)]
def wsL_law_r17 : List Cond := [Cond.methodLink RX0 46 yX0_isAhead, Cond.static yX0_isAhead, Cond.code yX0_isAhead cX0_isAhead 6 (some .boolean), Cond.methodLink RL 67 yX5_event, Cond.instanceMethod yX5_event, Cond.selects RX5 yX5_event yX5_event, Cond.code yX5_event cX5_event 6 (some .int), Cond.methodLink RX5 154 yX5_won, Cond.instanceMethod yX5_won, Cond.selects RX5 yX5_won yX5_won, Cond.code yX5_won cX5_won 3 (some .int), Cond.methodLink RL 68 yX4_athlete, Cond.instanceMethod yX4_athlete, Cond.selects RX4 yX4_athlete yX4_athlete, Cond.code yX4_athlete cX4_athlete 3 (some .int), Cond.methodLink RX4 79 yX0_tell, Cond.instanceMethod yX0_tell, Cond.selects RX0 yX0_tell yX0_tell, Cond.code yX0_tell cX0_tell 3 (some .int), Cond.methodLink RX0 50 yX0_canWin, Cond.instanceMethod yX0_canWin, Cond.selects RX0 yX0_canWin yX0_canWin, Cond.code yX0_canWin cX0_canWin 6 (some .boolean), Cond.methodLink RL 71 yX5_athlete]
def wsL_law_r18 : List Cond := [Cond.instanceMethod yX5_athlete, Cond.selects RX5 yX5_athlete yX5_athlete, Cond.code yX5_athlete cX5_athlete 3 (some .int), Cond.methodLink RX5 156 yX5_can, Cond.instanceMethod yX5_can, Cond.selects RX5 yX5_can yX5_can, Cond.code yX5_can cX5_can 8 (some .boolean), Cond.methodLink RL 72 yX4_won, Cond.instanceMethod yX4_won, Cond.selects RX4 yX4_won yX4_won, Cond.code yX4_won cX4_won 1 (some .int), Cond.methodLink RX4 81 yX0_champion, Cond.instanceMethod yX0_champion, Cond.selects RX0 yX0_champion yX0_champion, Cond.code yX0_champion cX0_champion 1 (some .int), Cond.methodLink RL 75 yX5_won, Cond.methodLink RL 76 yX4_track, Cond.instanceMethod yX4_track, Cond.selects RX4 yX4_track yX4_track, Cond.code yX4_track cX4_track 4 (some .boolean), Cond.methodLink RX4 84 yX2_layOut, Cond.instanceMethod yX2_layOut, Cond.selects RX2 yX2_layOut yX2_layOut, Cond.code yX2_layOut cX2_layOut 4 (some .boolean)]
def wsL_law_r19 : List Cond := [Cond.methodLink RL 79 yX5_track, Cond.instanceMethod yX5_track, Cond.selects RX5 yX5_track yX5_track, Cond.code yX5_track cX5_track 4 (some .boolean), Cond.fieldLink RX5 159 "OldStadiumModel" "lanes" "I", Cond.fieldLink RX5 162 "OldStadiumModel" "cells" "I", Cond.fieldLink RX5 165 "OldStadiumModel" "laps" "I", Cond.fieldLink RX5 168 "OldStadiumModel" "tick" "I", Cond.fieldLink RX5 171 "OldStadiumModel" "chariots" "I", Cond.fieldLink RX5 174 "OldStadiumModel" "home" "I", Cond.methodLink RL 80 yX4_chariot, Cond.instanceMethod yX4_chariot, Cond.selects RX4 yX4_chariot yX4_chariot, Cond.code yX4_chariot cX4_chariot 3 (some .int), Cond.methodLink RX4 87 yX2_addChariot, Cond.instanceMethod yX2_addChariot, Cond.selects RX2 yX2_addChariot yX2_addChariot, Cond.code yX2_addChariot cX2_addChariot 3 (some .int), Cond.methodLink RX2 63 yX2_isTaken, Cond.instanceMethod yX2_isTaken, Cond.selects RX2 yX2_isTaken yX2_isTaken, Cond.code yX2_isTaken cX2_isTaken 3 (some .boolean), Cond.methodLink RL 83 yX5_chariot, Cond.instanceMethod yX5_chariot]
def wsL_law_r20 : List Cond := [Cond.selects RX5 yX5_chariot yX5_chariot, Cond.code yX5_chariot cX5_chariot 4 (some .int), Cond.methodLink RL 84 yX4_drive, Cond.instanceMethod yX4_drive, Cond.selects RX4 yX4_drive yX4_drive, Cond.code yX4_drive cX4_drive 4 (some .int), Cond.methodLink RX4 90 yX2_addAct, Cond.instanceMethod yX2_addAct, Cond.selects RX2 yX2_addAct yX2_addAct, Cond.code yX2_addAct cX2_addAct 4 (some .int), Cond.methodLink RX2 67 yX2_isChariot, Cond.instanceMethod yX2_isChariot, Cond.selects RX2 yX2_isChariot yX2_isChariot, Cond.code yX2_isChariot cX2_isChariot 2 (some .boolean), Cond.methodLink RL 87 yX5_drive, Cond.instanceMethod yX5_drive, Cond.selects RX5 yX5_drive yX5_drive, Cond.code yX5_drive cX5_drive 4 (some .int), Cond.methodLink RL 88 yX4_run, Cond.instanceMethod yX4_run, Cond.selects RX4 yX4_run yX4_run, Cond.code yX4_run cX4_run 2 (some .int), Cond.methodLink RX4 93 yX2_pass, Cond.instanceMethod yX2_pass]
def wsL_law_r21 : List Cond := [Cond.selects RX2 yX2_pass yX2_pass, Cond.code yX2_pass cX2_pass 4 (some .int), Cond.methodLink RX2 70 yX2_passTick, Cond.instanceMethod yX2_passTick, Cond.selects RX2 yX2_passTick yX2_passTick, Cond.code yX2_passTick cX2_passTick 2 none, Cond.methodLink RX2 73 yX2_letIn, Cond.instanceMethod yX2_letIn, Cond.selects RX2 yX2_letIn yX2_letIn, Cond.code yX2_letIn cX2_letIn 2 none, Cond.methodLink RX2 76 yX2_crash, Cond.instanceMethod yX2_crash, Cond.selects RX2 yX2_crash yX2_crash, Cond.code yX2_crash cX2_crash 3 none, Cond.methodLink RX2 99 yX2_sharesCell, Cond.instanceMethod yX2_sharesCell, Cond.selects RX2 yX2_sharesCell yX2_sharesCell, Cond.code yX2_sharesCell cX2_sharesCell 3 (some .boolean), Cond.methodLink RX2 79 yX2_goForward, Cond.instanceMethod yX2_goForward, Cond.selects RX2 yX2_goForward yX2_goForward, Cond.code yX2_goForward cX2_goForward 4 none, Cond.methodLink RX2 95 yX2_actOf, Cond.instanceMethod yX2_actOf]
def wsL_law_r22 : List Cond := [Cond.selects RX2 yX2_actOf yX2_actOf, Cond.code yX2_actOf cX2_actOf 2 (some .int), Cond.methodLink RX2 89 yJ9_floorMod_7cf53, Cond.static yJ9_floorMod_7cf53, Cond.initialized RJ9, Cond.code yJ9_floorMod_7cf53 cJ9_floorMod_7cf53 3 (some .int), Cond.methodLink RX2 83 yX2_bringHome, Cond.instanceMethod yX2_bringHome, Cond.selects RX2 yX2_bringHome yX2_bringHome, Cond.code yX2_bringHome cX2_bringHome 3 none, Cond.methodLink RX2 86 yX2_changeLanes, Cond.instanceMethod yX2_changeLanes, Cond.selects RX2 yX2_changeLanes yX2_changeLanes, Cond.code yX2_changeLanes cX2_changeLanes 4 none, Cond.methodLink RL 91 yX5_run, Cond.instanceMethod yX5_run, Cond.selects RX5 yX5_run yX5_run, Cond.code yX5_run cX5_run 5 (some .int), Cond.methodLink RX5 180 yX5_crash, Cond.instanceMethod yX5_crash, Cond.selects RX5 yX5_crash yX5_crash, Cond.code yX5_crash cX5_crash 4 none, Cond.methodLink RX5 183 yX5_step, Cond.instanceMethod yX5_step]
def wsL_law_r23 : List Cond := [Cond.selects RX5 yX5_step yX5_step, Cond.code yX5_step cX5_step 4 none, Cond.methodLink RX5 177 yX5_actOf, Cond.instanceMethod yX5_actOf, Cond.selects RX5 yX5_actOf yX5_actOf, Cond.code yX5_actOf cX5_actOf 2 (some .int), Cond.methodLink RL 92 yX4_at, Cond.instanceMethod yX4_at, Cond.selects RX4 yX4_at yX4_at, Cond.code yX4_at cX4_at 3 (some .int), Cond.methodLink RX4 96 yX2_tell, Cond.instanceMethod yX2_tell, Cond.selects RX2 yX2_tell yX2_tell, Cond.code yX2_tell cX2_tell 3 (some .int), Cond.methodLink RL 95 yX5_at, Cond.instanceMethod yX5_at, Cond.selects RX5 yX5_at yX5_at, Cond.code yX5_at cX5_at 3 (some .int), Cond.methodLink RL 96 yX4_stone, Cond.instanceMethod yX4_stone, Cond.selects RX4 yX4_stone yX4_stone, Cond.code yX4_stone cX4_stone 7 (some .int), Cond.methodLink RX4 97 yX3_addStone, Cond.instanceMethod yX3_addStone]
def wsL_law_r24 : List Cond := [Cond.selects RX3 yX3_addStone yX3_addStone, Cond.code yX3_addStone cX3_addStone 7 (some .int), Cond.methodLink RX3 56 yX3_areYears, Cond.static yX3_areYears, Cond.code yX3_areYears cX3_areYears 2 (some .boolean), Cond.methodLink RX3 60 yX3_isName, Cond.static yX3_isName, Cond.code yX3_isName cX3_isName 2 (some .boolean), Cond.methodLink RX3 70 yX3_letterIn, Cond.static yX3_letterIn, Cond.code yX3_letterIn cX3_letterIn 2 (some .int), Cond.methodLink RX3 67 yX3_forget, Cond.instanceMethod yX3_forget, Cond.selects RX3 yX3_forget yX3_forget, Cond.code yX3_forget cX3_forget 1 none, Cond.methodLink RL 100 yX5_stone, Cond.instanceMethod yX5_stone, Cond.selects RX5 yX5_stone yX5_stone, Cond.code yX5_stone cX5_stone 8 (some .int), Cond.fieldLink RX5 187 "OldStadiumModel" "stones" "I", Cond.methodLink RL 101 yX4_join, Cond.instanceMethod yX4_join, Cond.selects RX4 yX4_join yX4_join, Cond.code yX4_join cX4_join 4 (some .boolean)]
def wsL_law_r25 : List Cond := [Cond.methodLink RX4 101 yX3_setJoined, Cond.instanceMethod yX3_setJoined, Cond.selects RX3 yX3_setJoined yX3_setJoined, Cond.code yX3_setJoined cX3_setJoined 4 (some .boolean), Cond.methodLink RX3 74 yX3_isStone, Cond.instanceMethod yX3_isStone, Cond.selects RX3 yX3_isStone yX3_isStone, Cond.code yX3_isStone cX3_isStone 2 (some .boolean), Cond.methodLink RL 105 yX5_join, Cond.instanceMethod yX5_join, Cond.selects RX5 yX5_join yX5_join, Cond.code yX5_join cX5_join 4 (some .boolean), Cond.methodLink RX5 190 yX5_isStone, Cond.instanceMethod yX5_isStone, Cond.selects RX5 yX5_isStone yX5_isStone, Cond.code yX5_isStone cX5_isStone 2 (some .boolean), Cond.methodLink RL 106 yX4_span, Cond.instanceMethod yX4_span, Cond.selects RX4 yX4_span yX4_span, Cond.code yX4_span cX4_span 2 (some .int), Cond.methodLink RX4 105 yX3_setSpan, Cond.instanceMethod yX3_setSpan, Cond.selects RX3 yX3_setSpan yX3_setSpan, Cond.code yX3_setSpan cX3_setSpan 3 (some .int)]
def wsL_law_r26 : List Cond := [Cond.methodLink RL 109 yX5_span, Cond.instanceMethod yX5_span, Cond.selects RX5 yX5_span yX5_span, Cond.code yX5_span cX5_span 3 (some .int), Cond.methodLink RL 110 yX4_lose, Cond.instanceMethod yX4_lose, Cond.selects RX4 yX4_lose yX4_lose, Cond.code yX4_lose cX4_lose 2 (some .int), Cond.methodLink RX4 108 yX3_breakUp, Cond.instanceMethod yX3_breakUp, Cond.selects RX3 yX3_breakUp yX3_breakUp, Cond.code yX3_breakUp cX3_breakUp 3 (some .int), Cond.methodLink RX3 80 yX3_withoutBit, Cond.static yX3_withoutBit, Cond.code yX3_withoutBit cX3_withoutBit 3 (some .int), Cond.methodLink RL 113 yX5_lose, Cond.instanceMethod yX5_lose, Cond.selects RX5 yX5_lose yX5_lose, Cond.code yX5_lose cX5_lose 4 (some .int), Cond.methodLink RL 114 yX4_agree, Cond.instanceMethod yX4_agree, Cond.selects RX4 yX4_agree yX4_agree, Cond.code yX4_agree cX4_agree 3 (some .int), Cond.methodLink RX4 111 yX3_tellAgreeing]
def wsL_law_r27 : List Cond := [Cond.instanceMethod yX3_tellAgreeing, Cond.selects RX3 yX3_tellAgreeing yX3_tellAgreeing, Cond.code yX3_tellAgreeing cX3_tellAgreeing 3 (some .int), Cond.methodLink RX3 83 yX3_isAgreeing, Cond.instanceMethod yX3_isAgreeing, Cond.selects RX3 yX3_isAgreeing yX3_isAgreeing, Cond.code yX3_isAgreeing cX3_isAgreeing 6 (some .boolean), Cond.methodLink RX3 77 yX3_letterOf, Cond.instanceMethod yX3_letterOf, Cond.selects RX3 yX3_letterOf yX3_letterOf, Cond.code yX3_letterOf cX3_letterOf 4 (some .int), Cond.methodLink RL 117 yX5_agree, Cond.instanceMethod yX5_agree, Cond.selects RX5 yX5_agree yX5_agree, Cond.code yX5_agree cX5_agree 3 (some .int), Cond.methodLink RX5 193 yX5_doAgree, Cond.instanceMethod yX5_doAgree, Cond.selects RX5 yX5_doAgree yX5_doAgree, Cond.code yX5_doAgree cX5_doAgree 6 (some .boolean), Cond.methodLink RL 118 yX4_rolls, Cond.instanceMethod yX4_rolls, Cond.selects RX4 yX4_rolls yX4_rolls, Cond.code yX4_rolls cX4_rolls 1 (some .int), Cond.methodLink RX4 114 yX3_countRolls]
def wsL_law_r28 : List Cond := [Cond.instanceMethod yX3_countRolls, Cond.selects RX3 yX3_countRolls yX3_countRolls, Cond.code yX3_countRolls cX3_countRolls 1 (some .int), Cond.methodLink RX3 109 yX3_findUnlike, Cond.instanceMethod yX3_findUnlike, Cond.selects RX3 yX3_findUnlike yX3_findUnlike, Cond.code yX3_findUnlike cX3_findUnlike 3 none, Cond.methodLink RX3 112 yJ7_fill_d0a16, Cond.static yJ7_fill_d0a16, Cond.code yJ7_fill_d0a16 cJ7_fill_d0a16 5 none, Cond.methodLink RX3 101 yX3_countFrom, Cond.static yX3_countFrom, Cond.code yX3_countFrom cX3_countFrom 5 (some .int), Cond.methodLink RX3 98 yX3_fits, Cond.instanceMethod yX3_fits, Cond.selects RX3 yX3_fits yX3_fits, Cond.code yX3_fits cX3_fits 4 (some .boolean), Cond.methodLink RX3 89 yX3_goTogether, Cond.instanceMethod yX3_goTogether, Cond.selects RX3 yX3_goTogether yX3_goTogether, Cond.code yX3_goTogether cX3_goTogether 4 (some .boolean), Cond.methodLink RX3 92 Lib.Math.abs.name, Cond.static Lib.Math.abs.name, Cond.code Lib.Math.abs.name Lib.Math.abs.code 1 (some .int)]
def wsL_law_r29 : List Cond := [Cond.methodLink RL 121 yX5_rolls, Cond.instanceMethod yX5_rolls, Cond.selects RX5 yX5_rolls yX5_rolls, Cond.code yX5_rolls cX5_rolls 3 (some .int), Cond.methodLink RX5 200 yX5_codes, Cond.instanceMethod yX5_codes, Cond.selects RX5 yX5_codes yX5_codes, Cond.code yX5_codes cX5_codes 3 (some .int), Cond.methodLink RX5 203 yX5_isRoll, Cond.instanceMethod yX5_isRoll, Cond.selects RX5 yX5_isRoll yX5_isRoll, Cond.code yX5_isRoll cX5_isRoll 8 (some .boolean), Cond.methodLink RX5 196 yX5_yearOf, Cond.instanceMethod yX5_yearOf, Cond.selects RX5 yX5_yearOf yX5_yearOf, Cond.code yX5_yearOf cX5_yearOf 5 (some .int), Cond.methodLink RL 122 yX4_year, Cond.instanceMethod yX4_year, Cond.selects RX4 yX4_year yX4_year, Cond.code yX4_year cX4_year 3 (some .int), Cond.methodLink RX4 117 yX3_tellYear, Cond.instanceMethod yX3_tellYear, Cond.selects RX3 yX3_tellYear yX3_tellYear, Cond.code yX3_tellYear cX3_tellYear 7 (some .int)]
def wsL_law_r30 : List Cond := [Cond.methodLink RX3 118 yX3_countRolls, Cond.methodLink RL 125 yX5_year, Cond.instanceMethod yX5_year, Cond.selects RX5 yX5_year yX5_year, Cond.code yX5_year cX5_year 7 (some .int), Cond.methodLink RX5 206 yJ13_numberOfTrailingZeros_95d88, Cond.static yJ13_numberOfTrailingZeros_95d88, Cond.initialized RJ13, Cond.code yJ13_numberOfTrailingZeros_95d88 cJ13_numberOfTrailingZeros_95d88 3 (some .int), Cond.methodLink RJ13 311 yJ6_numberOfTrailingZeros_0f7a4, Cond.static yJ6_numberOfTrailingZeros_0f7a4, Cond.initialized RJ6, Cond.code yJ6_numberOfTrailingZeros_0f7a4 cJ6_numberOfTrailingZeros_0f7a4 2 (some .int), Cond.constant RJ6 264 (65536), Cond.methodLink RX5 212 yJ13_numberOfLeadingZeros_95d88, Cond.static yJ13_numberOfLeadingZeros_95d88, Cond.code yJ13_numberOfLeadingZeros_95d88 cJ13_numberOfLeadingZeros_95d88 3 (some .int), Cond.methodLink RJ13 308 yJ6_numberOfLeadingZeros_0f7a4, Cond.static yJ6_numberOfLeadingZeros_0f7a4, Cond.code yJ6_numberOfLeadingZeros_0f7a4 cJ6_numberOfLeadingZeros_0f7a4 2 (some .int), Cond.methodLink RX5 215 yJ13_bitCount_95d88, Cond.static yJ13_bitCount_95d88, Cond.code yJ13_bitCount_95d88 cJ13_bitCount_95d88 2 (some .int), Cond.constantLong RJ13 314 (6148914691236517205)]
def wsL_law_r31 : List Cond := [Cond.constantLong RJ13 316 (3689348814741910323), Cond.constantLong RJ13 318 (1085102592571150095), Cond.methodLink RL 126 yX4_wrong, Cond.instanceMethod yX4_wrong, Cond.selects RX4 yX4_wrong yX4_wrong, Cond.code yX4_wrong cX4_wrong 1 (some .int), Cond.methodLink RX4 120 yX3_fewestWrong, Cond.instanceMethod yX3_fewestWrong, Cond.selects RX3 yX3_fewestWrong yX3_fewestWrong, Cond.code yX3_fewestWrong cX3_fewestWrong 1 (some .int), Cond.methodLink RX3 122 yX3_findFewest, Cond.instanceMethod yX3_findFewest, Cond.selects RX3 yX3_findFewest yX3_findFewest, Cond.code yX3_findFewest cX3_findFewest 4 (some .int), Cond.methodLink RX3 125 yJ6_bitCount_0f7a4, Cond.static yJ6_bitCount_0f7a4, Cond.code yJ6_bitCount_0f7a4 cJ6_bitCount_0f7a4 1 (some .int), Cond.constant RJ6 265 (1431655765), Cond.constant RJ6 266 (858993459), Cond.constant RJ6 267 (252645135), Cond.methodLink RX3 105 yX3_isRollFrom, Cond.static yX3_isRollFrom, Cond.code yX3_isRollFrom cX3_isRollFrom 4 (some .boolean), Cond.methodLink RL 129 yX5_wrong]
def wsL_law_r32 : List Cond := [Cond.instanceMethod yX5_wrong, Cond.selects RX5 yX5_wrong yX5_wrong, Cond.code yX5_wrong cX5_wrong 5 (some .int), Cond.methodLink RX5 218 yJ6_bitCount_0f7a4, Cond.methodLink RL 130 yX4_letter, Cond.instanceMethod yX4_letter, Cond.selects RX4 yX4_letter yX4_letter, Cond.code yX4_letter cX4_letter 3 (some .int), Cond.methodLink RX4 123 yX3_tellLetter, Cond.instanceMethod yX3_tellLetter, Cond.selects RX3 yX3_tellLetter yX3_tellLetter, Cond.code yX3_tellLetter cX3_tellLetter 3 (some .int), Cond.methodLink RL 133 yX5_letter, Cond.instanceMethod yX5_letter, Cond.selects RX5 yX5_letter yX5_letter, Cond.code yX5_letter cX5_letter 3 (some .int)]
def wsL_law : List Cond := (wsL_law_r1 ++ (wsL_law_r2 ++ (wsL_law_r3 ++ (wsL_law_r4 ++ (wsL_law_r5 ++ (wsL_law_r6 ++ (wsL_law_r7 ++ (wsL_law_r8 ++ (wsL_law_r9 ++ (wsL_law_r10 ++ (wsL_law_r11 ++ (wsL_law_r12 ++ (wsL_law_r13 ++ (wsL_law_r14 ++ (wsL_law_r15 ++ (wsL_law_r16 ++ (wsL_law_r17 ++ (wsL_law_r18 ++ (wsL_law_r19 ++ (wsL_law_r20 ++ (wsL_law_r21 ++ (wsL_law_r22 ++ (wsL_law_r23 ++ (wsL_law_r24 ++ (wsL_law_r25 ++ (wsL_law_r26 ++ (wsL_law_r27 ++ (wsL_law_r28 ++ (wsL_law_r29 ++ (wsL_law_r30 ++ (wsL_law_r31 ++ wsL_law_r32))))))))))))))))))))))))))))))) ++ wsX40 ++ wsX50 ++ wsX10 ++ wsX00 ++ wsX20 ++ wsX30 ++ ([] : List Cond)
set_option maxRecDepth 20000 in
theorem wsL_law_in : ∀ w ∈ wsL_law, w ∈ lw_tbl := fun w h => (goodIn_p wsL_law [66, 69, 74, 132, 154, 210, 689, 272, 276, 279, 828, 831, 283, 287, 835, 291, 295, 299, 302, 306, 310, 315, 319, 323, 326, 839, 843, 848, 330, 334, 338, 342, 346, 350, 353, 852, 357, 856, 860, 864, 362, 366, 370, 868, 872, 374, 378, 876, 880, 382, 386, 884, 390, 394, 398, 402, 888, 892, 406, 410, 414, 896, 418, 422, 900, 427, 431, 435, 440, 443, 904, 908, 447, 451, 455, 913, 917, 459, 463, 467, 471, 921, 475, 479, 483, 925, 487, 491, 495, 929, 499, 503, 507, 511, 515, 519, 524, 528, 531, 535, 539, 933, 937, 941, 945, 543, 547, 949, 551, 555, 558, 561, 564, 569, 953, 573, 577, 581, 957, 961, 585, 589, 965, 593, 597, 600, 969, 604, 608, 612, 616, 973, 977, 620, 624, 628, 631, 634, 638, 643, 646, 981, 985, 989, 993, 650, 654, 997, 1000, 1003, 1007, 1010, 1013, 659, 663, 667, 670, 676, 1020, 680, 684, 1025] (by decide +kernel) (by decide +kernel) w h).1
theorem inlX0 : ∀ w ∈ wsX00, w ∈ wsL_law := fun _ h => List.mem_append_left _ (List.mem_append_left _ (List.mem_append_left _ (List.mem_append_right _ h)))
theorem inX0 : ∀ w ∈ wsX00, w ∈ lw_tbl := fun w h => wsL_law_in w (inlX0 w h)
theorem inlX1 : ∀ w ∈ wsX10, w ∈ wsL_law := fun _ h => List.mem_append_left _ (List.mem_append_left _ (List.mem_append_left _ (List.mem_append_left _ (List.mem_append_right _ h))))
theorem inX1 : ∀ w ∈ wsX10, w ∈ lw_tbl := fun w h => wsL_law_in w (inlX1 w h)
theorem inlX2 : ∀ w ∈ wsX20, w ∈ wsL_law := fun _ h => List.mem_append_left _ (List.mem_append_left _ (List.mem_append_right _ h))
theorem inX2 : ∀ w ∈ wsX20, w ∈ lw_tbl := fun w h => wsL_law_in w (inlX2 w h)
theorem inlX3 : ∀ w ∈ wsX30, w ∈ wsL_law := fun _ h => List.mem_append_left _ (List.mem_append_right _ h)
theorem inX3 : ∀ w ∈ wsX30, w ∈ lw_tbl := fun w h => wsL_law_in w (inlX3 w h)
theorem inlX4 : ∀ w ∈ wsX40, w ∈ wsL_law := fun _ h => List.mem_append_left _ (List.mem_append_left _ (List.mem_append_left _ (List.mem_append_left _ (List.mem_append_left _ (List.mem_append_left _ (List.mem_append_right _ h))))))
theorem inX4 : ∀ w ∈ wsX40, w ∈ lw_tbl := fun w h => wsL_law_in w (inlX4 w h)
theorem inlX5 : ∀ w ∈ wsX50, w ∈ wsL_law := fun _ h => List.mem_append_left _ (List.mem_append_left _ (List.mem_append_left _ (List.mem_append_left _ (List.mem_append_left _ (List.mem_append_right _ h)))))
theorem inX5 : ∀ w ∈ wsX50, w ∈ lw_tbl := fun w h => wsL_law_in w (inlX5 w h)
theorem inJx145de : ∀ w ∈ wsJx145de0, w ∈ lw_tbl := by decide +kernel
theorem inJxb160c : ∀ w ∈ wsJxb160c0, w ∈ lw_tbl := by decide +kernel
theorem inJ6 : ∀ w ∈ wsJ60, w ∈ lw_tbl := by decide +kernel
theorem inJ13 : ∀ w ∈ wsJ130, w ∈ lw_tbl := by decide +kernel
theorem inJ9 : ∀ w ∈ wsJ90, w ∈ lw_tbl := by decide +kernel
theorem inJxd2413 : ∀ w ∈ wsJxd24130, w ∈ lw_tbl := by decide +kernel
theorem inJxfd54e : ∀ w ∈ wsJxfd54e0, w ∈ lw_tbl := by decide +kernel
theorem inJx3cf43 : ∀ w ∈ wsJx3cf430, w ∈ lw_tbl := by decide +kernel
theorem inJ7 : ∀ w ∈ wsJ70, w ∈ lw_tbl := by decide +kernel
abbrev vwCl : List vw_C := [(RX0, TX0, 5), (RX1, TX1, 16), (RX2, TX2, 16), (RX3, TX3, 14), (RX4, TX4, 4), (RX5, TX5, 44)]

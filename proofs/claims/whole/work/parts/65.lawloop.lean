section LWL
variable {p : Program} {l : Launch} {e : Env} {s : State} {m : MethodId} {below : List Frame} {meth : Method} {c : Code} {H : Heap} {locs : List Loc} {Q : State → Prop} {b L i : Nat} {xs : Nat → Int32} {ls : Array Slot}
  {dC : Nat → ClassId} {dI : Nat → Nat → Nat} {cI cZ cJ cA : ClassId} {hx : Nat} {h1 : Nat} {a1 : Nat → Nat} {r1_4 : Nat → Nat} {h0 : Nat} {a0 : Nat → Nat} {h2 : Nat} {a2 : Nat → Nat} {r2_8 : Nat → Nat} {r2_9 : Nat → Nat} {h3 : Nat} {a3 : Nat → Nat} {h5 : Nat} {a5 : Nat → Nat}
set_option maxHeartbeats 4000000 in
set_option maxRecDepth 100000 in
theorem law_loop (G : lw_G p s m c b L xs dC dI cI cZ cJ cA) (hr : meth.sig.returnType = ret) (hlocks : meth.locks = false) : ∀ (n i : Nat) (w : va_W) (H : Heap) (locs : List Loc) (ls : Array Slot), i ≤ L → L < i + n → (lw_I cI cZ cJ cA hx h1 a1 r1_4 h0 a0 h2 a2 r2_8 r2_9 h3 a3 h5 a5 i w) → va_P (dC, dI) vwCl w H → va_D (fun q : Nat => s.heap.size ≤ q) w → va_S (fun q : Nat => s.heap.size ≤ q) s.heap H locs → lv_has ls 4 [(0, .ref b), (1, .ref hx), (2, .ref h5), (3, .int (nI i))] → W p l e room_1 s m #[Value.ref b] below meth c H locs 83 1342 (lw_Z below #[Value.ref b] s) (F0 m 18 ls []) := by
  have G0 := G
  obtain ⟨⟨hx9, hb, hml, hown, hts⟩, hX, hbl, hN, hK, hL⟩ := G0
  have hbA : ¬ (fun q : Nat => s.heap.size ≤ q) b := Nat.not_le.mpr hbl
  intro n
  induction n with
  | zero =>
    intro i w H locs ls h1 h2
    exact absurd h2 (by omega)
  | succ n ih =>
    intro i w H locs ls hi hin hI hP hD hS hl
    refine lv_iload_n hx9 hb dL_law_18 rfl (lv_at hl 3 rfl) ?_
    refine lv_aload_n hx9 hb dL_law_19 rfl (lv_at hl 0 rfl) ?_
    refine va_slen hx9 hb hX hbl hbA hS dL_law_20 ?_
    refine lv_bipush (v := nI 7) hx9 hb dL_law_21 (by decide) ?_
    refine lv_isub hx9 hb dL_law_23 ?_
    have hd : (nI L - nI 7).toInt = (L : Int) - 7 := pk_sub_toInt (by omega) (by omega)
    have hti : (nI i).toInt = (i : Int) := nI_toInt (by omega)
    refine lv_icmp_gt (tgt := 1018) hx9 hb dL_law_24 (by decide) (fun c1 => ?_) (fun c1 => ?_)
    · refine lv_iconst (v := 1) hx9 hb dL_law_1018 (by decide) ?_
      refine va_forget (fun q hq => hS.2.2 q hq) ?_
      refine W.widen (k := 600000) (n := 7302250) (Nat.le_of_ble_eq_true rfl) (Nat.le_of_ble_eq_true rfl) ?_
      exact lw_ret hx9 hb hr hlocks dL_law_1019
    · have hi7 : i + 7 ≤ L := by
        have h1 : ¬ (nI L - nI 7).toInt < (nI i).toInt := fun h => c1 (Int32.lt_iff_toInt_lt.mpr h)
        rw [hd, hti] at h1
        omega
      refine lv_aload_n hx9 hb dL_law_27 rfl (lv_at hl 0 rfl) ?_
      refine lv_iload_n hx9 hb dL_law_28 rfl (lv_at hl 3 rfl) ?_
      refine va_sld hx9 hb hX hbl hbA hS (vp_in_nI (show i < L by omega) (by omega)) dL_law_29 ?_
      refine lv_bipush (v := 31) hx9 hb dL_law_30 (by decide) ?_
      refine lv_iand hx9 hb dL_law_32 ?_
      obtain ⟨j, j1, j2⟩ := pk_andE (xs (nI i).toNatClampNeg) (m := 31) 5 (by decide)
      rw [j2]
      have kk : ∀ (w : va_W) (H : Heap) (locs : List Loc), (lw_I cI cZ cJ cA hx h1 a1 r1_4 h0 a0 h2 a2 r2_8 r2_9 h3 a3 h5 a5 (i + 7) w) → va_P (dC, dI) vwCl w H → va_D (fun q : Nat => s.heap.size ≤ q) w → va_S (fun q : Nat => s.heap.size ≤ q) s.heap H locs → W p l e room_1 s m #[Value.ref b] below meth c H locs 83 1342 (lw_Z below #[Value.ref b] s) (F0 m 1012 ls []) := by
        intro w H locs hI hP hD hS
        refine lv_iinc (v := nI (i + 7)) (lv' := [(3, .int (nI (i + 7))), (0, .ref b), (1, .ref hx), (2, .ref h5)]) hx9 hb dL_law_1012 hl (k := 3) rfl (by rw [show Int32.ofInt 7 = nI 7 from by decide]; exact nI_add i 7) (by decide) rfl (fun ls hl => ?_)
        refine lv_goto (tgt := 18) hx9 hb dL_law_1015 (by decide) ?_
        exact ih (i + 7) w H locs ls (by omega) (by omega) hI hP hD hS (lv_sub hl [1, 2, 3, 0] rfl)
      refine lw_Ie hI (fun x1_5 x1_6 x1_7 x1_8 x1_9 x1_10 x1_11 x1_12 x1_13 x1_14 x1_15 f1_0 f1_1 f1_2 f1_3 V1_4 x0_2 x0_3 x0_4 f0_0 f0_1 x2_10 x2_11 x2_12 x2_13 x2_14 x2_15 f2_0 f2_1 f2_2 f2_3 f2_4 f2_5 f2_6 f2_7 V2_8 V2_9 x3_7 x3_8 x3_12 x3_13 f3_0 f3_1 f3_2 f3_3 f3_4 f3_5 f3_6 f3_9 f3_10 f3_11 x5_1 x5_3 x5_4 x5_5 x5_6 x5_7 x5_9 x5_10 x5_14 x5_15 x5_16 x5_19 x5_20 x5_21 x5_22 x5_23 x5_24 x5_41 x5_42 f5_0 f5_2 f5_8 f5_11 f5_12 f5_13 f5_17 f5_18 f5_25 f5_26 f5_27 f5_28 f5_29 f5_30 f5_31 f5_32 f5_33 f5_34 f5_35 f5_36 f5_37 f5_38 f5_39 f5_40 f5_43 hw iH iF iC iQ => ?_)
      subst hw
      by_cases j28 : j < 28
      · match j, j28 with
        | 0, _ => exact lv_tableIn (off := 127) (tgt := 160) hx9 hb dL_law_33 (by decide) (by decide) (by decide) (by decide) (lc_runner G hi7 iH iF iC iQ hP hD hS hl kk)
        | 1, _ => exact lv_tableIn (off := 150) (tgt := 183) hx9 hb dL_law_33 (by decide) (by decide) (by decide) (by decide) (lc_judge G hi7 iH iF iC iQ hP hD hS hl kk)
        | 2, _ => exact lv_tableIn (off := 173) (tgt := 206) hx9 hb dL_law_33 (by decide) (by decide) (by decide) (by decide) (lc_contest G hi7 iH iF iC iQ hP hD hS hl kk)
        | 3, _ => exact lv_tableIn (off := 216) (tgt := 249) hx9 hb dL_law_33 (by decide) (by decide) (by decide) (by decide) (lc_heat G hi7 iH iF iC iQ hP hD hS hl kk)
        | 4, _ => exact lv_tableIn (off := 239) (tgt := 272) hx9 hb dL_law_33 (by decide) (by decide) (by decide) (by decide) (lc_lane G hi7 iH iF iC iQ hP hD hS hl kk)
        | 5, _ => exact lv_tableIn (off := 272) (tgt := 305) hx9 hb dL_law_33 (by decide) (by decide) (by decide) (by decide) (lc_count G hi7 iH iF iC iQ hP hD hS hl kk)
        | 6, _ => exact lv_tableIn (off := 295) (tgt := 328) hx9 hb dL_law_33 (by decide) (by decide) (by decide) (by decide) (lc_winner G hi7 iH iF iC iQ hP hD hS hl kk)
        | 7, _ => exact lv_tableIn (off := 328) (tgt := 361) hx9 hb dL_law_33 (by decide) (by decide) (by decide) (by decide) (lc_vote G hi7 iH iF iC iQ hP hD hS hl kk)
        | 8, _ => exact lv_tableIn (off := 371) (tgt := 404) hx9 hb dL_law_33 (by decide) (by decide) (by decide) (by decide) (lc_decide G hi7 iH iF iC iQ hP hD hS hl kk)
        | 9, _ => exact lv_tableIn (off := 394) (tgt := 427) hx9 hb dL_law_33 (by decide) (by decide) (by decide) (by decide) (lc_next G hi7 iH iF iC iQ hP hD hS hl kk)
        | 10, _ => exact lv_tableIn (off := 407) (tgt := 440) hx9 hb dL_law_33 (by decide) (by decide) (by decide) (by decide) (lc_five G hi7 iH iF iC iQ hP hD hS hl kk)
        | 11, _ => exact lv_tableIn (off := 430) (tgt := 463) hx9 hb dL_law_33 (by decide) (by decide) (by decide) (by decide) (lc_event G hi7 iH iF iC iQ hP hD hS hl kk)
        | 12, _ => exact lv_tableIn (off := 453) (tgt := 486) hx9 hb dL_law_33 (by decide) (by decide) (by decide) (by decide) (lc_athlete G hi7 iH iF iC iQ hP hD hS hl kk)
        | 13, _ => exact lv_tableIn (off := 486) (tgt := 519) hx9 hb dL_law_33 (by decide) (by decide) (by decide) (by decide) (lc_won G hi7 iH iF iC iQ hP hD hS hl kk)
        | 14, _ => exact lv_tableIn (off := 499) (tgt := 532) hx9 hb dL_law_33 (by decide) (by decide) (by decide) (by decide) (lc_track G hi7 iH iF iC iQ hP hD hS hl kk)
        | 15, _ => exact lv_tableIn (off := 542) (tgt := 575) hx9 hb dL_law_33 (by decide) (by decide) (by decide) (by decide) (lc_chariot G hi7 iH iF iC iQ hP hD hS hl kk)
        | 16, _ => exact lv_tableIn (off := 575) (tgt := 608) hx9 hb dL_law_33 (by decide) (by decide) (by decide) (by decide) (lc_drive G hi7 iH iF iC iQ hP hD hS hl kk)
        | 17, _ => exact lv_tableIn (off := 618) (tgt := 651) hx9 hb dL_law_33 (by decide) (by decide) (by decide) (by decide) (lc_run G hi7 iH iF iC iQ hP hD hS hl kk)
        | 18, _ => exact lv_tableIn (off := 641) (tgt := 674) hx9 hb dL_law_33 (by decide) (by decide) (by decide) (by decide) (lc_at G hi7 iH iF iC iQ hP hD hS hl kk)
        | 19, _ => exact lv_tableIn (off := 674) (tgt := 707) hx9 hb dL_law_33 (by decide) (by decide) (by decide) (by decide) (lc_stone G hi7 iH iF iC iQ hP hD hS hl kk)
        | 20, _ => exact lv_tableIn (off := 749) (tgt := 782) hx9 hb dL_law_33 (by decide) (by decide) (by decide) (by decide) (lc_join G hi7 iH iF iC iQ hP hD hS hl kk)
        | 21, _ => exact lv_tableIn (off := 808) (tgt := 841) hx9 hb dL_law_33 (by decide) (by decide) (by decide) (by decide) (lc_span G hi7 iH iF iC iQ hP hD hS hl kk)
        | 22, _ => exact lv_tableIn (off := 831) (tgt := 864) hx9 hb dL_law_33 (by decide) (by decide) (by decide) (by decide) (lc_lose G hi7 iH iF iC iQ hP hD hS hl kk)
        | 23, _ => exact lv_tableIn (off := 854) (tgt := 887) hx9 hb dL_law_33 (by decide) (by decide) (by decide) (by decide) (lc_agree G hi7 iH iF iC iQ hP hD hS hl kk)
        | 24, _ => exact lv_tableIn (off := 887) (tgt := 920) hx9 hb dL_law_33 (by decide) (by decide) (by decide) (by decide) (lc_rolls G hi7 iH iF iC iQ hP hD hS hl kk)
        | 25, _ => exact lv_tableIn (off := 900) (tgt := 933) hx9 hb dL_law_33 (by decide) (by decide) (by decide) (by decide) (lc_year G hi7 iH iF iC iQ hP hD hS hl kk)
        | 26, _ => exact lv_tableIn (off := 933) (tgt := 966) hx9 hb dL_law_33 (by decide) (by decide) (by decide) (by decide) (lc_wrong G hi7 iH iF iC iQ hP hD hS hl kk)
        | 27, _ => exact lv_tableIn (off := 946) (tgt := 979) hx9 hb dL_law_33 (by decide) (by decide) (by decide) (by decide) (lc_letter G hi7 iH iF iC iQ hP hD hS hl kk)
        | j + 28, h => exact absurd h (by omega)
      · have hi7' : i + 7 ≤ L := hi7
        refine lv_tableOut (tgt := 1012) hx9 hb dL_law_33 (Or.inr ?_) (by decide) ?_
        · have h1 : (nI j).toInt = (j : Int) := nI_toInt (by omega)
          rw [h1]
          omega
        · exact kk _ H locs ⟨x1_5, x1_6, x1_7, x1_8, x1_9, x1_10, x1_11, x1_12, x1_13, x1_14, x1_15, f1_0, f1_1, f1_2, f1_3, V1_4, x0_2, x0_3, x0_4, f0_0, f0_1, x2_10, x2_11, x2_12, x2_13, x2_14, x2_15, f2_0, f2_1, f2_2, f2_3, f2_4, f2_5, f2_6, f2_7, V2_8, V2_9, x3_7, x3_8, x3_12, x3_13, f3_0, f3_1, f3_2, f3_3, f3_4, f3_5, f3_6, f3_9, f3_10, f3_11, x5_1, x5_3, x5_4, x5_5, x5_6, x5_7, x5_9, x5_10, x5_14, x5_15, x5_16, x5_19, x5_20, x5_21, x5_22, x5_23, x5_24, x5_41, x5_42, f5_0, f5_2, f5_8, f5_11, f5_12, f5_13, f5_17, f5_18, f5_25, f5_26, f5_27, f5_28, f5_29, f5_30, f5_31, f5_32, f5_33, f5_34, f5_35, f5_36, f5_37, f5_38, f5_39, f5_40, f5_43, rfl, iH, iF, i_C_mono (by omega) iC, iQ⟩ hP hD hS
end LWL

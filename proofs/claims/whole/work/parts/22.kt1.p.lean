abbrev rmX7_bridges : Room := { frames := 4, cells := 0, slots := 0, locals := 96 }
theorem hdX7_bridges : yX7_bridges.cls = RX7 ∧ yX7_bridges.cls ≠ "java/lang/invoke/MethodHandle" ∧ yX7_bridges.cls ≠ "java/lang/invoke/VarHandle" ∧ (parseMethodDescriptor yX7_bridges.desc).map (fun d => d.parameters.length) = some 0 := by decide +kernel
set_option maxHeartbeats 4000000 in
set_option maxRecDepth 100000 in
theorem KX7_bridges {l : Launch} {D : va_G} {cy : Nat → ClassId} {sv g : Nat} {g_rows : Int32} {g_columns : Int32} {g_a : Int32} {g_b : Int32} {g_cells : Int64} {g_right : Int64} {g_down : Int64}  {r : Int32} {g_right' : Int64} {g_down' : Int64} (hf : fX7_bridges g_cells g_right g_down = some (r, g_right', g_down')) : CtI l yX7_bridges wsX7_bridges rmX7_bridges D cy [.ref sv] ([oX7 sv g, oX1 g g_rows g_columns g_a g_b g_cells g_right g_down]) ([oX7 sv g, oX1 g g_rows g_columns g_a g_b g_cells g_right' g_down']) r := by
  refine CtI.of (cc := cX7_bridges) (maxL := 4) (ret := some .int) (own := RX7) (by decide) rfl rfl (Nat.le_of_ble_eq_true rfl) ?_
  intro p e s m args below meth c A Q X hQ hK hP hD hS ls hl
  obtain ⟨hx, hb, hml, hown, hts, hr, hlocks, hA, hZ⟩ := id X
  have hl : lv_has ls 4 [(0, .ref sv)] := hl
  unfold fX7_bridges at hf
  have hf := qob_top hf
  refine lv_iconst (v := 0) hx hb dX7_bridges_0 (by decide) ?_
  refine lv_istore_n (lv' := [(1, .int 0), (0, .ref sv)]) hx hb dX7_bridges_1 rfl hl (by decide) rfl (fun ls hl => ?_)
  refine lv_iconst (v := 0) hx hb dX7_bridges_2 (by decide) ?_
  refine lv_istore_n (lv' := [(2, .int 0), (1, .int 0), (0, .ref sv)]) hx hb dX7_bridges_3 rfl hl (by decide) rfl (fun ls hl => ?_)
  refine qjoin3 hf (fun (x1_1 : Int32) (g_right_1 : Int64) (g_down_1 : Int64) => ∀ (H : Heap) (locs : List Loc) (ls : Array Slot), ctW D A s ([oX7 sv g, oX1 g g_rows g_columns g_a g_b g_cells g_right_1 g_down_1]) H locs → lv_has ls 4 [(1, .int x1_1)] → W p l e rmX7_bridges s m args below meth c H locs 0 0 Q (F0 m 41 ls [])) ?_ ?_
  · intro x1_1 g_right_1 g_down_1 hf H locs ls ⟨hP, hD, hS⟩ hl
    refine lv_iload_n hx hb dX7_bridges_41 rfl (lv_at hl 0 rfl) ?_
    cases qob_ret hf
    exact ct_iret X hQ hK hP hD hS rfl dX7_bridges_42
  · intro J1 hJ1 hf
    refine qwalk4 (fun (x1_2 : Int32) (x2_1 : Int32) (g_right_2 : Int64) (g_down_2 : Int64) => ∀ (H : Heap) (locs : List Loc) (ls : Array Slot), ctW D A s ([oX7 sv g, oX1 g g_rows g_columns g_a g_b g_cells g_right_2 g_down_2]) H locs → lv_has ls 4 [(0, .ref sv), (1, .int x1_2), (2, .int x2_1)] → W p l e rmX7_bridges s m args below meth c H locs 0 0 Q (F0 m 4 ls [])) ?_ _ (0 : Int32) (0 : Int32) g_right g_down hf _ _ _ ⟨hP, hD, hS⟩ (lv_sub hl [2, 1, 0] rfl)
    intro J2 hL2 x1_2 x2_1 g_right_2 g_down_2 hf H locs ls ⟨hP, hD, hS⟩ hl
    refine lv_iload_n hx hb dX7_bridges_4 rfl (lv_at hl 2 rfl) ?_
    refine lv_bipush (v := 48) hx hb dX7_bridges_5 (by decide) ?_
    refine lv_icmp_ge (tgt := 41) hx hb dX7_bridges_7 (by decide) (fun c3 => ?_) (fun c3 => ?_)
    · have hf := qob_t hf c3
      have hf := qob_esc hf
      exact hJ1 x1_2 g_right_2 g_down_2 hf _ _ _ ⟨hP, hD, hS⟩ (lv_sub hl [1] rfl)
    · have hf := qob_f hf c3
      refine lv_iconst (v := 1) hx hb dX7_bridges_10 (by decide) ?_
      refine lv_istore_n (lv' := [(3, .int 1), (0, .ref sv), (1, .int x1_2), (2, .int x2_1)]) hx hb dX7_bridges_11 rfl hl (by decide) rfl (fun ls hl => ?_)
      refine qjoin3 hf (fun (x1_3 : Int32) (g_right_3 : Int64) (g_down_3 : Int64) => ∀ (H : Heap) (locs : List Loc) (ls : Array Slot), ctW D A s ([oX7 sv g, oX1 g g_rows g_columns g_a g_b g_cells g_right_3 g_down_3]) H locs → lv_has ls 4 [(0, .ref sv), (1, .int x1_3), (2, .int x2_1)] → W p l e rmX7_bridges s m args below meth c H locs 0 0 Q (F0 m 35 ls [])) ?_ ?_
      · intro x1_3 g_right_3 g_down_3 hf H locs ls ⟨hP, hD, hS⟩ hl
        refine lv_iinc (v := (x2_1 + 1)) (lv' := [(2, .int (x2_1 + 1)), (0, .ref sv), (1, .int x1_3)]) hx hb dX7_bridges_35 hl (k := 2) rfl rfl (by decide) rfl (fun ls hl => ?_)
        refine lv_goto (tgt := 4) hx hb dX7_bridges_38 (by decide) ?_
        exact hL2 x1_3 (x2_1 + 1) g_right_3 g_down_3 hf _ _ _ ⟨hP, hD, hS⟩ (lv_sub hl [1, 2, 0] rfl)
      · intro J4 hJ4 hf
        refine qwalk4 (fun (x1_4 : Int32) (x3_1 : Int32) (g_right_4 : Int64) (g_down_4 : Int64) => ∀ (H : Heap) (locs : List Loc) (ls : Array Slot), ctW D A s ([oX7 sv g, oX1 g g_rows g_columns g_a g_b g_cells g_right_4 g_down_4]) H locs → lv_has ls 4 [(0, .ref sv), (1, .int x1_4), (2, .int x2_1), (3, .int x3_1)] → W p l e rmX7_bridges s m args below meth c H locs 0 0 Q (F0 m 12 ls [])) ?_ _ x1_2 (1 : Int32) g_right_2 g_down_2 hf _ _ _ ⟨hP, hD, hS⟩ (lv_sub hl [1, 2, 3, 0] rfl)
        intro J5 hL5 x1_4 x3_1 g_right_4 g_down_4 hf H locs ls ⟨hP, hD, hS⟩ hl
        refine lv_iload_n hx hb dX7_bridges_12 rfl (lv_at hl 3 rfl) ?_
        refine lv_iconst (v := 2) hx hb dX7_bridges_13 (by decide) ?_
        refine lv_icmp_gt (tgt := 35) hx hb dX7_bridges_14 (by decide) (fun c6 => ?_) (fun c6 => ?_)
        · have hf := qob_t hf c6
          have hf := qob_esc hf
          exact hJ4 x1_4 g_right_4 g_down_4 hf _ _ _ ⟨hP, hD, hS⟩ (lv_sub hl [0, 1, 2] rfl)
        · have hf := qob_f hf c6
          refine lv_aload_n hx hb dX7_bridges_17 rfl (lv_at hl 0 rfl) ?_
          refine lv_iload_n hx hb dX7_bridges_18 rfl (lv_at hl 2 rfl) ?_
          refine lv_iload_n hx hb dX7_bridges_19 rfl (lv_at hl 3 rfl) ?_
          obtain ⟨r_1, g_right_5, g_down_5, q7, hf⟩ := qcall3 hf
          refine ctV_i (r := r_1) (wc := [oX7 sv g, oX1 g g_rows g_columns g_a g_b g_cells g_right_4 g_down_4]) (w1 := [oX7 sv g, oX1 g g_rows g_columns g_a g_b g_cells g_right_5 g_down_5]) (wr := []) (wn := [oX7 sv g, oX1 g g_rows g_columns g_a g_b g_cells g_right_5 g_down_5]) (As := [.int x2_1, .int x3_1]) (rest := []) (q0 := 0) X hK hP hD hS [0, 1] [] [0, 1] rfl rfl rfl rfl rfl (by decide) rfl rfl rfl (KX7_isBridge q7 _) (cwV 2 hts gX7_bridges_X7_isBridge rfl rfl rfl hdX7_isBridge ⟨Nat.le_of_ble_eq_true rfl, Nat.le_of_ble_eq_true rfl⟩) rfl rfl rfl hl rfl (Nat.le_of_ble_eq_true rfl) dX7_bridges_20 (Nat.zero_le _) (Nat.zero_le _) (fun H locs hP hD hS => ?_)
          refine lv_if_eq (tgt := 29) hx hb dX7_bridges_23 (by decide) (fun c8 => ?_) (fun c8 => ?_)
          · have hf := qob_t hf c8
            refine lv_iinc (v := (x3_1 + 1)) (lv' := [(3, .int (x3_1 + 1)), (0, .ref sv), (1, .int x1_4), (2, .int x2_1)]) hx hb dX7_bridges_29 hl (k := 3) rfl rfl (by decide) rfl (fun ls hl => ?_)
            refine lv_goto (tgt := 12) hx hb dX7_bridges_32 (by decide) ?_
            exact hL5 x1_4 (x3_1 + 1) g_right_5 g_down_5 hf _ _ _ ⟨hP, hD, hS⟩ (lv_sub hl [1, 2, 3, 0] rfl)
          · have hf := qob_f hf c8
            refine lv_iinc (v := (x1_4 + 1)) (lv' := [(1, .int (x1_4 + 1)), (0, .ref sv), (2, .int x2_1), (3, .int x3_1)]) hx hb dX7_bridges_26 hl (k := 1) rfl rfl (by decide) rfl (fun ls hl => ?_)
            refine lv_iinc (v := (x3_1 + 1)) (lv' := [(3, .int (x3_1 + 1)), (1, .int (x1_4 + 1)), (0, .ref sv), (2, .int x2_1)]) hx hb dX7_bridges_29 hl (k := 3) rfl rfl (by decide) rfl (fun ls hl => ?_)
            refine lv_goto (tgt := 12) hx hb dX7_bridges_32 (by decide) ?_
            exact hL5 (x1_4 + 1) (x3_1 + 1) g_right_5 g_down_5 hf _ _ _ ⟨hP, hD, hS⟩ (lv_sub hl [2, 1, 3, 0] rfl)
theorem inwX7_mustCells_X1 : ∀ w ∈ wsX10, w ∈ wsX7_mustCells := fun _ h => List.mem_cons_of_mem _ (List.mem_append_right _ h)
theorem inwX7_mustCells_X7 : ∀ w ∈ wsX70, w ∈ wsX7_mustCells := fun _ h => List.mem_cons_of_mem _ (List.mem_append_left _ (List.mem_append_right _ h))
abbrev rmX7_mustCells : Room := { frames := 2, cells := 0, slots := 0, locals := 51 }
theorem hdX7_mustCells : yX7_mustCells.cls = RX7 ∧ yX7_mustCells.cls ≠ "java/lang/invoke/MethodHandle" ∧ yX7_mustCells.cls ≠ "java/lang/invoke/VarHandle" ∧ (parseMethodDescriptor yX7_mustCells.desc).map (fun d => d.parameters.length) = some 0 := by decide +kernel
set_option maxHeartbeats 4000000 in
set_option maxRecDepth 100000 in
theorem KX7_mustCells {l : Launch} {D : va_G} {cy : Nat → ClassId} {sv g : Nat} {g_rows : Int32} {g_columns : Int32} {g_a : Int32} {g_b : Int32} {g_cells : Int64} {g_right : Int64} {g_down : Int64}  {r : Int64} (hf : fX7_mustCells g_a g_b g_cells g_right g_down = some r) : CtL l yX7_mustCells wsX7_mustCells rmX7_mustCells D cy [.ref sv] ([oX7 sv g, oX1 g g_rows g_columns g_a g_b g_cells g_right g_down]) ([oX7 sv g, oX1 g g_rows g_columns g_a g_b g_cells g_right g_down]) r := by
  refine CtL.of (cc := cX7_mustCells) (maxL := 10) (ret := some .long) (own := RX7) (by decide) rfl rfl (Nat.le_of_ble_eq_true rfl) ?_
  intro p e s m args below meth c A Q X hQ hK hP hD hS ls hl
  obtain ⟨hx, hb, hml, hown, hts, hr, hlocks, hA, hZ⟩ := id X
  have hl : lv_has ls 10 [(0, .ref sv)] := hl
  unfold fX7_mustCells at hf
  have hf := qob_top hf
  refine lv_aload_n hx hb dX7_mustCells_0 rfl (lv_at hl 0 rfl) ?_
  refine va_get (D := D) (ci := 7) (v := .ref g) (C := RX7) (T := TX7) (N := 1) hx hb hts inwX7_mustCells_X7 hown hK hP 0 rfl rfl 0 (by decide) (hts (.fieldLink RX7 9 "HedgeWays$Survey" "grid" "LHedgeWays$Grid;") (List.mem_of_getElem? (i := 1) rfl)) (fun _ h9 => h9) rfl dX7_mustCells_1 ?_
  refine va_get (D := D) (ci := 1) (v := .int g_a) (C := RX1) (T := TX1) (N := 7) hx hb hts inwX7_mustCells_X1 hown hK hP 1 rfl rfl 2 (by decide) (hts (.fieldLink RX7 51 "HedgeWays$Grid" "a" "I") (List.mem_of_getElem? (i := 2) rfl)) (fun _ h9 => h9) rfl dX7_mustCells_4 ?_
  refine ctS_l0 (r := (fX1_bit g_a)) (wc := []) (As := [.int g_a]) (rest := []) X hK hP hD hS [] rfl rfl rfl (KX1_bit rfl _) (va_cwS 1 hts gX7_mustCells_X1_bit rfl rfl rfl hdX1_bit ⟨Nat.le_of_ble_eq_true rfl, Nat.le_of_ble_eq_true rfl⟩) rfl hl rfl (Nat.le_of_ble_eq_true rfl) dX7_mustCells_7 (Nat.zero_le _) (Nat.zero_le _) (fun H locs hP hS => ?_)
  refine lv_lstore_n (lv' := [(1, .long (fX1_bit g_a)), (0, .ref sv)]) hx hb dX7_mustCells_10 rfl hl (by decide) rfl (fun ls hl => ?_)
  refine lv_aload_n hx hb dX7_mustCells_11 rfl (lv_at hl 1 rfl) ?_
  refine va_get (D := D) (ci := 7) (v := .ref g) (C := RX7) (T := TX7) (N := 1) hx hb hts inwX7_mustCells_X7 hown hK hP 0 rfl rfl 0 (by decide) (hts (.fieldLink RX7 9 "HedgeWays$Survey" "grid" "LHedgeWays$Grid;") (List.mem_of_getElem? (i := 1) rfl)) (fun _ h9 => h9) rfl dX7_mustCells_12 ?_
  refine lv_lload_n hx hb dX7_mustCells_15 rfl (lv_at hl 0 rfl) ?_
  refine lv_aload_n hx hb dX7_mustCells_16 rfl (lv_at hl 1 rfl) ?_
  refine va_get (D := D) (ci := 7) (v := .ref g) (C := RX7) (T := TX7) (N := 1) hx hb hts inwX7_mustCells_X7 hown hK hP 0 rfl rfl 0 (by decide) (hts (.fieldLink RX7 9 "HedgeWays$Survey" "grid" "LHedgeWays$Grid;") (List.mem_of_getElem? (i := 1) rfl)) (fun _ h9 => h9) rfl dX7_mustCells_17 ?_
  refine va_get (D := D) (ci := 1) (v := .long g_cells) (C := RX1) (T := TX1) (N := 7) hx hb hts inwX7_mustCells_X1 hown hK hP 1 rfl rfl 4 (by decide) (hts (.fieldLink RX7 15 "HedgeWays$Grid" "cells" "J") (List.mem_of_getElem? (i := 3) rfl)) (fun _ h9 => h9) rfl dX7_mustCells_20 ?_
  obtain ⟨r_1, q1, hf⟩ := qcall1 hf
  refine ctV_l0 (r := r_1) (wc := [oX1 g g_rows g_columns g_a g_b g_cells g_right g_down]) (As := [.long (fX1_bit g_a), .long g_cells]) (rest := []) (q0 := 1) X hK hP hD hS [1] rfl rfl rfl (KX1_flood q1 _) (cwV 2 hts gX7_mustCells_X1_flood rfl rfl rfl hdX1_flood ⟨Nat.le_of_ble_eq_true rfl, Nat.le_of_ble_eq_true rfl⟩) rfl rfl rfl hl rfl (Nat.le_of_ble_eq_true rfl) dX7_mustCells_23 (Nat.zero_le _) (Nat.zero_le _) (fun H locs hP hS => ?_)
  refine lv_lstore_n (lv' := [(3, .long r_1), (1, .long (fX1_bit g_a)), (0, .ref sv)]) hx hb dX7_mustCells_26 rfl hl (by decide) rfl (fun ls hl => ?_)
  refine lv_lload_n hx hb dX7_mustCells_27 rfl (lv_at hl 0 rfl) ?_
  refine lv_aload_n hx hb dX7_mustCells_28 rfl (lv_at hl 2 rfl) ?_
  refine va_get (D := D) (ci := 7) (v := .ref g) (C := RX7) (T := TX7) (N := 1) hx hb hts inwX7_mustCells_X7 hown hK hP 0 rfl rfl 0 (by decide) (hts (.fieldLink RX7 9 "HedgeWays$Survey" "grid" "LHedgeWays$Grid;") (List.mem_of_getElem? (i := 1) rfl)) (fun _ h9 => h9) rfl dX7_mustCells_29 ?_
  refine va_get (D := D) (ci := 1) (v := .int g_b) (C := RX1) (T := TX1) (N := 7) hx hb hts inwX7_mustCells_X1 hown hK hP 1 rfl rfl 3 (by decide) (hts (.fieldLink RX7 62 "HedgeWays$Grid" "b" "I") (List.mem_of_getElem? (i := 4) rfl)) (fun _ h9 => h9) rfl dX7_mustCells_32 ?_
  refine ctS_i0 (r := (fX1_has r_1 g_b)) (wc := []) (As := [.long r_1, .int g_b]) (rest := []) X hK hP hD hS [] rfl rfl rfl (KX1_has rfl _) (va_cwS 2 hts gX7_mustCells_X1_has rfl rfl rfl hdX1_has ⟨Nat.le_of_ble_eq_true rfl, Nat.le_of_ble_eq_true rfl⟩) rfl hl rfl (Nat.le_of_ble_eq_true rfl) dX7_mustCells_35 (Nat.zero_le _) (Nat.zero_le _) (fun H locs hP hS => ?_)
  refine lv_if_ne (tgt := 43) hx hb dX7_mustCells_38 (by decide) (fun c2 => ?_) (fun c2 => ?_)
  · have hf := qob_f hf c2
    refine lv_lload_n hx hb dX7_mustCells_43 rfl (lv_at hl 1 rfl) ?_
    refine lv_aload_n hx hb dX7_mustCells_44 rfl (lv_at hl 2 rfl) ?_
    refine va_get (D := D) (ci := 7) (v := .ref g) (C := RX7) (T := TX7) (N := 1) hx hb hts inwX7_mustCells_X7 hown hK hP 0 rfl rfl 0 (by decide) (hts (.fieldLink RX7 9 "HedgeWays$Survey" "grid" "LHedgeWays$Grid;") (List.mem_of_getElem? (i := 1) rfl)) (fun _ h9 => h9) rfl dX7_mustCells_45 ?_
    refine va_get (D := D) (ci := 1) (v := .int g_b) (C := RX1) (T := TX1) (N := 7) hx hb hts inwX7_mustCells_X1 hown hK hP 1 rfl rfl 3 (by decide) (hts (.fieldLink RX7 62 "HedgeWays$Grid" "b" "I") (List.mem_of_getElem? (i := 4) rfl)) (fun _ h9 => h9) rfl dX7_mustCells_48 ?_
    refine ctS_l0 (r := (fX1_bit g_b)) (wc := []) (As := [.int g_b]) (rest := [.long (fX1_bit g_a)]) X hK hP hD hS [] rfl rfl rfl (KX1_bit rfl _) (va_cwS 1 hts gX7_mustCells_X1_bit rfl rfl rfl hdX1_bit ⟨Nat.le_of_ble_eq_true rfl, Nat.le_of_ble_eq_true rfl⟩) rfl hl rfl (Nat.le_of_ble_eq_true rfl) dX7_mustCells_51 (Nat.zero_le _) (Nat.zero_le _) (fun H locs hP hS => ?_)
    refine lv_lor hx hb dX7_mustCells_54 ?_
    refine lv_lstore (lv' := [(5, .long ((fX1_bit g_a) ||| (fX1_bit g_b))), (3, .long r_1), (1, .long (fX1_bit g_a)), (0, .ref sv)]) hx hb dX7_mustCells_55 hl (by decide) rfl (fun ls hl => ?_)
    refine lv_iconst (v := 0) hx hb dX7_mustCells_57 (by decide) ?_
    refine lv_istore (lv' := [(7, .int 0), (5, .long ((fX1_bit g_a) ||| (fX1_bit g_b))), (3, .long r_1), (1, .long (fX1_bit g_a)), (0, .ref sv)]) hx hb dX7_mustCells_58 hl (by decide) rfl (fun ls hl => ?_)
    refine qjoin1 hf (fun (x5_1 : Int64) => ∀ (H : Heap) (locs : List Loc) (ls : Array Slot), ctW D A s ([oX7 sv g, oX1 g g_rows g_columns g_a g_b g_cells g_right g_down]) H locs → lv_has ls 10 [(5, .long x5_1)] → W p l e rmX7_mustCells s m args below meth c H locs 0 0 Q (F0 m 128 ls [])) ?_ ?_
    · intro x5_1 hf H locs ls ⟨hP, hD, hS⟩ hl
      refine lv_lload hx hb dX7_mustCells_128 (lv_at hl 0 rfl) ?_
      cases qob_ret hf
      exact ct_lret X hQ hK hP hD hS rfl dX7_mustCells_130
    · intro J3 hJ3 hf
      refine qwalk2 (fun (x5_2 : Int64) (x7_1 : Int32) => ∀ (H : Heap) (locs : List Loc) (ls : Array Slot), ctW D A s ([oX7 sv g, oX1 g g_rows g_columns g_a g_b g_cells g_right g_down]) H locs → lv_has ls 10 [(0, .ref sv), (1, .long (fX1_bit g_a)), (3, .long r_1), (5, .long x5_2), (7, .int x7_1)] → W p l e rmX7_mustCells s m args below meth c H locs 0 0 Q (F0 m 60 ls [])) ?_ _ ((fX1_bit g_a) ||| (fX1_bit g_b)) (0 : Int32) hf _ _ _ ⟨hP, hD, hS⟩ (lv_sub hl [4, 3, 2, 1, 0] rfl)
      intro J4 hL4 x5_2 x7_1 hf H locs ls ⟨hP, hD, hS⟩ hl
      refine lv_iload hx hb dX7_mustCells_60 (lv_at hl 4 rfl) ?_
      refine lv_bipush (v := 48) hx hb dX7_mustCells_62 (by decide) ?_
      refine lv_icmp_ge (tgt := 128) hx hb dX7_mustCells_64 (by decide) (fun c5 => ?_) (fun c5 => ?_)
      · have hf := qob_t hf c5
        have hf := qob_esc hf
        exact hJ3 x5_2 hf _ _ _ ⟨hP, hD, hS⟩ (lv_sub hl [3] rfl)
      · have hf := qob_f hf c5
        refine lv_lload_n hx hb dX7_mustCells_67 rfl (lv_at hl 2 rfl) ?_
        refine lv_iload hx hb dX7_mustCells_68 (lv_at hl 4 rfl) ?_
        refine ctS_l0 (r := (fX1_bit x7_1)) (wc := []) (As := [.int x7_1]) (rest := [.long r_1]) X hK hP hD hS [] rfl rfl rfl (KX1_bit rfl _) (va_cwS 1 hts gX7_mustCells_X1_bit rfl rfl rfl hdX1_bit ⟨Nat.le_of_ble_eq_true rfl, Nat.le_of_ble_eq_true rfl⟩) rfl hl rfl (Nat.le_of_ble_eq_true rfl) dX7_mustCells_70 (Nat.zero_le _) (Nat.zero_le _) (fun H locs hP hS => ?_)
        refine lv_ldc2 hx hb hown (hts (.constantLong RX7 29 (-1)) (List.mem_of_getElem? (i := 5) rfl)) dX7_mustCells_73 ?_
        refine lv_lxor hx hb dX7_mustCells_76 ?_
        refine lv_land hx hb dX7_mustCells_77 ?_
        refine lv_lstore (lv' := [(8, .long (r_1 &&& ((fX1_bit x7_1) ^^^ (-1)))), (0, .ref sv), (1, .long (fX1_bit g_a)), (3, .long r_1), (5, .long x5_2), (7, .int x7_1)]) hx hb dX7_mustCells_78 hl (by decide) rfl (fun ls hl => ?_)
        refine lv_lload_n hx hb dX7_mustCells_80 rfl (lv_at hl 3 rfl) ?_
        refine lv_iload hx hb dX7_mustCells_81 (lv_at hl 5 rfl) ?_
        refine ctS_i0 (r := (fX1_has r_1 x7_1)) (wc := []) (As := [.long r_1, .int x7_1]) (rest := []) X hK hP hD hS [] rfl rfl rfl (KX1_has rfl _) (va_cwS 2 hts gX7_mustCells_X1_has rfl rfl rfl hdX1_has ⟨Nat.le_of_ble_eq_true rfl, Nat.le_of_ble_eq_true rfl⟩) rfl hl rfl (Nat.le_of_ble_eq_true rfl) dX7_mustCells_83 (Nat.zero_le _) (Nat.zero_le _) (fun H locs hP hS => ?_)
        refine lv_if_eq (tgt := 122) hx hb dX7_mustCells_86 (by decide) (fun c6 => ?_) (fun c6 => ?_)
        · have hf := qob_t hf c6
          refine lv_iinc (v := (x7_1 + 1)) (lv' := [(7, .int (x7_1 + 1)), (8, .long (r_1 &&& ((fX1_bit x7_1) ^^^ (-1)))), (0, .ref sv), (1, .long (fX1_bit g_a)), (3, .long r_1), (5, .long x5_2)]) hx hb dX7_mustCells_122 hl (k := 5) rfl rfl (by decide) rfl (fun ls hl => ?_)
          refine lv_goto (tgt := 60) hx hb dX7_mustCells_125 (by decide) ?_
          exact hL4 x5_2 (x7_1 + 1) hf _ _ _ ⟨hP, hD, hS⟩ (lv_sub hl [2, 3, 4, 5, 0] rfl)
        · have hf := qob_f hf c6
          refine lv_aload_n hx hb dX7_mustCells_89 rfl (lv_at hl 1 rfl) ?_
          refine va_get (D := D) (ci := 7) (v := .ref g) (C := RX7) (T := TX7) (N := 1) hx hb hts inwX7_mustCells_X7 hown hK hP 0 rfl rfl 0 (by decide) (hts (.fieldLink RX7 9 "HedgeWays$Survey" "grid" "LHedgeWays$Grid;") (List.mem_of_getElem? (i := 1) rfl)) (fun _ h9 => h9) rfl dX7_mustCells_90 ?_
          refine lv_lload_n hx hb dX7_mustCells_93 rfl (lv_at hl 2 rfl) ?_
          refine lv_lload hx hb dX7_mustCells_94 (lv_at hl 0 rfl) ?_
          obtain ⟨r_2, q7, hf⟩ := qcall1 hf
          refine ctV_l0 (r := r_2) (wc := [oX1 g g_rows g_columns g_a g_b g_cells g_right g_down]) (As := [.long (fX1_bit g_a), .long (r_1 &&& ((fX1_bit x7_1) ^^^ (-1)))]) (rest := []) (q0 := 1) X hK hP hD hS [1] rfl rfl rfl (KX1_flood q7 _) (cwV 2 hts gX7_mustCells_X1_flood rfl rfl rfl hdX1_flood ⟨Nat.le_of_ble_eq_true rfl, Nat.le_of_ble_eq_true rfl⟩) rfl rfl rfl hl rfl (Nat.le_of_ble_eq_true rfl) dX7_mustCells_96 (Nat.zero_le _) (Nat.zero_le _) (fun H locs hP hS => ?_)
          refine lv_aload_n hx hb dX7_mustCells_99 rfl (lv_at hl 1 rfl) ?_
          refine va_get (D := D) (ci := 7) (v := .ref g) (C := RX7) (T := TX7) (N := 1) hx hb hts inwX7_mustCells_X7 hown hK hP 0 rfl rfl 0 (by decide) (hts (.fieldLink RX7 9 "HedgeWays$Survey" "grid" "LHedgeWays$Grid;") (List.mem_of_getElem? (i := 1) rfl)) (fun _ h9 => h9) rfl dX7_mustCells_100 ?_
          refine va_get (D := D) (ci := 1) (v := .int g_b) (C := RX1) (T := TX1) (N := 7) hx hb hts inwX7_mustCells_X1 hown hK hP 1 rfl rfl 3 (by decide) (hts (.fieldLink RX7 62 "HedgeWays$Grid" "b" "I") (List.mem_of_getElem? (i := 4) rfl)) (fun _ h9 => h9) rfl dX7_mustCells_103 ?_
          refine ctS_i0 (r := (fX1_has r_2 g_b)) (wc := []) (As := [.long r_2, .int g_b]) (rest := []) X hK hP hD hS [] rfl rfl rfl (KX1_has rfl _) (va_cwS 2 hts gX7_mustCells_X1_has rfl rfl rfl hdX1_has ⟨Nat.le_of_ble_eq_true rfl, Nat.le_of_ble_eq_true rfl⟩) rfl hl rfl (Nat.le_of_ble_eq_true rfl) dX7_mustCells_106 (Nat.zero_le _) (Nat.zero_le _) (fun H locs hP hS => ?_)
          refine lv_if_ne (tgt := 122) hx hb dX7_mustCells_109 (by decide) (fun c8 => ?_) (fun c8 => ?_)
          · have hf := qob_f hf c8
            refine lv_iinc (v := (x7_1 + 1)) (lv' := [(7, .int (x7_1 + 1)), (8, .long (r_1 &&& ((fX1_bit x7_1) ^^^ (-1)))), (0, .ref sv), (1, .long (fX1_bit g_a)), (3, .long r_1), (5, .long x5_2)]) hx hb dX7_mustCells_122 hl (k := 5) rfl rfl (by decide) rfl (fun ls hl => ?_)
            refine lv_goto (tgt := 60) hx hb dX7_mustCells_125 (by decide) ?_
            exact hL4 x5_2 (x7_1 + 1) hf _ _ _ ⟨hP, hD, hS⟩ (lv_sub hl [2, 3, 4, 5, 0] rfl)
          · have hf := qob_t hf c8
            refine lv_lload hx hb dX7_mustCells_112 (lv_at hl 4 rfl) ?_
            refine lv_iload hx hb dX7_mustCells_114 (lv_at hl 5 rfl) ?_
            refine ctS_l0 (r := (fX1_bit x7_1)) (wc := []) (As := [.int x7_1]) (rest := [.long x5_2]) X hK hP hD hS [] rfl rfl rfl (KX1_bit rfl _) (va_cwS 1 hts gX7_mustCells_X1_bit rfl rfl rfl hdX1_bit ⟨Nat.le_of_ble_eq_true rfl, Nat.le_of_ble_eq_true rfl⟩) rfl hl rfl (Nat.le_of_ble_eq_true rfl) dX7_mustCells_116 (Nat.zero_le _) (Nat.zero_le _) (fun H locs hP hS => ?_)
            refine lv_lor hx hb dX7_mustCells_119 ?_
            refine lv_lstore (lv' := [(5, .long (x5_2 ||| (fX1_bit x7_1))), (8, .long (r_1 &&& ((fX1_bit x7_1) ^^^ (-1)))), (0, .ref sv), (1, .long (fX1_bit g_a)), (3, .long r_1), (7, .int x7_1)]) hx hb dX7_mustCells_120 hl (by decide) rfl (fun ls hl => ?_)
            refine lv_iinc (v := (x7_1 + 1)) (lv' := [(7, .int (x7_1 + 1)), (5, .long (x5_2 ||| (fX1_bit x7_1))), (8, .long (r_1 &&& ((fX1_bit x7_1) ^^^ (-1)))), (0, .ref sv), (1, .long (fX1_bit g_a)), (3, .long r_1)]) hx hb dX7_mustCells_122 hl (k := 5) rfl rfl (by decide) rfl (fun ls hl => ?_)
            refine lv_goto (tgt := 60) hx hb dX7_mustCells_125 (by decide) ?_
            exact hL4 (x5_2 ||| (fX1_bit x7_1)) (x7_1 + 1) hf _ _ _ ⟨hP, hD, hS⟩ (lv_sub hl [3, 4, 5, 1, 0] rfl)
  · have hf := qob_t hf c2
    refine lv_lconst (v := 0) hx hb dX7_mustCells_41 (by decide) ?_
    cases qob_ret hf
    exact ct_lret X hQ hK hP hD hS rfl dX7_mustCells_42
theorem inwX7_isDeadEnd_X7 : ∀ w ∈ wsX70, w ∈ wsX7_isDeadEnd := fun _ h => List.mem_cons_of_mem _ (List.mem_append_left _ (List.mem_append_right _ h))
abbrev rmX7_isDeadEnd : Room := { frames := 1, cells := 0, slots := 0, locals := 22 }
theorem hdX7_isDeadEnd : yX7_isDeadEnd.cls = RX7 ∧ yX7_isDeadEnd.cls ≠ "java/lang/invoke/MethodHandle" ∧ yX7_isDeadEnd.cls ≠ "java/lang/invoke/VarHandle" ∧ (parseMethodDescriptor yX7_isDeadEnd.desc).map (fun d => d.parameters.length) = some 2 := by decide +kernel
set_option maxHeartbeats 4000000 in
set_option maxRecDepth 100000 in
theorem KX7_isDeadEnd {l : Launch} {D : va_G} {cy : Nat → ClassId} {sv g : Nat} {g_rows : Int32} {g_columns : Int32} {g_a : Int32} {g_b : Int32} {g_cells : Int64} {g_right : Int64} {g_down : Int64} {p1 : Int32} {p2 : Int64} {r : Int32} (hf : fX7_isDeadEnd g_right g_down p1 p2 = r) : CtI l yX7_isDeadEnd wsX7_isDeadEnd rmX7_isDeadEnd D cy [.ref sv, .int p1, .long p2] ([oX7 sv g, oX1 g g_rows g_columns g_a g_b g_cells g_right g_down]) ([oX7 sv g, oX1 g g_rows g_columns g_a g_b g_cells g_right g_down]) r := by
  refine CtI.of (cc := cX7_isDeadEnd) (maxL := 6) (ret := some .boolean) (own := RX7) (by decide) rfl rfl (Nat.le_of_ble_eq_true rfl) ?_
  intro p e s m args below meth c A Q X hQ hK hP hD hS ls hl
  obtain ⟨hx, hb, hml, hown, hts, hr, hlocks, hA, hZ⟩ := id X
  have hl : lv_has ls 6 [(0, .ref sv), (1, .int p1), (2, .long p2)] := hl
  unfold fX7_isDeadEnd at hf
  have hf := qbb_top hf
  refine lv_aload_n hx hb dX7_isDeadEnd_0 rfl (lv_at hl 0 rfl) ?_
  refine va_get (D := D) (ci := 7) (v := .ref g) (C := RX7) (T := TX7) (N := 1) hx hb hts inwX7_isDeadEnd_X7 hown hK hP 0 rfl rfl 0 (by decide) (hts (.fieldLink RX7 9 "HedgeWays$Survey" "grid" "LHedgeWays$Grid;") (List.mem_of_getElem? (i := 1) rfl)) (fun _ h9 => h9) rfl dX7_isDeadEnd_1 ?_
  refine lv_iload_n hx hb dX7_isDeadEnd_4 rfl (lv_at hl 1 rfl) ?_
  refine ctS_l0 (r := (fX1_bit p1)) (wc := []) (As := [.int p1]) (rest := [.ref g]) X hK hP hD hS [] rfl rfl rfl (KX1_bit rfl _) (va_cwS 1 hts gX7_isDeadEnd_X1_bit rfl rfl rfl hdX1_bit ⟨Nat.le_of_ble_eq_true rfl, Nat.le_of_ble_eq_true rfl⟩) rfl hl rfl (Nat.le_of_ble_eq_true rfl) dX7_isDeadEnd_5 (Nat.zero_le _) (Nat.zero_le _) (fun H locs hP hS => ?_)
  refine ctV_l0 (r := (fX1_near g_right g_down (fX1_bit p1))) (wc := [oX1 g g_rows g_columns g_a g_b g_cells g_right g_down]) (As := [.long (fX1_bit p1)]) (rest := []) (q0 := 1) X hK hP hD hS [1] rfl rfl rfl (KX1_near rfl _) (cwV 1 hts gX7_isDeadEnd_X1_near rfl rfl rfl hdX1_near ⟨Nat.le_of_ble_eq_true rfl, Nat.le_of_ble_eq_true rfl⟩) rfl rfl rfl hl rfl (Nat.le_of_ble_eq_true rfl) dX7_isDeadEnd_8 (Nat.zero_le _) (Nat.zero_le _) (fun H locs hP hS => ?_)
  refine lv_lload_n hx hb dX7_isDeadEnd_11 rfl (lv_at hl 2 rfl) ?_
  refine lv_land hx hb dX7_isDeadEnd_12 ?_
  refine lv_iload_n hx hb dX7_isDeadEnd_13 rfl (lv_at hl 1 rfl) ?_
  refine ctS_l0 (r := (fX1_bit p1)) (wc := []) (As := [.int p1]) (rest := [.long ((fX1_near g_right g_down (fX1_bit p1)) &&& p2)]) X hK hP hD hS [] rfl rfl rfl (KX1_bit rfl _) (va_cwS 1 hts gX7_isDeadEnd_X1_bit rfl rfl rfl hdX1_bit ⟨Nat.le_of_ble_eq_true rfl, Nat.le_of_ble_eq_true rfl⟩) rfl hl rfl (Nat.le_of_ble_eq_true rfl) dX7_isDeadEnd_14 (Nat.zero_le _) (Nat.zero_le _) (fun H locs hP hS => ?_)
  refine lv_ldc2 hx hb hown (hts (.constantLong RX7 29 (-1)) (List.mem_of_getElem? (i := 2) rfl)) dX7_isDeadEnd_17 ?_
  refine lv_lxor hx hb dX7_isDeadEnd_20 ?_
  refine lv_land hx hb dX7_isDeadEnd_21 ?_
  refine lv_topl (fun x4_1 e1 => ?_)
  have hf := qbb_bd hf e1
  refine lv_lstore (lv' := [(4, .long x4_1), (0, .ref sv), (1, .int p1), (2, .long p2)]) hx hb dX7_isDeadEnd_22 hl (by decide) rfl (fun ls hl => ?_)
  refine lv_lload hx hb dX7_isDeadEnd_24 (lv_at hl 0 rfl) ?_
  refine ctS_i0 (r := (fJ13_bitCount_95d88 x4_1)) (wc := []) (As := [.long x4_1]) (rest := []) X hK hP hD hS [] rfl rfl rfl (KJ13_bitCount_95d88 rfl _) (va_cwS 1 hts gX7_isDeadEnd_J13_bitCount_95d88 rfl rfl rfl hdJ13_bitCount_95d88 ⟨Nat.le_of_ble_eq_true rfl, Nat.le_of_ble_eq_true rfl⟩) rfl hl rfl (Nat.le_of_ble_eq_true rfl) dX7_isDeadEnd_26 (Nat.zero_le _) (Nat.zero_le _) (fun H locs hP hS => ?_)
  refine lv_iconst (v := 1) hx hb dX7_isDeadEnd_29 (by decide) ?_
  refine lv_icmp_gt (tgt := 37) hx hb dX7_isDeadEnd_30 (by decide) (fun c2 => ?_) (fun c2 => ?_)
  · have hf := qbb_t hf c2
    refine lv_iconst (v := 0) hx hb dX7_isDeadEnd_37 (by decide) ?_
    cases qbb_ret hf
    exact ct_zret X hQ hK hP hD hS qnb0 dX7_isDeadEnd_38
  · have hf := qbb_f hf c2
    refine lv_iconst (v := 1) hx hb dX7_isDeadEnd_33 (by decide) ?_
    refine lv_goto (tgt := 38) hx hb dX7_isDeadEnd_34 (by decide) ?_
    cases qbb_ret hf
    exact ct_zret X hQ hK hP hD hS qnb1 dX7_isDeadEnd_38
theorem inwX7_leftCells_X1 : ∀ w ∈ wsX10, w ∈ wsX7_leftCells := fun _ h => List.mem_cons_of_mem _ (List.mem_append_right _ h)
theorem inwX7_leftCells_X7 : ∀ w ∈ wsX70, w ∈ wsX7_leftCells := fun _ h => List.mem_cons_of_mem _ (List.mem_append_left _ (List.mem_append_right _ h))
abbrev rmX7_leftCells : Room := { frames := 2, cells := 0, slots := 0, locals := 47 }
theorem hdX7_leftCells : yX7_leftCells.cls = RX7 ∧ yX7_leftCells.cls ≠ "java/lang/invoke/MethodHandle" ∧ yX7_leftCells.cls ≠ "java/lang/invoke/VarHandle" ∧ (parseMethodDescriptor yX7_leftCells.desc).map (fun d => d.parameters.length) = some 0 := by decide +kernel
set_option maxHeartbeats 4000000 in
set_option maxRecDepth 100000 in
theorem KX7_leftCells {l : Launch} {D : va_G} {cy : Nat → ClassId} {sv g : Nat} {g_rows : Int32} {g_columns : Int32} {g_a : Int32} {g_b : Int32} {g_cells : Int64} {g_right : Int64} {g_down : Int64}  {r : Int64} (hf : fX7_leftCells g_a g_b g_cells g_right g_down = some r) : CtL l yX7_leftCells wsX7_leftCells rmX7_leftCells D cy [.ref sv] ([oX7 sv g, oX1 g g_rows g_columns g_a g_b g_cells g_right g_down]) ([oX7 sv g, oX1 g g_rows g_columns g_a g_b g_cells g_right g_down]) r := by
  refine CtL.of (cc := cX7_leftCells) (maxL := 7) (ret := some .long) (own := RX7) (by decide) rfl rfl (Nat.le_of_ble_eq_true rfl) ?_
  intro p e s m args below meth c A Q X hQ hK hP hD hS ls hl
  obtain ⟨hx, hb, hml, hown, hts, hr, hlocks, hA, hZ⟩ := id X
  have hl : lv_has ls 7 [(0, .ref sv)] := hl
  unfold fX7_leftCells at hf
  have hf := qob_top hf
  refine lv_aload_n hx hb dX7_leftCells_0 rfl (lv_at hl 0 rfl) ?_
  refine va_get (D := D) (ci := 7) (v := .ref g) (C := RX7) (T := TX7) (N := 1) hx hb hts inwX7_leftCells_X7 hown hK hP 0 rfl rfl 0 (by decide) (hts (.fieldLink RX7 9 "HedgeWays$Survey" "grid" "LHedgeWays$Grid;") (List.mem_of_getElem? (i := 1) rfl)) (fun _ h9 => h9) rfl dX7_leftCells_1 ?_
  refine va_get (D := D) (ci := 1) (v := .long g_cells) (C := RX1) (T := TX1) (N := 7) hx hb hts inwX7_leftCells_X1 hown hK hP 1 rfl rfl 4 (by decide) (hts (.fieldLink RX7 15 "HedgeWays$Grid" "cells" "J") (List.mem_of_getElem? (i := 2) rfl)) (fun _ h9 => h9) rfl dX7_leftCells_4 ?_
  refine lv_lstore_n (lv' := [(1, .long g_cells), (0, .ref sv)]) hx hb dX7_leftCells_7 rfl hl (by decide) rfl (fun ls hl => ?_)
  refine lv_iconst (v := 0) hx hb dX7_leftCells_8 (by decide) ?_
  refine lv_istore_n (lv' := [(3, .int 0), (1, .long g_cells), (0, .ref sv)]) hx hb dX7_leftCells_9 rfl hl (by decide) rfl (fun ls hl => ?_)
  refine qjoin1 hf (fun (x1_1 : Int64) => ∀ (H : Heap) (locs : List Loc) (ls : Array Slot), ctW D A s ([oX7 sv g, oX1 g g_rows g_columns g_a g_b g_cells g_right g_down]) H locs → lv_has ls 7 [(1, .long x1_1)] → W p l e rmX7_leftCells s m args below meth c H locs 0 0 Q (F0 m 97 ls [])) ?_ ?_
  · intro x1_1 hf H locs ls ⟨hP, hD, hS⟩ hl
    refine lv_lload_n hx hb dX7_leftCells_97 rfl (lv_at hl 0 rfl) ?_
    cases qob_ret hf
    exact ct_lret X hQ hK hP hD hS rfl dX7_leftCells_98
  · intro J1 hJ1 hf
    refine qwalk2 (fun (x1_2 : Int64) (x3_1 : Int32) => ∀ (H : Heap) (locs : List Loc) (ls : Array Slot), ctW D A s ([oX7 sv g, oX1 g g_rows g_columns g_a g_b g_cells g_right g_down]) H locs → lv_has ls 7 [(0, .ref sv), (1, .long x1_2), (3, .int x3_1)] → W p l e rmX7_leftCells s m args below meth c H locs 0 0 Q (F0 m 10 ls [])) ?_ _ g_cells (0 : Int32) hf _ _ _ ⟨hP, hD, hS⟩ (lv_sub hl [2, 1, 0] rfl)
    intro J2 hL2 x1_2 x3_1 hf H locs ls ⟨hP, hD, hS⟩ hl
    refine lv_iload_n hx hb dX7_leftCells_10 rfl (lv_at hl 2 rfl) ?_
    refine lv_bipush (v := 36) hx hb dX7_leftCells_11 (by decide) ?_
    refine lv_icmp_ge (tgt := 97) hx hb dX7_leftCells_13 (by decide) (fun c3 => ?_) (fun c3 => ?_)
    · have hf := qob_t hf c3
      have hf := qob_esc hf
      exact hJ1 x1_2 hf _ _ _ ⟨hP, hD, hS⟩ (lv_sub hl [1] rfl)
    · have hf := qob_f hf c3
      refine lv_lload_n hx hb dX7_leftCells_16 rfl (lv_at hl 1 rfl) ?_
      refine lv_lstore (lv' := [(4, .long x1_2), (0, .ref sv), (1, .long x1_2), (3, .int x3_1)]) hx hb dX7_leftCells_17 hl (by decide) rfl (fun ls hl => ?_)
      refine lv_iconst (v := 0) hx hb dX7_leftCells_19 (by decide) ?_
      refine lv_istore (lv' := [(6, .int 0), (4, .long x1_2), (0, .ref sv), (1, .long x1_2), (3, .int x3_1)]) hx hb dX7_leftCells_20 hl (by decide) rfl (fun ls hl => ?_)
      refine qjoin1 hf (fun (x1_3 : Int64) => ∀ (H : Heap) (locs : List Loc) (ls : Array Slot), ctW D A s ([oX7 sv g, oX1 g g_rows g_columns g_a g_b g_cells g_right g_down]) H locs → lv_has ls 7 [(0, .ref sv), (1, .long x1_3), (3, .int x3_1), (4, .long x1_2)] → W p l e rmX7_leftCells s m args below meth c H locs 0 0 Q (F0 m 81 ls [])) ?_ ?_
      · intro x1_3 hf H locs ls ⟨hP, hD, hS⟩ hl
        refine lv_lload_n hx hb dX7_leftCells_81 rfl (lv_at hl 1 rfl) ?_
        refine lv_lload hx hb dX7_leftCells_82 (lv_at hl 3 rfl) ?_
        refine W.lcmp hx hb dX7_leftCells_84 ?_
        refine lv_if_ne (tgt := 91) hx hb dX7_leftCells_85 (by decide) (fun c4 => ?_) (fun c4 => ?_)
        · have hf := qob_f hf c4
          refine lv_iinc (v := (x3_1 + 1)) (lv' := [(3, .int (x3_1 + 1)), (0, .ref sv), (1, .long x1_3), (4, .long x1_2)]) hx hb dX7_leftCells_91 hl (k := 2) rfl rfl (by decide) rfl (fun ls hl => ?_)
          refine lv_goto (tgt := 10) hx hb dX7_leftCells_94 (by decide) ?_
          exact hL2 x1_3 (x3_1 + 1) hf _ _ _ ⟨hP, hD, hS⟩ (lv_sub hl [1, 2, 0] rfl)
        · have hf := qob_t hf c4
          refine lv_goto (tgt := 97) hx hb dX7_leftCells_88 (by decide) ?_
          have hf := qob_esc hf
          exact hJ1 x1_3 hf _ _ _ ⟨hP, hD, hS⟩ (lv_sub hl [1] rfl)
      · intro J5 hJ5 hf
        refine qwalk2 (fun (x1_4 : Int64) (x6_1 : Int32) => ∀ (H : Heap) (locs : List Loc) (ls : Array Slot), ctW D A s ([oX7 sv g, oX1 g g_rows g_columns g_a g_b g_cells g_right g_down]) H locs → lv_has ls 7 [(0, .ref sv), (1, .long x1_4), (3, .int x3_1), (4, .long x1_2), (6, .int x6_1)] → W p l e rmX7_leftCells s m args below meth c H locs 0 0 Q (F0 m 22 ls [])) ?_ _ x1_2 (0 : Int32) hf _ _ _ ⟨hP, hD, hS⟩ (lv_sub hl [2, 3, 4, 1, 0] rfl)
        intro J6 hL6 x1_4 x6_1 hf H locs ls ⟨hP, hD, hS⟩ hl
        refine lv_iload hx hb dX7_leftCells_22 (lv_at hl 4 rfl) ?_
        refine lv_bipush (v := 48) hx hb dX7_leftCells_24 (by decide) ?_
        refine lv_icmp_ge (tgt := 81) hx hb dX7_leftCells_26 (by decide) (fun c7 => ?_) (fun c7 => ?_)
        · have hf := qob_t hf c7
          have hf := qob_esc hf
          exact hJ5 x1_4 hf _ _ _ ⟨hP, hD, hS⟩ (lv_sub hl [0, 1, 2, 3] rfl)
        · have hf := qob_f hf c7
          refine lv_iload hx hb dX7_leftCells_29 (lv_at hl 4 rfl) ?_
          refine lv_aload_n hx hb dX7_leftCells_31 rfl (lv_at hl 0 rfl) ?_
          refine va_get (D := D) (ci := 7) (v := .ref g) (C := RX7) (T := TX7) (N := 1) hx hb hts inwX7_leftCells_X7 hown hK hP 0 rfl rfl 0 (by decide) (hts (.fieldLink RX7 9 "HedgeWays$Survey" "grid" "LHedgeWays$Grid;") (List.mem_of_getElem? (i := 1) rfl)) (fun _ h9 => h9) rfl dX7_leftCells_32 ?_
          refine va_get (D := D) (ci := 1) (v := .int g_a) (C := RX1) (T := TX1) (N := 7) hx hb hts inwX7_leftCells_X1 hown hK hP 1 rfl rfl 2 (by decide) (hts (.fieldLink RX7 51 "HedgeWays$Grid" "a" "I") (List.mem_of_getElem? (i := 3) rfl)) (fun _ h9 => h9) rfl dX7_leftCells_35 ?_
          refine lv_icmp_eq (tgt := 75) hx hb dX7_leftCells_38 (by decide) (fun c8 => ?_) (fun c8 => ?_)
          · have hf := qob_t hf c8
            refine lv_iinc (v := (x6_1 + 1)) (lv' := [(6, .int (x6_1 + 1)), (0, .ref sv), (1, .long x1_4), (3, .int x3_1), (4, .long x1_2)]) hx hb dX7_leftCells_75 hl (k := 4) rfl rfl (by decide) rfl (fun ls hl => ?_)
            refine lv_goto (tgt := 22) hx hb dX7_leftCells_78 (by decide) ?_
            exact hL6 x1_4 (x6_1 + 1) hf _ _ _ ⟨hP, hD, hS⟩ (lv_sub hl [1, 2, 3, 4, 0] rfl)
          · have hf := qob_f hf c8
            refine lv_iload hx hb dX7_leftCells_41 (lv_at hl 4 rfl) ?_
            refine lv_aload_n hx hb dX7_leftCells_43 rfl (lv_at hl 0 rfl) ?_
            refine va_get (D := D) (ci := 7) (v := .ref g) (C := RX7) (T := TX7) (N := 1) hx hb hts inwX7_leftCells_X7 hown hK hP 0 rfl rfl 0 (by decide) (hts (.fieldLink RX7 9 "HedgeWays$Survey" "grid" "LHedgeWays$Grid;") (List.mem_of_getElem? (i := 1) rfl)) (fun _ h9 => h9) rfl dX7_leftCells_44 ?_
            refine va_get (D := D) (ci := 1) (v := .int g_b) (C := RX1) (T := TX1) (N := 7) hx hb hts inwX7_leftCells_X1 hown hK hP 1 rfl rfl 3 (by decide) (hts (.fieldLink RX7 62 "HedgeWays$Grid" "b" "I") (List.mem_of_getElem? (i := 4) rfl)) (fun _ h9 => h9) rfl dX7_leftCells_47 ?_
            refine lv_icmp_eq (tgt := 75) hx hb dX7_leftCells_50 (by decide) (fun c9 => ?_) (fun c9 => ?_)
            · have hf := qob_t hf c9
              refine lv_iinc (v := (x6_1 + 1)) (lv' := [(6, .int (x6_1 + 1)), (0, .ref sv), (1, .long x1_4), (3, .int x3_1), (4, .long x1_2)]) hx hb dX7_leftCells_75 hl (k := 4) rfl rfl (by decide) rfl (fun ls hl => ?_)
              refine lv_goto (tgt := 22) hx hb dX7_leftCells_78 (by decide) ?_
              exact hL6 x1_4 (x6_1 + 1) hf _ _ _ ⟨hP, hD, hS⟩ (lv_sub hl [1, 2, 3, 4, 0] rfl)
            · have hf := qob_f hf c9
              refine lv_aload_n hx hb dX7_leftCells_53 rfl (lv_at hl 0 rfl) ?_
              refine lv_iload hx hb dX7_leftCells_54 (lv_at hl 4 rfl) ?_
              refine lv_lload_n hx hb dX7_leftCells_56 rfl (lv_at hl 1 rfl) ?_
              refine ctV_i0 (r := (fX7_isDeadEnd g_right g_down x6_1 x1_4)) (wc := [oX7 sv g, oX1 g g_rows g_columns g_a g_b g_cells g_right g_down]) (As := [.int x6_1, .long x1_4]) (rest := []) (q0 := 0) X hK hP hD hS [0, 1] rfl rfl rfl (KX7_isDeadEnd rfl _) (cwV 2 hts gX7_leftCells_X7_isDeadEnd rfl rfl rfl hdX7_isDeadEnd ⟨Nat.le_of_ble_eq_true rfl, Nat.le_of_ble_eq_true rfl⟩) rfl rfl rfl hl rfl (Nat.le_of_ble_eq_true rfl) dX7_leftCells_57 (Nat.zero_le _) (Nat.zero_le _) (fun H locs hP hS => ?_)
              refine lv_if_eq (tgt := 75) hx hb dX7_leftCells_60 (by decide) (fun c10 => ?_) (fun c10 => ?_)
              · have hf := qob_t hf c10
                refine lv_iinc (v := (x6_1 + 1)) (lv' := [(6, .int (x6_1 + 1)), (0, .ref sv), (1, .long x1_4), (3, .int x3_1), (4, .long x1_2)]) hx hb dX7_leftCells_75 hl (k := 4) rfl rfl (by decide) rfl (fun ls hl => ?_)
                refine lv_goto (tgt := 22) hx hb dX7_leftCells_78 (by decide) ?_
                exact hL6 x1_4 (x6_1 + 1) hf _ _ _ ⟨hP, hD, hS⟩ (lv_sub hl [1, 2, 3, 4, 0] rfl)
              · have hf := qob_f hf c10
                refine lv_lload_n hx hb dX7_leftCells_63 rfl (lv_at hl 1 rfl) ?_
                refine lv_iload hx hb dX7_leftCells_64 (lv_at hl 4 rfl) ?_
                refine ctS_l0 (r := (fX1_bit x6_1)) (wc := []) (As := [.int x6_1]) (rest := [.long x1_4]) X hK hP hD hS [] rfl rfl rfl (KX1_bit rfl _) (va_cwS 1 hts gX7_leftCells_X1_bit rfl rfl rfl hdX1_bit ⟨Nat.le_of_ble_eq_true rfl, Nat.le_of_ble_eq_true rfl⟩) rfl hl rfl (Nat.le_of_ble_eq_true rfl) dX7_leftCells_66 (Nat.zero_le _) (Nat.zero_le _) (fun H locs hP hS => ?_)
                refine lv_ldc2 hx hb hown (hts (.constantLong RX7 29 (-1)) (List.mem_of_getElem? (i := 5) rfl)) dX7_leftCells_69 ?_
                refine lv_lxor hx hb dX7_leftCells_72 ?_
                refine lv_land hx hb dX7_leftCells_73 ?_
                refine lv_lstore_n (lv' := [(1, .long (x1_4 &&& ((fX1_bit x6_1) ^^^ (-1)))), (0, .ref sv), (3, .int x3_1), (4, .long x1_2), (6, .int x6_1)]) hx hb dX7_leftCells_74 rfl hl (by decide) rfl (fun ls hl => ?_)
                refine lv_iinc (v := (x6_1 + 1)) (lv' := [(6, .int (x6_1 + 1)), (1, .long (x1_4 &&& ((fX1_bit x6_1) ^^^ (-1)))), (0, .ref sv), (3, .int x3_1), (4, .long x1_2)]) hx hb dX7_leftCells_75 hl (k := 4) rfl rfl (by decide) rfl (fun ls hl => ?_)
                refine lv_goto (tgt := 22) hx hb dX7_leftCells_78 (by decide) ?_
                exact hL6 (x1_4 &&& ((fX1_bit x6_1) ^^^ (-1))) (x6_1 + 1) hf _ _ _ ⟨hP, hD, hS⟩ (lv_sub hl [2, 1, 3, 4, 0] rfl)
theorem inwX8_beginByHand_X1 : ∀ w ∈ wsX10, w ∈ wsX8_beginByHand := fun _ h => List.mem_cons_of_mem _ (List.mem_append_right _ h)
theorem inwX8_beginByHand_X8 : ∀ w ∈ wsX80, w ∈ wsX8_beginByHand := fun _ h => List.mem_cons_of_mem _ (List.mem_append_left _ (List.mem_append_right _ h))
abbrev rmX8_beginByHand : Room := { frames := 0, cells := 0, slots := 0, locals := 0 }
theorem hdX8_beginByHand : yX8_beginByHand.cls = RX8 ∧ yX8_beginByHand.cls ≠ "java/lang/invoke/MethodHandle" ∧ yX8_beginByHand.cls ≠ "java/lang/invoke/VarHandle" ∧ (parseMethodDescriptor yX8_beginByHand.desc).map (fun d => d.parameters.length) = some 2 := by decide +kernel
set_option maxHeartbeats 4000000 in
set_option maxRecDepth 100000 in
theorem KX8_beginByHand {l : Launch} {D : va_G} {cy : Nat → ClassId} {wk g q_wk_cameFrom : Nat} {wk_place : Int32} {wk_look : Int32} {wk_hand : Int32} {wk_visited : Int64} {wk_cameFrom : Nat → Int32} {g_rows : Int32} {g_columns : Int32} {g_a : Int32} {g_b : Int32} {g_cells : Int64} {g_right : Int64} {g_down : Int64} {p1 : Int32} {p2 : Int32} {wk_place' : Int32} {wk_look' : Int32} {wk_hand' : Int32} (hf : fX8_beginByHand wk_place wk_look wk_hand g_a p1 p2 = (wk_place', wk_look', wk_hand')) : CtV l yX8_beginByHand wsX8_beginByHand rmX8_beginByHand D cy [.ref wk, .int p1, .int p2] ([oX8 wk g q_wk_cameFrom wk_place wk_look wk_hand wk_visited, aI cy q_wk_cameFrom 48 wk_cameFrom, oX1 g g_rows g_columns g_a g_b g_cells g_right g_down]) ([oX8 wk g q_wk_cameFrom wk_place' wk_look' wk_hand' wk_visited, aI cy q_wk_cameFrom 48 wk_cameFrom, oX1 g g_rows g_columns g_a g_b g_cells g_right g_down]) := by
  refine CtV.of (cc := cX8_beginByHand) (maxL := 3) (ret := none) (own := RX8) (by decide) rfl rfl (Nat.le_of_ble_eq_true rfl) ?_
  intro p e s m args below meth c A Q X hQ hK hP hD hS ls hl
  obtain ⟨hx, hb, hml, hown, hts, hr, hlocks, hA, hZ⟩ := id X
  have hl : lv_has ls 3 [(0, .ref wk), (1, .int p1), (2, .int p2)] := hl
  unfold fX8_beginByHand at hf
  have hf := qbb_top hf
  refine lv_aload_n hx hb dX8_beginByHand_0 rfl (lv_at hl 0 rfl) ?_
  refine lv_aload_n hx hb dX8_beginByHand_1 rfl (lv_at hl 0 rfl) ?_
  refine va_get (D := D) (ci := 8) (v := .ref g) (C := RX8) (T := TX8) (N := 6) hx hb hts inwX8_beginByHand_X8 hown hK hP 0 rfl rfl 0 (by decide) (hts (.fieldLink RX8 9 "HedgeWays$Walker" "grid" "LHedgeWays$Grid;") (List.mem_of_getElem? (i := 1) rfl)) (fun _ h9 => h9) rfl dX8_beginByHand_2 ?_
  refine va_get (D := D) (ci := 1) (v := .int g_a) (C := RX1) (T := TX1) (N := 7) hx hb hts inwX8_beginByHand_X1 hown hK hP 2 rfl rfl 2 (by decide) (hts (.fieldLink RX8 19 "HedgeWays$Grid" "a" "I") (List.mem_of_getElem? (i := 2) rfl)) (fun _ h9 => h9) rfl dX8_beginByHand_5 ?_
  refine va_put (D := D) (ci := 8) (v := .int g_a) (ty := .int) (C := RX8) (T := TX8) (N := 6) hx hb hts inwX8_beginByHand_X8 tyX8 tyX8_ok nmX8 hown hK hP hD hS 0 rfl rfl 2 (by decide) (hts (.fieldLink RX8 25 "HedgeWays$Walker" "place" "I") (List.mem_of_getElem? (i := 3) rfl)) (fun _ h9 => h9) rfl (tyX8_ok 2 (by decide)) rfl rfl (Nat.le_of_ble_eq_true rfl) dX8_beginByHand_8 (fun H locs hP hD hS => ?_)
  have hP : va_P D vwCl ([oX8 wk g q_wk_cameFrom g_a wk_look wk_hand wk_visited, aI cy q_wk_cameFrom 48 wk_cameFrom, oX1 g g_rows g_columns g_a g_b g_cells g_right g_down]) H := hP
  have hD : va_D A ([oX8 wk g q_wk_cameFrom g_a wk_look wk_hand wk_visited, aI cy q_wk_cameFrom 48 wk_cameFrom, oX1 g g_rows g_columns g_a g_b g_cells g_right g_down]) := hD
  refine lv_aload_n hx hb dX8_beginByHand_11 rfl (lv_at hl 0 rfl) ?_
  refine lv_iload_n hx hb dX8_beginByHand_12 rfl (lv_at hl 1 rfl) ?_
  refine va_put (D := D) (ci := 8) (v := .int p1) (ty := .int) (C := RX8) (T := TX8) (N := 6) hx hb hts inwX8_beginByHand_X8 tyX8 tyX8_ok nmX8 hown hK hP hD hS 0 rfl rfl 3 (by decide) (hts (.fieldLink RX8 28 "HedgeWays$Walker" "look" "I") (List.mem_of_getElem? (i := 4) rfl)) (fun _ h9 => h9) rfl (tyX8_ok 3 (by decide)) rfl rfl (Nat.le_of_ble_eq_true rfl) dX8_beginByHand_13 (fun H locs hP hD hS => ?_)
  have hP : va_P D vwCl ([oX8 wk g q_wk_cameFrom g_a p1 wk_hand wk_visited, aI cy q_wk_cameFrom 48 wk_cameFrom, oX1 g g_rows g_columns g_a g_b g_cells g_right g_down]) H := hP
  have hD : va_D A ([oX8 wk g q_wk_cameFrom g_a p1 wk_hand wk_visited, aI cy q_wk_cameFrom 48 wk_cameFrom, oX1 g g_rows g_columns g_a g_b g_cells g_right g_down]) := hD
  refine lv_aload_n hx hb dX8_beginByHand_16 rfl (lv_at hl 0 rfl) ?_
  refine lv_iload_n hx hb dX8_beginByHand_17 rfl (lv_at hl 2 rfl) ?_
  refine lv_if_eq (tgt := 25) hx hb dX8_beginByHand_18 (by decide) (fun c1 => ?_) (fun c1 => ?_)
  · have hf := qbb_t hf c1
    refine lv_iconst (v := 3) hx hb dX8_beginByHand_25 (by decide) ?_
    refine va_put (D := D) (ci := 8) (v := .int 3) (ty := .int) (C := RX8) (T := TX8) (N := 6) hx hb hts inwX8_beginByHand_X8 tyX8 tyX8_ok nmX8 hown hK hP hD hS 0 rfl rfl 4 (by decide) (hts (.fieldLink RX8 31 "HedgeWays$Walker" "hand" "I") (List.mem_of_getElem? (i := 5) rfl)) (fun _ h9 => h9) rfl (tyX8_ok 4 (by decide)) rfl rfl (Nat.le_of_ble_eq_true rfl) dX8_beginByHand_26 (fun H locs hP hD hS => ?_)
    have hP : va_P D vwCl ([oX8 wk g q_wk_cameFrom g_a p1 3 wk_visited, aI cy q_wk_cameFrom 48 wk_cameFrom, oX1 g g_rows g_columns g_a g_b g_cells g_right g_down]) H := hP
    have hD : va_D A ([oX8 wk g q_wk_cameFrom g_a p1 3 wk_visited, aI cy q_wk_cameFrom 48 wk_cameFrom, oX1 g g_rows g_columns g_a g_b g_cells g_right g_down]) := hD
    cases qbb_ret hf
    exact ct_vret X hQ hK hP hD hS dX8_beginByHand_29
  · have hf := qbb_f hf c1
    refine lv_iconst (v := 1) hx hb dX8_beginByHand_21 (by decide) ?_
    refine lv_goto (tgt := 26) hx hb dX8_beginByHand_22 (by decide) ?_
    refine va_put (D := D) (ci := 8) (v := .int 1) (ty := .int) (C := RX8) (T := TX8) (N := 6) hx hb hts inwX8_beginByHand_X8 tyX8 tyX8_ok nmX8 hown hK hP hD hS 0 rfl rfl 4 (by decide) (hts (.fieldLink RX8 31 "HedgeWays$Walker" "hand" "I") (List.mem_of_getElem? (i := 5) rfl)) (fun _ h9 => h9) rfl (tyX8_ok 4 (by decide)) rfl rfl (Nat.le_of_ble_eq_true rfl) dX8_beginByHand_26 (fun H locs hP hD hS => ?_)
    have hP : va_P D vwCl ([oX8 wk g q_wk_cameFrom g_a p1 1 wk_visited, aI cy q_wk_cameFrom 48 wk_cameFrom, oX1 g g_rows g_columns g_a g_b g_cells g_right g_down]) H := hP
    have hD : va_D A ([oX8 wk g q_wk_cameFrom g_a p1 1 wk_visited, aI cy q_wk_cameFrom 48 wk_cameFrom, oX1 g g_rows g_columns g_a g_b g_cells g_right g_down]) := hD
    cases qbb_ret hf
    exact ct_vret X hQ hK hP hD hS dX8_beginByHand_29
theorem inwX8_goByHand_X8 : ∀ w ∈ wsX80, w ∈ wsX8_goByHand := fun _ h => List.mem_cons_of_mem _ (List.mem_append_left _ (List.mem_append_right _ h))
abbrev rmX8_goByHand : Room := { frames := 3, cells := 0, slots := 0, locals := 67 }
theorem hdX8_goByHand : yX8_goByHand.cls = RX8 ∧ yX8_goByHand.cls ≠ "java/lang/invoke/MethodHandle" ∧ yX8_goByHand.cls ≠ "java/lang/invoke/VarHandle" ∧ (parseMethodDescriptor yX8_goByHand.desc).map (fun d => d.parameters.length) = some 0 := by decide +kernel
set_option maxHeartbeats 4000000 in
set_option maxRecDepth 100000 in
theorem KX8_goByHand {l : Launch} {D : va_G} {cy : Nat → ClassId} {wk g q_wk_cameFrom : Nat} {wk_place : Int32} {wk_look : Int32} {wk_hand : Int32} {wk_visited : Int64} {wk_cameFrom : Nat → Int32} {g_rows : Int32} {g_columns : Int32} {g_a : Int32} {g_b : Int32} {g_cells : Int64} {g_right : Int64} {g_down : Int64}  {wk_place' : Int32} {wk_look' : Int32} (hf : fX8_goByHand wk_place wk_look wk_hand g_cells g_right g_down = some (wk_place', wk_look')) : CtV l yX8_goByHand wsX8_goByHand rmX8_goByHand D cy [.ref wk] ([oX8 wk g q_wk_cameFrom wk_place wk_look wk_hand wk_visited, aI cy q_wk_cameFrom 48 wk_cameFrom, oX1 g g_rows g_columns g_a g_b g_cells g_right g_down]) ([oX8 wk g q_wk_cameFrom wk_place' wk_look' wk_hand wk_visited, aI cy q_wk_cameFrom 48 wk_cameFrom, oX1 g g_rows g_columns g_a g_b g_cells g_right g_down]) := by
  refine CtV.of (cc := cX8_goByHand) (maxL := 4) (ret := none) (own := RX8) (by decide) rfl rfl (Nat.le_of_ble_eq_true rfl) ?_
  intro p e s m args below meth c A Q X hQ hK hP hD hS ls hl
  obtain ⟨hx, hb, hml, hown, hts, hr, hlocks, hA, hZ⟩ := id X
  have hl : lv_has ls 4 [(0, .ref wk)] := hl
  unfold fX8_goByHand at hf
  have hf := qob_top hf
  refine lv_iconst (v := 0) hx hb dX8_goByHand_0 (by decide) ?_
  refine lv_istore_n (lv' := [(1, .int 0), (0, .ref wk)]) hx hb dX8_goByHand_1 rfl hl (by decide) rfl (fun ls hl => ?_)
  refine qjoinE0 hf (∀ (H : Heap) (locs : List Loc) (ls : Array Slot), ctW D A s ([oX8 wk g q_wk_cameFrom wk_place wk_look wk_hand wk_visited, aI cy q_wk_cameFrom 48 wk_cameFrom, oX1 g g_rows g_columns g_a g_b g_cells g_right g_down]) H locs → lv_has ls 4 [] → W p l e rmX8_goByHand s m args below meth c H locs 0 0 Q (F0 m 63 ls [])) ?_ ?_
  · intro  hf H locs ls ⟨hP, hD, hS⟩ hl
    cases qob_ret hf
    exact ct_vret X hQ hK hP hD hS dX8_goByHand_63
  · intro J1 hJ1 hf
    refine qwalk1 (fun (x1_1 : Int32) => ∀ (H : Heap) (locs : List Loc) (ls : Array Slot), ctW D A s ([oX8 wk g q_wk_cameFrom wk_place wk_look wk_hand wk_visited, aI cy q_wk_cameFrom 48 wk_cameFrom, oX1 g g_rows g_columns g_a g_b g_cells g_right g_down]) H locs → lv_has ls 4 [(0, .ref wk), (1, .int x1_1)] → W p l e rmX8_goByHand s m args below meth c H locs 0 0 Q (F0 m 2 ls [])) ?_ _ (0 : Int32) hf _ _ _ ⟨hP, hD, hS⟩ (lv_sub hl [1, 0] rfl)
    intro J2 hL2 x1_1 hf H locs ls ⟨hP, hD, hS⟩ hl
    refine lv_iload_n hx hb dX8_goByHand_2 rfl (lv_at hl 1 rfl) ?_
    refine lv_iconst (v := 4) hx hb dX8_goByHand_3 (by decide) ?_
    refine lv_icmp_ge (tgt := 63) hx hb dX8_goByHand_4 (by decide) (fun c3 => ?_) (fun c3 => ?_)
    · have hf := qob_t hf c3
      have hf := qob_esc hf
      exact hJ1 hf _ _ _ ⟨hP, hD, hS⟩ (lv_sub hl [] rfl)
    · have hf := qob_f hf c3
      refine lv_aload_n hx hb dX8_goByHand_7 rfl (lv_at hl 0 rfl) ?_
      refine va_get (D := D) (ci := 8) (v := .int wk_look) (C := RX8) (T := TX8) (N := 6) hx hb hts inwX8_goByHand_X8 hown hK hP 0 rfl rfl 3 (by decide) (hts (.fieldLink RX8 28 "HedgeWays$Walker" "look" "I") (List.mem_of_getElem? (i := 1) rfl)) (fun _ h9 => h9) rfl dX8_goByHand_8 ?_
      refine lv_aload_n hx hb dX8_goByHand_11 rfl (lv_at hl 0 rfl) ?_
      refine va_get (D := D) (ci := 8) (v := .int wk_hand) (C := RX8) (T := TX8) (N := 6) hx hb hts inwX8_goByHand_X8 hown hK hP 0 rfl rfl 4 (by decide) (hts (.fieldLink RX8 31 "HedgeWays$Walker" "hand" "I") (List.mem_of_getElem? (i := 2) rfl)) (fun _ h9 => h9) rfl dX8_goByHand_12 ?_
      refine lv_iadd hx hb dX8_goByHand_15 ?_
      refine lv_iload_n hx hb dX8_goByHand_16 rfl (lv_at hl 1 rfl) ?_
      refine lv_iconst (v := 4) hx hb dX8_goByHand_17 (by decide) ?_
      refine lv_aload_n hx hb dX8_goByHand_18 rfl (lv_at hl 0 rfl) ?_
      refine va_get (D := D) (ci := 8) (v := .int wk_hand) (C := RX8) (T := TX8) (N := 6) hx hb hts inwX8_goByHand_X8 hown hK hP 0 rfl rfl 4 (by decide) (hts (.fieldLink RX8 31 "HedgeWays$Walker" "hand" "I") (List.mem_of_getElem? (i := 2) rfl)) (fun _ h9 => h9) rfl dX8_goByHand_19 ?_
      refine lv_isub hx hb dX8_goByHand_22 ?_
      refine lv_imul hx hb dX8_goByHand_23 ?_
      refine lv_iadd hx hb dX8_goByHand_24 ?_
      refine lv_iconst (v := 4) hx hb dX8_goByHand_25 (by decide) ?_
      refine lv_irem hx hb dX8_goByHand_26 (by decide) ?_
      refine lv_topi (fun x2_1 e4 => ?_)
      have hf := qob_bd hf e4
      refine lv_istore_n (lv' := [(2, .int x2_1), (0, .ref wk), (1, .int x1_1)]) hx hb dX8_goByHand_27 rfl hl (by decide) rfl (fun ls hl => ?_)
      refine lv_aload_n hx hb dX8_goByHand_28 rfl (lv_at hl 1 rfl) ?_
      refine va_get (D := D) (ci := 8) (v := .ref g) (C := RX8) (T := TX8) (N := 6) hx hb hts inwX8_goByHand_X8 hown hK hP 0 rfl rfl 0 (by decide) (hts (.fieldLink RX8 9 "HedgeWays$Walker" "grid" "LHedgeWays$Grid;") (List.mem_of_getElem? (i := 3) rfl)) (fun _ h9 => h9) rfl dX8_goByHand_29 ?_
      refine lv_aload_n hx hb dX8_goByHand_32 rfl (lv_at hl 1 rfl) ?_
      refine va_get (D := D) (ci := 8) (v := .int wk_place) (C := RX8) (T := TX8) (N := 6) hx hb hts inwX8_goByHand_X8 hown hK hP 0 rfl rfl 2 (by decide) (hts (.fieldLink RX8 25 "HedgeWays$Walker" "place" "I") (List.mem_of_getElem? (i := 4) rfl)) (fun _ h9 => h9) rfl dX8_goByHand_33 ?_
      refine lv_iload_n hx hb dX8_goByHand_36 rfl (lv_at hl 0 rfl) ?_
      refine ctV_i0 (r := (fX1_neighbour g_cells g_right g_down wk_place x2_1)) (wc := [oX1 g g_rows g_columns g_a g_b g_cells g_right g_down]) (As := [.int wk_place, .int x2_1]) (rest := []) (q0 := 2) X hK hP hD hS [2] rfl rfl rfl (KX1_neighbour rfl _) (cwV 2 hts gX8_goByHand_X1_neighbour rfl rfl rfl hdX1_neighbour ⟨Nat.le_of_ble_eq_true rfl, Nat.le_of_ble_eq_true rfl⟩) rfl rfl rfl hl rfl (Nat.le_of_ble_eq_true rfl) dX8_goByHand_37 (Nat.zero_le _) (Nat.zero_le _) (fun H locs hP hS => ?_)
      refine lv_topi (fun x3_1 e5 => ?_)
      have hf := qob_bd hf e5
      refine lv_istore_n (lv' := [(3, .int x3_1), (2, .int x2_1), (0, .ref wk), (1, .int x1_1)]) hx hb dX8_goByHand_40 rfl hl (by decide) rfl (fun ls hl => ?_)
      refine lv_iload_n hx hb dX8_goByHand_41 rfl (lv_at hl 0 rfl) ?_
      refine lv_iconst (v := (-1)) hx hb dX8_goByHand_42 (by decide) ?_
      refine lv_icmp_eq (tgt := 57) hx hb dX8_goByHand_43 (by decide) (fun c6 => ?_) (fun c6 => ?_)
      · have hf := qob_t hf c6
        refine lv_iinc (v := (x1_1 + 1)) (lv' := [(1, .int (x1_1 + 1)), (3, .int x3_1), (2, .int x2_1), (0, .ref wk)]) hx hb dX8_goByHand_57 hl (k := 3) rfl rfl (by decide) rfl (fun ls hl => ?_)
        refine lv_goto (tgt := 2) hx hb dX8_goByHand_60 (by decide) ?_
        exact hL2 (x1_1 + 1) hf _ _ _ ⟨hP, hD, hS⟩ (lv_sub hl [3, 0] rfl)
      · have hf := qob_f hf c6
        refine lv_aload_n hx hb dX8_goByHand_46 rfl (lv_at hl 2 rfl) ?_
        refine lv_iload_n hx hb dX8_goByHand_47 rfl (lv_at hl 0 rfl) ?_
        refine va_put (D := D) (ci := 8) (v := .int x3_1) (ty := .int) (C := RX8) (T := TX8) (N := 6) hx hb hts inwX8_goByHand_X8 tyX8 tyX8_ok nmX8 hown hK hP hD hS 0 rfl rfl 2 (by decide) (hts (.fieldLink RX8 25 "HedgeWays$Walker" "place" "I") (List.mem_of_getElem? (i := 4) rfl)) (fun _ h9 => h9) rfl (tyX8_ok 2 (by decide)) rfl rfl (Nat.le_of_ble_eq_true rfl) dX8_goByHand_48 (fun H locs hP hD hS => ?_)
        have hP : va_P D vwCl ([oX8 wk g q_wk_cameFrom x3_1 wk_look wk_hand wk_visited, aI cy q_wk_cameFrom 48 wk_cameFrom, oX1 g g_rows g_columns g_a g_b g_cells g_right g_down]) H := hP
        have hD : va_D A ([oX8 wk g q_wk_cameFrom x3_1 wk_look wk_hand wk_visited, aI cy q_wk_cameFrom 48 wk_cameFrom, oX1 g g_rows g_columns g_a g_b g_cells g_right g_down]) := hD
        refine lv_aload_n hx hb dX8_goByHand_51 rfl (lv_at hl 2 rfl) ?_
        refine lv_iload_n hx hb dX8_goByHand_52 rfl (lv_at hl 1 rfl) ?_
        refine va_put (D := D) (ci := 8) (v := .int x2_1) (ty := .int) (C := RX8) (T := TX8) (N := 6) hx hb hts inwX8_goByHand_X8 tyX8 tyX8_ok nmX8 hown hK hP hD hS 0 rfl rfl 3 (by decide) (hts (.fieldLink RX8 28 "HedgeWays$Walker" "look" "I") (List.mem_of_getElem? (i := 1) rfl)) (fun _ h9 => h9) rfl (tyX8_ok 3 (by decide)) rfl rfl (Nat.le_of_ble_eq_true rfl) dX8_goByHand_53 (fun H locs hP hD hS => ?_)
        have hP : va_P D vwCl ([oX8 wk g q_wk_cameFrom x3_1 x2_1 wk_hand wk_visited, aI cy q_wk_cameFrom 48 wk_cameFrom, oX1 g g_rows g_columns g_a g_b g_cells g_right g_down]) H := hP
        have hD : va_D A ([oX8 wk g q_wk_cameFrom x3_1 x2_1 wk_hand wk_visited, aI cy q_wk_cameFrom 48 wk_cameFrom, oX1 g g_rows g_columns g_a g_b g_cells g_right g_down]) := hD
        have hf := qob_esc hf
        have hf := qob_esc hf
        cases qob_ret hf
        exact ct_vret X hQ hK hP hD hS dX8_goByHand_56
theorem inwX8_handSteps_X1 : ∀ w ∈ wsX10, w ∈ wsX8_handSteps := fun _ h => List.mem_cons_of_mem _ (List.mem_append_right _ h)
theorem inwX8_handSteps_X8 : ∀ w ∈ wsX80, w ∈ wsX8_handSteps := fun _ h => List.mem_cons_of_mem _ (List.mem_append_left _ (List.mem_append_right _ h))
abbrev rmX8_handSteps : Room := { frames := 4, cells := 0, slots := 0, locals := 90 }
theorem hdX8_handSteps : yX8_handSteps.cls = RX8 ∧ yX8_handSteps.cls ≠ "java/lang/invoke/MethodHandle" ∧ yX8_handSteps.cls ≠ "java/lang/invoke/VarHandle" ∧ (parseMethodDescriptor yX8_handSteps.desc).map (fun d => d.parameters.length) = some 2 := by decide +kernel
set_option maxHeartbeats 4000000 in
set_option maxRecDepth 100000 in
theorem KX8_handSteps {l : Launch} {D : va_G} {cy : Nat → ClassId} {wk g q_wk_cameFrom : Nat} {wk_place : Int32} {wk_look : Int32} {wk_hand : Int32} {wk_visited : Int64} {wk_cameFrom : Nat → Int32} {g_rows : Int32} {g_columns : Int32} {g_a : Int32} {g_b : Int32} {g_cells : Int64} {g_right : Int64} {g_down : Int64} {p1 : Int32} {p2 : Int32} {r : Int32} {wk_place' : Int32} {wk_look' : Int32} {wk_hand' : Int32} (hf : fX8_handSteps wk_place wk_look wk_hand g_a g_b g_cells g_right g_down p1 p2 = some (r, wk_place', wk_look', wk_hand')) : CtI l yX8_handSteps wsX8_handSteps rmX8_handSteps D cy [.ref wk, .int p1, .int p2] ([oX8 wk g q_wk_cameFrom wk_place wk_look wk_hand wk_visited, aI cy q_wk_cameFrom 48 wk_cameFrom, oX1 g g_rows g_columns g_a g_b g_cells g_right g_down]) ([oX8 wk g q_wk_cameFrom wk_place' wk_look' wk_hand' wk_visited, aI cy q_wk_cameFrom 48 wk_cameFrom, oX1 g g_rows g_columns g_a g_b g_cells g_right g_down]) r := by
  refine CtI.of (cc := cX8_handSteps) (maxL := 4) (ret := some .int) (own := RX8) (by decide) rfl rfl (Nat.le_of_ble_eq_true rfl) ?_
  intro p e s m args below meth c A Q X hQ hK hP hD hS ls hl
  obtain ⟨hx, hb, hml, hown, hts, hr, hlocks, hA, hZ⟩ := id X
  have hl : lv_has ls 4 [(0, .ref wk), (1, .int p1), (2, .int p2)] := hl
  unfold fX8_handSteps at hf
  have hf := qob_top hf
  refine lv_aload_n hx hb dX8_handSteps_0 rfl (lv_at hl 0 rfl) ?_
  refine lv_iload_n hx hb dX8_handSteps_1 rfl (lv_at hl 1 rfl) ?_
  refine lv_iload_n hx hb dX8_handSteps_2 rfl (lv_at hl 2 rfl) ?_
  obtain ⟨wk_place_1, wk_look_1, wk_hand_1, q1, hf⟩ := qcallT3 hf
  refine ctV_v (wc := [oX8 wk g q_wk_cameFrom wk_place wk_look wk_hand wk_visited, aI cy q_wk_cameFrom 48 wk_cameFrom, oX1 g g_rows g_columns g_a g_b g_cells g_right g_down]) (w1 := [oX8 wk g q_wk_cameFrom wk_place_1 wk_look_1 wk_hand_1 wk_visited, aI cy q_wk_cameFrom 48 wk_cameFrom, oX1 g g_rows g_columns g_a g_b g_cells g_right g_down]) (wr := []) (wn := [oX8 wk g q_wk_cameFrom wk_place_1 wk_look_1 wk_hand_1 wk_visited, aI cy q_wk_cameFrom 48 wk_cameFrom, oX1 g g_rows g_columns g_a g_b g_cells g_right g_down]) (As := [.int p1, .int p2]) (rest := []) (q0 := 0) X hK hP hD hS [0, 1, 2] [] [0, 1, 2] rfl rfl rfl rfl rfl (by decide) rfl rfl rfl (KX8_beginByHand q1 _) (cwV 2 hts gX8_handSteps_X8_beginByHand rfl rfl rfl hdX8_beginByHand ⟨Nat.le_of_ble_eq_true rfl, Nat.le_of_ble_eq_true rfl⟩) rfl rfl rfl hl rfl (Nat.le_of_ble_eq_true rfl) dX8_handSteps_3 (Nat.zero_le _) (Nat.zero_le _) (fun H locs hP hD hS => ?_)
  refine lv_iconst (v := 0) hx hb dX8_handSteps_6 (by decide) ?_
  refine lv_istore_n (lv' := [(3, .int 0), (0, .ref wk), (1, .int p1), (2, .int p2)]) hx hb dX8_handSteps_7 rfl hl (by decide) rfl (fun ls hl => ?_)
  refine qjoinE2 hf (fun (wk_place_2 : Int32) (wk_look_2 : Int32) => ∀ (H : Heap) (locs : List Loc) (ls : Array Slot), ctW D A s ([oX8 wk g q_wk_cameFrom wk_place_2 wk_look_2 wk_hand_1 wk_visited, aI cy q_wk_cameFrom 48 wk_cameFrom, oX1 g g_rows g_columns g_a g_b g_cells g_right g_down]) H locs → lv_has ls 4 [] → W p l e rmX8_handSteps s m args below meth c H locs 0 0 Q (F0 m 41 ls [])) ?_ ?_
  · intro wk_place_2 wk_look_2 hf H locs ls ⟨hP, hD, hS⟩ hl
    refine lv_bipush (v := (-9)) hx hb dX8_handSteps_41 (by decide) ?_
    cases qob_ret hf
    exact ct_iret X hQ hK hP hD hS rfl dX8_handSteps_43
  · intro J2 hJ2 hf
    refine qwalk3 (fun (x3_1 : Int32) (wk_place_3 : Int32) (wk_look_3 : Int32) => ∀ (H : Heap) (locs : List Loc) (ls : Array Slot), ctW D A s ([oX8 wk g q_wk_cameFrom wk_place_3 wk_look_3 wk_hand_1 wk_visited, aI cy q_wk_cameFrom 48 wk_cameFrom, oX1 g g_rows g_columns g_a g_b g_cells g_right g_down]) H locs → lv_has ls 4 [(0, .ref wk), (3, .int x3_1)] → W p l e rmX8_handSteps s m args below meth c H locs 0 0 Q (F0 m 8 ls [])) ?_ _ (0 : Int32) wk_place_1 wk_look_1 hf _ _ _ ⟨hP, hD, hS⟩ (lv_sub hl [1, 0] rfl)
    intro J3 hL3 x3_1 wk_place_3 wk_look_3 hf H locs ls ⟨hP, hD, hS⟩ hl
    refine lv_iload_n hx hb dX8_handSteps_8 rfl (lv_at hl 1 rfl) ?_
    refine lv_sipush (v := 144) hx hb dX8_handSteps_9 (by decide) ?_
    refine lv_icmp_gt (tgt := 41) hx hb dX8_handSteps_12 (by decide) (fun c4 => ?_) (fun c4 => ?_)
    · have hf := qob_t hf c4
      have hf := qob_esc hf
      exact hJ2 wk_place_3 wk_look_3 hf _ _ _ ⟨hP, hD, hS⟩ (lv_sub hl [] rfl)
    · have hf := qob_f hf c4
      refine lv_aload_n hx hb dX8_handSteps_15 rfl (lv_at hl 0 rfl) ?_
      refine va_get (D := D) (ci := 8) (v := .int wk_place_3) (C := RX8) (T := TX8) (N := 6) hx hb hts inwX8_handSteps_X8 hown hK hP 0 rfl rfl 2 (by decide) (hts (.fieldLink RX8 25 "HedgeWays$Walker" "place" "I") (List.mem_of_getElem? (i := 1) rfl)) (fun _ h9 => h9) rfl dX8_handSteps_16 ?_
      refine lv_aload_n hx hb dX8_handSteps_19 rfl (lv_at hl 0 rfl) ?_
      refine va_get (D := D) (ci := 8) (v := .ref g) (C := RX8) (T := TX8) (N := 6) hx hb hts inwX8_handSteps_X8 hown hK hP 0 rfl rfl 0 (by decide) (hts (.fieldLink RX8 9 "HedgeWays$Walker" "grid" "LHedgeWays$Grid;") (List.mem_of_getElem? (i := 2) rfl)) (fun _ h9 => h9) rfl dX8_handSteps_20 ?_
      refine va_get (D := D) (ci := 1) (v := .int g_b) (C := RX1) (T := TX1) (N := 7) hx hb hts inwX8_handSteps_X1 hown hK hP 2 rfl rfl 3 (by decide) (hts (.fieldLink RX8 42 "HedgeWays$Grid" "b" "I") (List.mem_of_getElem? (i := 3) rfl)) (fun _ h9 => h9) rfl dX8_handSteps_23 ?_
      refine lv_icmp_ne (tgt := 31) hx hb dX8_handSteps_26 (by decide) (fun c5 => ?_) (fun c5 => ?_)
      · have hf := qob_f hf c5
        refine lv_aload_n hx hb dX8_handSteps_31 rfl (lv_at hl 0 rfl) ?_
        obtain ⟨wk_place_4, wk_look_4, q6, hf⟩ := qcall2 hf
        refine ctV_v (wc := [oX8 wk g q_wk_cameFrom wk_place_3 wk_look_3 wk_hand_1 wk_visited, aI cy q_wk_cameFrom 48 wk_cameFrom, oX1 g g_rows g_columns g_a g_b g_cells g_right g_down]) (w1 := [oX8 wk g q_wk_cameFrom wk_place_4 wk_look_4 wk_hand_1 wk_visited, aI cy q_wk_cameFrom 48 wk_cameFrom, oX1 g g_rows g_columns g_a g_b g_cells g_right g_down]) (wr := []) (wn := [oX8 wk g q_wk_cameFrom wk_place_4 wk_look_4 wk_hand_1 wk_visited, aI cy q_wk_cameFrom 48 wk_cameFrom, oX1 g g_rows g_columns g_a g_b g_cells g_right g_down]) (As := []) (rest := []) (q0 := 0) X hK hP hD hS [0, 1, 2] [] [0, 1, 2] rfl rfl rfl rfl rfl (by decide) rfl rfl rfl (KX8_goByHand q6 _) (cwV 0 hts gX8_handSteps_X8_goByHand rfl rfl rfl hdX8_goByHand ⟨Nat.le_of_ble_eq_true rfl, Nat.le_of_ble_eq_true rfl⟩) rfl rfl rfl hl rfl (Nat.le_of_ble_eq_true rfl) dX8_handSteps_32 (Nat.zero_le _) (Nat.zero_le _) (fun H locs hP hD hS => ?_)
        refine lv_iinc (v := (x3_1 + 1)) (lv' := [(3, .int (x3_1 + 1)), (0, .ref wk)]) hx hb dX8_handSteps_35 hl (k := 1) rfl rfl (by decide) rfl (fun ls hl => ?_)
        refine lv_goto (tgt := 8) hx hb dX8_handSteps_38 (by decide) ?_
        exact hL3 (x3_1 + 1) wk_place_4 wk_look_4 hf _ _ _ ⟨hP, hD, hS⟩ (lv_sub hl [1, 0] rfl)
      · have hf := qob_t hf c5
        refine lv_iload_n hx hb dX8_handSteps_29 rfl (lv_at hl 1 rfl) ?_
        have hf := qob_esc hf
        have hf := qob_esc hf
        cases qob_ret hf
        exact ct_iret X hQ hK hP hD hS rfl dX8_handSteps_30
theorem inwX8_handPlace_X8 : ∀ w ∈ wsX80, w ∈ wsX8_handPlace := fun _ h => List.mem_cons_of_mem _ (List.mem_append_left _ (List.mem_append_right _ h))
abbrev rmX8_handPlace : Room := { frames := 4, cells := 0, slots := 0, locals := 90 }
theorem hdX8_handPlace : yX8_handPlace.cls = RX8 ∧ yX8_handPlace.cls ≠ "java/lang/invoke/MethodHandle" ∧ yX8_handPlace.cls ≠ "java/lang/invoke/VarHandle" ∧ (parseMethodDescriptor yX8_handPlace.desc).map (fun d => d.parameters.length) = some 3 := by decide +kernel
set_option maxHeartbeats 4000000 in
set_option maxRecDepth 100000 in
theorem KX8_handPlace {l : Launch} {D : va_G} {cy : Nat → ClassId} {wk g q_wk_cameFrom : Nat} {wk_place : Int32} {wk_look : Int32} {wk_hand : Int32} {wk_visited : Int64} {wk_cameFrom : Nat → Int32} {g_rows : Int32} {g_columns : Int32} {g_a : Int32} {g_b : Int32} {g_cells : Int64} {g_right : Int64} {g_down : Int64} {p1 : Int32} {p2 : Int32} {p3 : Int32} {r : Int32} {wk_place' : Int32} {wk_look' : Int32} {wk_hand' : Int32} (hf : fX8_handPlace wk_place wk_look wk_hand g_a g_cells g_right g_down p1 p2 p3 = some (r, wk_place', wk_look', wk_hand')) : CtI l yX8_handPlace wsX8_handPlace rmX8_handPlace D cy [.ref wk, .int p1, .int p2, .int p3] ([oX8 wk g q_wk_cameFrom wk_place wk_look wk_hand wk_visited, aI cy q_wk_cameFrom 48 wk_cameFrom, oX1 g g_rows g_columns g_a g_b g_cells g_right g_down]) ([oX8 wk g q_wk_cameFrom wk_place' wk_look' wk_hand' wk_visited, aI cy q_wk_cameFrom 48 wk_cameFrom, oX1 g g_rows g_columns g_a g_b g_cells g_right g_down]) r := by
  refine CtI.of (cc := cX8_handPlace) (maxL := 5) (ret := some .int) (own := RX8) (by decide) rfl rfl (Nat.le_of_ble_eq_true rfl) ?_
  intro p e s m args below meth c A Q X hQ hK hP hD hS ls hl
  obtain ⟨hx, hb, hml, hown, hts, hr, hlocks, hA, hZ⟩ := id X
  have hl : lv_has ls 5 [(0, .ref wk), (1, .int p1), (2, .int p2), (3, .int p3)] := hl
  unfold fX8_handPlace at hf
  have hf := qob_top hf
  refine lv_aload_n hx hb dX8_handPlace_0 rfl (lv_at hl 0 rfl) ?_
  refine lv_iload_n hx hb dX8_handPlace_1 rfl (lv_at hl 1 rfl) ?_
  refine lv_iload_n hx hb dX8_handPlace_2 rfl (lv_at hl 2 rfl) ?_
  obtain ⟨wk_place_1, wk_look_1, wk_hand_1, q1, hf⟩ := qcallT3 hf
  refine ctV_v (wc := [oX8 wk g q_wk_cameFrom wk_place wk_look wk_hand wk_visited, aI cy q_wk_cameFrom 48 wk_cameFrom, oX1 g g_rows g_columns g_a g_b g_cells g_right g_down]) (w1 := [oX8 wk g q_wk_cameFrom wk_place_1 wk_look_1 wk_hand_1 wk_visited, aI cy q_wk_cameFrom 48 wk_cameFrom, oX1 g g_rows g_columns g_a g_b g_cells g_right g_down]) (wr := []) (wn := [oX8 wk g q_wk_cameFrom wk_place_1 wk_look_1 wk_hand_1 wk_visited, aI cy q_wk_cameFrom 48 wk_cameFrom, oX1 g g_rows g_columns g_a g_b g_cells g_right g_down]) (As := [.int p1, .int p2]) (rest := []) (q0 := 0) X hK hP hD hS [0, 1, 2] [] [0, 1, 2] rfl rfl rfl rfl rfl (by decide) rfl rfl rfl (KX8_beginByHand q1 _) (cwV 2 hts gX8_handPlace_X8_beginByHand rfl rfl rfl hdX8_beginByHand ⟨Nat.le_of_ble_eq_true rfl, Nat.le_of_ble_eq_true rfl⟩) rfl rfl rfl hl rfl (Nat.le_of_ble_eq_true rfl) dX8_handPlace_3 (Nat.zero_le _) (Nat.zero_le _) (fun H locs hP hD hS => ?_)
  refine lv_iconst (v := 0) hx hb dX8_handPlace_6 (by decide) ?_
  refine lv_istore (lv' := [(4, .int 0), (0, .ref wk), (1, .int p1), (2, .int p2), (3, .int p3)]) hx hb dX8_handPlace_7 hl (by decide) rfl (fun ls hl => ?_)
  refine qjoin2 hf (fun (wk_place_2 : Int32) (wk_look_2 : Int32) => ∀ (H : Heap) (locs : List Loc) (ls : Array Slot), ctW D A s ([oX8 wk g q_wk_cameFrom wk_place_2 wk_look_2 wk_hand_1 wk_visited, aI cy q_wk_cameFrom 48 wk_cameFrom, oX1 g g_rows g_columns g_a g_b g_cells g_right g_down]) H locs → lv_has ls 5 [(0, .ref wk)] → W p l e rmX8_handPlace s m args below meth c H locs 0 0 Q (F0 m 33 ls [])) ?_ ?_
  · intro wk_place_2 wk_look_2 hf H locs ls ⟨hP, hD, hS⟩ hl
    refine lv_aload_n hx hb dX8_handPlace_33 rfl (lv_at hl 0 rfl) ?_
    refine va_get (D := D) (ci := 8) (v := .int wk_place_2) (C := RX8) (T := TX8) (N := 6) hx hb hts inwX8_handPlace_X8 hown hK hP 0 rfl rfl 2 (by decide) (hts (.fieldLink RX8 25 "HedgeWays$Walker" "place" "I") (List.mem_of_getElem? (i := 1) rfl)) (fun _ h9 => h9) rfl dX8_handPlace_34 ?_
    cases qob_ret hf
    exact ct_iret X hQ hK hP hD hS rfl dX8_handPlace_37
  · intro J2 hJ2 hf
    refine qwalk3 (fun (x4_1 : Int32) (wk_place_3 : Int32) (wk_look_3 : Int32) => ∀ (H : Heap) (locs : List Loc) (ls : Array Slot), ctW D A s ([oX8 wk g q_wk_cameFrom wk_place_3 wk_look_3 wk_hand_1 wk_visited, aI cy q_wk_cameFrom 48 wk_cameFrom, oX1 g g_rows g_columns g_a g_b g_cells g_right g_down]) H locs → lv_has ls 5 [(0, .ref wk), (3, .int p3), (4, .int x4_1)] → W p l e rmX8_handPlace s m args below meth c H locs 0 0 Q (F0 m 9 ls [])) ?_ _ (0 : Int32) wk_place_1 wk_look_1 hf _ _ _ ⟨hP, hD, hS⟩ (lv_sub hl [1, 4, 0] rfl)
    intro J3 hL3 x4_1 wk_place_3 wk_look_3 hf H locs ls ⟨hP, hD, hS⟩ hl
    refine lv_iload hx hb dX8_handPlace_9 (lv_at hl 2 rfl) ?_
    refine lv_iload_n hx hb dX8_handPlace_11 rfl (lv_at hl 1 rfl) ?_
    refine lv_icmp_ge (tgt := 33) hx hb dX8_handPlace_12 (by decide) (fun c4 => ?_) (fun c4 => ?_)
    · have hf := qob_t hf c4
      have hf := qob_esc hf
      exact hJ2 wk_place_3 wk_look_3 hf _ _ _ ⟨hP, hD, hS⟩ (lv_sub hl [0] rfl)
    · have hf := qob_f hf c4
      refine lv_iload hx hb dX8_handPlace_15 (lv_at hl 2 rfl) ?_
      refine lv_sipush (v := 999) hx hb dX8_handPlace_17 (by decide) ?_
      refine lv_icmp_ge (tgt := 33) hx hb dX8_handPlace_20 (by decide) (fun c5 => ?_) (fun c5 => ?_)
      · have hf := qob_t hf c5
        have hf := qob_esc hf
        exact hJ2 wk_place_3 wk_look_3 hf _ _ _ ⟨hP, hD, hS⟩ (lv_sub hl [0] rfl)
      · have hf := qob_f hf c5
        refine lv_aload_n hx hb dX8_handPlace_23 rfl (lv_at hl 0 rfl) ?_
        obtain ⟨wk_place_4, wk_look_4, q6, hf⟩ := qcall2 hf
        refine ctV_v (wc := [oX8 wk g q_wk_cameFrom wk_place_3 wk_look_3 wk_hand_1 wk_visited, aI cy q_wk_cameFrom 48 wk_cameFrom, oX1 g g_rows g_columns g_a g_b g_cells g_right g_down]) (w1 := [oX8 wk g q_wk_cameFrom wk_place_4 wk_look_4 wk_hand_1 wk_visited, aI cy q_wk_cameFrom 48 wk_cameFrom, oX1 g g_rows g_columns g_a g_b g_cells g_right g_down]) (wr := []) (wn := [oX8 wk g q_wk_cameFrom wk_place_4 wk_look_4 wk_hand_1 wk_visited, aI cy q_wk_cameFrom 48 wk_cameFrom, oX1 g g_rows g_columns g_a g_b g_cells g_right g_down]) (As := []) (rest := []) (q0 := 0) X hK hP hD hS [0, 1, 2] [] [0, 1, 2] rfl rfl rfl rfl rfl (by decide) rfl rfl rfl (KX8_goByHand q6 _) (cwV 0 hts gX8_handPlace_X8_goByHand rfl rfl rfl hdX8_goByHand ⟨Nat.le_of_ble_eq_true rfl, Nat.le_of_ble_eq_true rfl⟩) rfl rfl rfl hl rfl (Nat.le_of_ble_eq_true rfl) dX8_handPlace_24 (Nat.zero_le _) (Nat.zero_le _) (fun H locs hP hD hS => ?_)
        refine lv_iinc (v := (x4_1 + 1)) (lv' := [(4, .int (x4_1 + 1)), (0, .ref wk), (3, .int p3)]) hx hb dX8_handPlace_27 hl (k := 2) rfl rfl (by decide) rfl (fun ls hl => ?_)
        refine lv_goto (tgt := 9) hx hb dX8_handPlace_30 (by decide) ?_
        exact hL3 (x4_1 + 1) wk_place_4 wk_look_4 hf _ _ _ ⟨hP, hD, hS⟩ (lv_sub hl [1, 2, 0] rfl)
theorem inwX8_firstNew_X8 : ∀ w ∈ wsX80, w ∈ wsX8_firstNew := fun _ h => List.mem_cons_of_mem _ (List.mem_append_left _ (List.mem_append_right _ h))
abbrev rmX8_firstNew : Room := { frames := 3, cells := 0, slots := 0, locals := 67 }
theorem hdX8_firstNew : yX8_firstNew.cls = RX8 ∧ yX8_firstNew.cls ≠ "java/lang/invoke/MethodHandle" ∧ yX8_firstNew.cls ≠ "java/lang/invoke/VarHandle" ∧ (parseMethodDescriptor yX8_firstNew.desc).map (fun d => d.parameters.length) = some 0 := by decide +kernel
set_option maxHeartbeats 4000000 in
set_option maxRecDepth 100000 in
theorem KX8_firstNew {l : Launch} {D : va_G} {cy : Nat → ClassId} {wk g q_wk_cameFrom : Nat} {wk_place : Int32} {wk_look : Int32} {wk_hand : Int32} {wk_visited : Int64} {wk_cameFrom : Nat → Int32} {g_rows : Int32} {g_columns : Int32} {g_a : Int32} {g_b : Int32} {g_cells : Int64} {g_right : Int64} {g_down : Int64}  {r : Int32} (hf : fX8_firstNew wk_place wk_visited g_cells g_right g_down = some r) : CtI l yX8_firstNew wsX8_firstNew rmX8_firstNew D cy [.ref wk] ([oX8 wk g q_wk_cameFrom wk_place wk_look wk_hand wk_visited, aI cy q_wk_cameFrom 48 wk_cameFrom, oX1 g g_rows g_columns g_a g_b g_cells g_right g_down]) ([oX8 wk g q_wk_cameFrom wk_place wk_look wk_hand wk_visited, aI cy q_wk_cameFrom 48 wk_cameFrom, oX1 g g_rows g_columns g_a g_b g_cells g_right g_down]) r := by
  refine CtI.of (cc := cX8_firstNew) (maxL := 3) (ret := some .int) (own := RX8) (by decide) rfl rfl (Nat.le_of_ble_eq_true rfl) ?_
  intro p e s m args below meth c A Q X hQ hK hP hD hS ls hl
  obtain ⟨hx, hb, hml, hown, hts, hr, hlocks, hA, hZ⟩ := id X
  have hl : lv_has ls 3 [(0, .ref wk)] := hl
  unfold fX8_firstNew at hf
  have hf := qob_top hf
  refine lv_iconst (v := 0) hx hb dX8_firstNew_0 (by decide) ?_
  refine lv_istore_n (lv' := [(1, .int 0), (0, .ref wk)]) hx hb dX8_firstNew_1 rfl hl (by decide) rfl (fun ls hl => ?_)
  refine qjoinE0 hf (∀ (H : Heap) (locs : List Loc) (ls : Array Slot), ctW D A s ([oX8 wk g q_wk_cameFrom wk_place wk_look wk_hand wk_visited, aI cy q_wk_cameFrom 48 wk_cameFrom, oX1 g g_rows g_columns g_a g_b g_cells g_right g_down]) H locs → lv_has ls 3 [] → W p l e rmX8_firstNew s m args below meth c H locs 0 0 Q (F0 m 44 ls [])) ?_ ?_
  · intro  hf H locs ls ⟨hP, hD, hS⟩ hl
    refine lv_iconst (v := (-1)) hx hb dX8_firstNew_44 (by decide) ?_
    cases qob_ret hf
    exact ct_iret X hQ hK hP hD hS rfl dX8_firstNew_45
  · intro J1 hJ1 hf
    refine qwalk1 (fun (x1_1 : Int32) => ∀ (H : Heap) (locs : List Loc) (ls : Array Slot), ctW D A s ([oX8 wk g q_wk_cameFrom wk_place wk_look wk_hand wk_visited, aI cy q_wk_cameFrom 48 wk_cameFrom, oX1 g g_rows g_columns g_a g_b g_cells g_right g_down]) H locs → lv_has ls 3 [(0, .ref wk), (1, .int x1_1)] → W p l e rmX8_firstNew s m args below meth c H locs 0 0 Q (F0 m 2 ls [])) ?_ _ (0 : Int32) hf _ _ _ ⟨hP, hD, hS⟩ (lv_sub hl [1, 0] rfl)
    intro J2 hL2 x1_1 hf H locs ls ⟨hP, hD, hS⟩ hl
    refine lv_iload_n hx hb dX8_firstNew_2 rfl (lv_at hl 1 rfl) ?_
    refine lv_iconst (v := 4) hx hb dX8_firstNew_3 (by decide) ?_
    refine lv_icmp_ge (tgt := 44) hx hb dX8_firstNew_4 (by decide) (fun c3 => ?_) (fun c3 => ?_)
    · have hf := qob_t hf c3
      have hf := qob_esc hf
      exact hJ1 hf _ _ _ ⟨hP, hD, hS⟩ (lv_sub hl [] rfl)
    · have hf := qob_f hf c3
      refine lv_aload_n hx hb dX8_firstNew_7 rfl (lv_at hl 0 rfl) ?_
      refine va_get (D := D) (ci := 8) (v := .ref g) (C := RX8) (T := TX8) (N := 6) hx hb hts inwX8_firstNew_X8 hown hK hP 0 rfl rfl 0 (by decide) (hts (.fieldLink RX8 9 "HedgeWays$Walker" "grid" "LHedgeWays$Grid;") (List.mem_of_getElem? (i := 1) rfl)) (fun _ h9 => h9) rfl dX8_firstNew_8 ?_
      refine lv_aload_n hx hb dX8_firstNew_11 rfl (lv_at hl 0 rfl) ?_
      refine va_get (D := D) (ci := 8) (v := .int wk_place) (C := RX8) (T := TX8) (N := 6) hx hb hts inwX8_firstNew_X8 hown hK hP 0 rfl rfl 2 (by decide) (hts (.fieldLink RX8 25 "HedgeWays$Walker" "place" "I") (List.mem_of_getElem? (i := 2) rfl)) (fun _ h9 => h9) rfl dX8_firstNew_12 ?_
      refine lv_iload_n hx hb dX8_firstNew_15 rfl (lv_at hl 1 rfl) ?_
      refine ctV_i0 (r := (fX1_neighbour g_cells g_right g_down wk_place x1_1)) (wc := [oX1 g g_rows g_columns g_a g_b g_cells g_right g_down]) (As := [.int wk_place, .int x1_1]) (rest := []) (q0 := 2) X hK hP hD hS [2] rfl rfl rfl (KX1_neighbour rfl _) (cwV 2 hts gX8_firstNew_X1_neighbour rfl rfl rfl hdX1_neighbour ⟨Nat.le_of_ble_eq_true rfl, Nat.le_of_ble_eq_true rfl⟩) rfl rfl rfl hl rfl (Nat.le_of_ble_eq_true rfl) dX8_firstNew_16 (Nat.zero_le _) (Nat.zero_le _) (fun H locs hP hS => ?_)
      refine lv_topi (fun x2_1 e4 => ?_)
      have hf := qob_bd hf e4
      refine lv_istore_n (lv' := [(2, .int x2_1), (0, .ref wk), (1, .int x1_1)]) hx hb dX8_firstNew_19 rfl hl (by decide) rfl (fun ls hl => ?_)
      refine lv_iload_n hx hb dX8_firstNew_20 rfl (lv_at hl 0 rfl) ?_
      refine lv_iconst (v := (-1)) hx hb dX8_firstNew_21 (by decide) ?_
      refine lv_icmp_eq (tgt := 38) hx hb dX8_firstNew_22 (by decide) (fun c5 => ?_) (fun c5 => ?_)
      · have hf := qob_t hf c5
        refine lv_iinc (v := (x1_1 + 1)) (lv' := [(1, .int (x1_1 + 1)), (2, .int x2_1), (0, .ref wk)]) hx hb dX8_firstNew_38 hl (k := 2) rfl rfl (by decide) rfl (fun ls hl => ?_)
        refine lv_goto (tgt := 2) hx hb dX8_firstNew_41 (by decide) ?_
        exact hL2 (x1_1 + 1) hf _ _ _ ⟨hP, hD, hS⟩ (lv_sub hl [2, 0] rfl)
      · have hf := qob_f hf c5
        refine lv_aload_n hx hb dX8_firstNew_25 rfl (lv_at hl 1 rfl) ?_
        refine va_get (D := D) (ci := 8) (v := .long wk_visited) (C := RX8) (T := TX8) (N := 6) hx hb hts inwX8_firstNew_X8 hown hK hP 0 rfl rfl 5 (by decide) (hts (.fieldLink RX8 52 "HedgeWays$Walker" "visited" "J") (List.mem_of_getElem? (i := 3) rfl)) (fun _ h9 => h9) rfl dX8_firstNew_26 ?_
        refine lv_iload_n hx hb dX8_firstNew_29 rfl (lv_at hl 0 rfl) ?_
        refine ctS_i0 (r := (fX1_has wk_visited x2_1)) (wc := []) (As := [.long wk_visited, .int x2_1]) (rest := []) X hK hP hD hS [] rfl rfl rfl (KX1_has rfl _) (va_cwS 2 hts gX8_firstNew_X1_has rfl rfl rfl hdX1_has ⟨Nat.le_of_ble_eq_true rfl, Nat.le_of_ble_eq_true rfl⟩) rfl hl rfl (Nat.le_of_ble_eq_true rfl) dX8_firstNew_30 (Nat.zero_le _) (Nat.zero_le _) (fun H locs hP hS => ?_)
        refine lv_if_ne (tgt := 38) hx hb dX8_firstNew_33 (by decide) (fun c6 => ?_) (fun c6 => ?_)
        · have hf := qob_f hf c6
          refine lv_iinc (v := (x1_1 + 1)) (lv' := [(1, .int (x1_1 + 1)), (2, .int x2_1), (0, .ref wk)]) hx hb dX8_firstNew_38 hl (k := 2) rfl rfl (by decide) rfl (fun ls hl => ?_)
          refine lv_goto (tgt := 2) hx hb dX8_firstNew_41 (by decide) ?_
          exact hL2 (x1_1 + 1) hf _ _ _ ⟨hP, hD, hS⟩ (lv_sub hl [2, 0] rfl)
        · have hf := qob_t hf c6
          refine lv_iload_n hx hb dX8_firstNew_36 rfl (lv_at hl 0 rfl) ?_
          have hf := qob_esc hf
          have hf := qob_esc hf
          cases qob_ret hf
          exact ct_iret X hQ hK hP hD hS rfl dX8_firstNew_37
theorem inwX8_followThread_X1 : ∀ w ∈ wsX10, w ∈ wsX8_followThread := fun _ h => List.mem_cons_of_mem _ (List.mem_append_right _ h)
theorem inwX8_followThread_X8 : ∀ w ∈ wsX80, w ∈ wsX8_followThread := fun _ h => List.mem_cons_of_mem _ (List.mem_append_left _ (List.mem_append_right _ h))
abbrev rmX8_followThread : Room := { frames := 4, cells := 0, slots := 0, locals := 89 }
theorem hdX8_followThread : yX8_followThread.cls = RX8 ∧ yX8_followThread.cls ≠ "java/lang/invoke/MethodHandle" ∧ yX8_followThread.cls ≠ "java/lang/invoke/VarHandle" ∧ (parseMethodDescriptor yX8_followThread.desc).map (fun d => d.parameters.length) = some 0 := by decide +kernel
set_option maxHeartbeats 4000000 in
set_option maxRecDepth 100000 in
theorem KX8_followThread {l : Launch} {D : va_G} {cy : Nat → ClassId} {wk g q_wk_cameFrom : Nat} {wk_place : Int32} {wk_look : Int32} {wk_hand : Int32} {wk_visited : Int64} {wk_cameFrom : Nat → Int32} {g_rows : Int32} {g_columns : Int32} {g_a : Int32} {g_b : Int32} {g_cells : Int64} {g_right : Int64} {g_down : Int64}  {r : Int32} {wk_place' : Int32} {wk_visited' : Int64} {wk_cameFrom' : Nat → Int32} (hf : fX8_followThread wk_place wk_visited wk_cameFrom g_a g_b g_cells g_right g_down = some (r, wk_place', wk_visited', wk_cameFrom')) : CtI l yX8_followThread wsX8_followThread rmX8_followThread D cy [.ref wk] ([oX8 wk g q_wk_cameFrom wk_place wk_look wk_hand wk_visited, aI cy q_wk_cameFrom 48 wk_cameFrom, oX1 g g_rows g_columns g_a g_b g_cells g_right g_down]) ([oX8 wk g q_wk_cameFrom wk_place' wk_look wk_hand wk_visited', aI cy q_wk_cameFrom 48 wk_cameFrom', oX1 g g_rows g_columns g_a g_b g_cells g_right g_down]) r := by
  refine CtI.of (cc := cX8_followThread) (maxL := 3) (ret := some .int) (own := RX8) (by decide) rfl rfl (Nat.le_of_ble_eq_true rfl) ?_
  intro p e s m args below meth c A Q X hQ hK hP hD hS ls hl
  obtain ⟨hx, hb, hml, hown, hts, hr, hlocks, hA, hZ⟩ := id X
  have hl : lv_has ls 3 [(0, .ref wk)] := hl
  unfold fX8_followThread at hf
  have hf := qob_top hf
  refine lv_aload_n hx hb dX8_followThread_0 rfl (lv_at hl 0 rfl) ?_
  refine lv_aload_n hx hb dX8_followThread_1 rfl (lv_at hl 0 rfl) ?_
  refine va_get (D := D) (ci := 8) (v := .ref g) (C := RX8) (T := TX8) (N := 6) hx hb hts inwX8_followThread_X8 hown hK hP 0 rfl rfl 0 (by decide) (hts (.fieldLink RX8 9 "HedgeWays$Walker" "grid" "LHedgeWays$Grid;") (List.mem_of_getElem? (i := 1) rfl)) (fun _ h9 => h9) rfl dX8_followThread_2 ?_
  refine va_get (D := D) (ci := 1) (v := .int g_a) (C := RX1) (T := TX1) (N := 7) hx hb hts inwX8_followThread_X1 hown hK hP 2 rfl rfl 2 (by decide) (hts (.fieldLink RX8 19 "HedgeWays$Grid" "a" "I") (List.mem_of_getElem? (i := 2) rfl)) (fun _ h9 => h9) rfl dX8_followThread_5 ?_
  refine va_put (D := D) (ci := 8) (v := .int g_a) (ty := .int) (C := RX8) (T := TX8) (N := 6) hx hb hts inwX8_followThread_X8 tyX8 tyX8_ok nmX8 hown hK hP hD hS 0 rfl rfl 2 (by decide) (hts (.fieldLink RX8 25 "HedgeWays$Walker" "place" "I") (List.mem_of_getElem? (i := 3) rfl)) (fun _ h9 => h9) rfl (tyX8_ok 2 (by decide)) rfl rfl (Nat.le_of_ble_eq_true rfl) dX8_followThread_8 (fun H locs hP hD hS => ?_)
  have hP : va_P D vwCl ([oX8 wk g q_wk_cameFrom g_a wk_look wk_hand wk_visited, aI cy q_wk_cameFrom 48 wk_cameFrom, oX1 g g_rows g_columns g_a g_b g_cells g_right g_down]) H := hP
  have hD : va_D A ([oX8 wk g q_wk_cameFrom g_a wk_look wk_hand wk_visited, aI cy q_wk_cameFrom 48 wk_cameFrom, oX1 g g_rows g_columns g_a g_b g_cells g_right g_down]) := hD
  refine lv_aload_n hx hb dX8_followThread_11 rfl (lv_at hl 0 rfl) ?_
  refine lv_aload_n hx hb dX8_followThread_12 rfl (lv_at hl 0 rfl) ?_
  refine va_get (D := D) (ci := 8) (v := .int g_a) (C := RX8) (T := TX8) (N := 6) hx hb hts inwX8_followThread_X8 hown hK hP 0 rfl rfl 2 (by decide) (hts (.fieldLink RX8 25 "HedgeWays$Walker" "place" "I") (List.mem_of_getElem? (i := 3) rfl)) (fun _ h9 => h9) rfl dX8_followThread_13 ?_
  refine ctS_l0 (r := (fX1_bit g_a)) (wc := []) (As := [.int g_a]) (rest := [.ref wk]) X hK hP hD hS [] rfl rfl rfl (KX1_bit rfl _) (va_cwS 1 hts gX8_followThread_X1_bit rfl rfl rfl hdX1_bit ⟨Nat.le_of_ble_eq_true rfl, Nat.le_of_ble_eq_true rfl⟩) rfl hl rfl (Nat.le_of_ble_eq_true rfl) dX8_followThread_16 (Nat.zero_le _) (Nat.zero_le _) (fun H locs hP hS => ?_)
  refine va_put (D := D) (ci := 8) (v := .long (fX1_bit g_a)) (ty := .long) (C := RX8) (T := TX8) (N := 6) hx hb hts inwX8_followThread_X8 tyX8 tyX8_ok nmX8 hown hK hP hD hS 0 rfl rfl 5 (by decide) (hts (.fieldLink RX8 52 "HedgeWays$Walker" "visited" "J") (List.mem_of_getElem? (i := 4) rfl)) (fun _ h9 => h9) rfl (tyX8_ok 5 (by decide)) rfl rfl (Nat.le_of_ble_eq_true rfl) dX8_followThread_19 (fun H locs hP hD hS => ?_)
  have hP : va_P D vwCl ([oX8 wk g q_wk_cameFrom g_a wk_look wk_hand (fX1_bit g_a), aI cy q_wk_cameFrom 48 wk_cameFrom, oX1 g g_rows g_columns g_a g_b g_cells g_right g_down]) H := hP
  have hD : va_D A ([oX8 wk g q_wk_cameFrom g_a wk_look wk_hand (fX1_bit g_a), aI cy q_wk_cameFrom 48 wk_cameFrom, oX1 g g_rows g_columns g_a g_b g_cells g_right g_down]) := hD
  refine lv_iconst (v := 0) hx hb dX8_followThread_22 (by decide) ?_
  refine lv_istore_n (lv' := [(1, .int 0), (0, .ref wk)]) hx hb dX8_followThread_23 rfl hl (by decide) rfl (fun ls hl => ?_)
  refine qjoinE3 hf (fun (wk_place_1 : Int32) (wk_visited_1 : Int64) (wk_cameFrom_1 : Nat → Int32) => ∀ (H : Heap) (locs : List Loc) (ls : Array Slot), ctW D A s ([oX8 wk g q_wk_cameFrom wk_place_1 wk_look wk_hand wk_visited_1, aI cy q_wk_cameFrom 48 wk_cameFrom_1, oX1 g g_rows g_columns g_a g_b g_cells g_right g_down]) H locs → lv_has ls 3 [] → W p l e rmX8_followThread s m args below meth c H locs 0 0 Q (F0 m 140 ls [])) ?_ ?_
  · intro wk_place_1 wk_visited_1 wk_cameFrom_1 hf H locs ls ⟨hP, hD, hS⟩ hl
    refine lv_bipush (v := (-9)) hx hb dX8_followThread_140 (by decide) ?_
    cases qob_ret hf
    exact ct_iret X hQ hK hP hD hS rfl dX8_followThread_142
  · intro J1 hJ1 hf
    refine qwalk4 (fun (x1_1 : Int32) (wk_place_2 : Int32) (wk_visited_2 : Int64) (wk_cameFrom_2 : Nat → Int32) => ∀ (H : Heap) (locs : List Loc) (ls : Array Slot), ctW D A s ([oX8 wk g q_wk_cameFrom wk_place_2 wk_look wk_hand wk_visited_2, aI cy q_wk_cameFrom 48 wk_cameFrom_2, oX1 g g_rows g_columns g_a g_b g_cells g_right g_down]) H locs → lv_has ls 3 [(0, .ref wk), (1, .int x1_1)] → W p l e rmX8_followThread s m args below meth c H locs 0 0 Q (F0 m 24 ls [])) ?_ _ (0 : Int32) g_a (fX1_bit g_a) wk_cameFrom hf _ _ _ ⟨hP, hD, hS⟩ (lv_sub hl [1, 0] rfl)
    intro J2 hL2 x1_1 wk_place_2 wk_visited_2 wk_cameFrom_2 hf H locs ls ⟨hP, hD, hS⟩ hl
    refine lv_iload_n hx hb dX8_followThread_24 rfl (lv_at hl 1 rfl) ?_
    refine lv_bipush (v := 72) hx hb dX8_followThread_25 (by decide) ?_
    refine lv_icmp_gt (tgt := 140) hx hb dX8_followThread_27 (by decide) (fun c3 => ?_) (fun c3 => ?_)
    · have hf := qob_t hf c3
      have hf := qob_esc hf
      exact hJ1 wk_place_2 wk_visited_2 wk_cameFrom_2 hf _ _ _ ⟨hP, hD, hS⟩ (lv_sub hl [] rfl)
    · have hf := qob_f hf c3
      refine lv_aload_n hx hb dX8_followThread_30 rfl (lv_at hl 0 rfl) ?_
      refine va_get (D := D) (ci := 8) (v := .int wk_place_2) (C := RX8) (T := TX8) (N := 6) hx hb hts inwX8_followThread_X8 hown hK hP 0 rfl rfl 2 (by decide) (hts (.fieldLink RX8 25 "HedgeWays$Walker" "place" "I") (List.mem_of_getElem? (i := 3) rfl)) (fun _ h9 => h9) rfl dX8_followThread_31 ?_
      refine lv_aload_n hx hb dX8_followThread_34 rfl (lv_at hl 0 rfl) ?_
      refine va_get (D := D) (ci := 8) (v := .ref g) (C := RX8) (T := TX8) (N := 6) hx hb hts inwX8_followThread_X8 hown hK hP 0 rfl rfl 0 (by decide) (hts (.fieldLink RX8 9 "HedgeWays$Walker" "grid" "LHedgeWays$Grid;") (List.mem_of_getElem? (i := 1) rfl)) (fun _ h9 => h9) rfl dX8_followThread_35 ?_
      refine va_get (D := D) (ci := 1) (v := .int g_b) (C := RX1) (T := TX1) (N := 7) hx hb hts inwX8_followThread_X1 hown hK hP 2 rfl rfl 3 (by decide) (hts (.fieldLink RX8 42 "HedgeWays$Grid" "b" "I") (List.mem_of_getElem? (i := 5) rfl)) (fun _ h9 => h9) rfl dX8_followThread_38 ?_
      refine lv_icmp_ne (tgt := 46) hx hb dX8_followThread_41 (by decide) (fun c4 => ?_) (fun c4 => ?_)
      · have hf := qob_f hf c4
        refine lv_aload_n hx hb dX8_followThread_46 rfl (lv_at hl 0 rfl) ?_
        obtain ⟨r_1, q5, hf⟩ := qcall1 hf
        refine ctV_i0 (r := r_1) (wc := [oX8 wk g q_wk_cameFrom wk_place_2 wk_look wk_hand wk_visited_2, aI cy q_wk_cameFrom 48 wk_cameFrom_2, oX1 g g_rows g_columns g_a g_b g_cells g_right g_down]) (As := []) (rest := []) (q0 := 0) X hK hP hD hS [0, 1, 2] rfl rfl rfl (KX8_firstNew q5 _) (cwV 0 hts gX8_followThread_X8_firstNew rfl rfl rfl hdX8_firstNew ⟨Nat.le_of_ble_eq_true rfl, Nat.le_of_ble_eq_true rfl⟩) rfl rfl rfl hl rfl (Nat.le_of_ble_eq_true rfl) dX8_followThread_47 (Nat.zero_le _) (Nat.zero_le _) (fun H locs hP hS => ?_)
        refine lv_istore_n (lv' := [(2, .int r_1), (0, .ref wk), (1, .int x1_1)]) hx hb dX8_followThread_50 rfl hl (by decide) rfl (fun ls hl => ?_)
        refine lv_iload_n hx hb dX8_followThread_51 rfl (lv_at hl 0 rfl) ?_
        refine lv_iconst (v := (-1)) hx hb dX8_followThread_52 (by decide) ?_
        refine lv_icmp_eq (tgt := 87) hx hb dX8_followThread_53 (by decide) (fun c6 => ?_) (fun c6 => ?_)
        · have hf := qob_t hf c6
          refine lv_aload_n hx hb dX8_followThread_87 rfl (lv_at hl 1 rfl) ?_
          refine va_get (D := D) (ci := 8) (v := .int wk_place_2) (C := RX8) (T := TX8) (N := 6) hx hb hts inwX8_followThread_X8 hown hK hP 0 rfl rfl 2 (by decide) (hts (.fieldLink RX8 25 "HedgeWays$Walker" "place" "I") (List.mem_of_getElem? (i := 3) rfl)) (fun _ h9 => h9) rfl dX8_followThread_88 ?_
          refine lv_aload_n hx hb dX8_followThread_91 rfl (lv_at hl 1 rfl) ?_
          refine va_get (D := D) (ci := 8) (v := .ref g) (C := RX8) (T := TX8) (N := 6) hx hb hts inwX8_followThread_X8 hown hK hP 0 rfl rfl 0 (by decide) (hts (.fieldLink RX8 9 "HedgeWays$Walker" "grid" "LHedgeWays$Grid;") (List.mem_of_getElem? (i := 1) rfl)) (fun _ h9 => h9) rfl dX8_followThread_92 ?_
          refine va_get (D := D) (ci := 1) (v := .int g_a) (C := RX1) (T := TX1) (N := 7) hx hb hts inwX8_followThread_X1 hown hK hP 2 rfl rfl 2 (by decide) (hts (.fieldLink RX8 19 "HedgeWays$Grid" "a" "I") (List.mem_of_getElem? (i := 2) rfl)) (fun _ h9 => h9) rfl dX8_followThread_95 ?_
          refine lv_icmp_eq (tgt := 118) hx hb dX8_followThread_98 (by decide) (fun c7 => ?_) (fun c7 => ?_)
          · have hf := qob_t hf c7
            refine lv_bipush (v := (-9)) hx hb dX8_followThread_118 (by decide) ?_
            have hf := qob_esc hf
            have hf := qob_esc hf
            cases qob_ret hf
            exact ct_iret X hQ hK hP hD hS rfl dX8_followThread_120
          · have hf := qob_f hf c7
            refine lv_aload_n hx hb dX8_followThread_101 rfl (lv_at hl 1 rfl) ?_
            refine va_get (D := D) (ci := 8) (v := .ref g) (C := RX8) (T := TX8) (N := 6) hx hb hts inwX8_followThread_X8 hown hK hP 0 rfl rfl 0 (by decide) (hts (.fieldLink RX8 9 "HedgeWays$Walker" "grid" "LHedgeWays$Grid;") (List.mem_of_getElem? (i := 1) rfl)) (fun _ h9 => h9) rfl dX8_followThread_102 ?_
            refine va_get (D := D) (ci := 1) (v := .long g_cells) (C := RX1) (T := TX1) (N := 7) hx hb hts inwX8_followThread_X1 hown hK hP 2 rfl rfl 4 (by decide) (hts (.fieldLink RX8 60 "HedgeWays$Grid" "cells" "J") (List.mem_of_getElem? (i := 7) rfl)) (fun _ h9 => h9) rfl dX8_followThread_105 ?_
            refine lv_aload_n hx hb dX8_followThread_108 rfl (lv_at hl 1 rfl) ?_
            refine va_get (D := D) (ci := 8) (v := .int wk_place_2) (C := RX8) (T := TX8) (N := 6) hx hb hts inwX8_followThread_X8 hown hK hP 0 rfl rfl 2 (by decide) (hts (.fieldLink RX8 25 "HedgeWays$Walker" "place" "I") (List.mem_of_getElem? (i := 3) rfl)) (fun _ h9 => h9) rfl dX8_followThread_109 ?_
            refine ctS_i0 (r := (fX1_has g_cells wk_place_2)) (wc := []) (As := [.long g_cells, .int wk_place_2]) (rest := []) X hK hP hD hS [] rfl rfl rfl (KX1_has rfl _) (va_cwS 2 hts gX8_followThread_X1_has rfl rfl rfl hdX1_has ⟨Nat.le_of_ble_eq_true rfl, Nat.le_of_ble_eq_true rfl⟩) rfl hl rfl (Nat.le_of_ble_eq_true rfl) dX8_followThread_112 (Nat.zero_le _) (Nat.zero_le _) (fun H locs hP hS => ?_)
            refine lv_if_ne (tgt := 121) hx hb dX8_followThread_115 (by decide) (fun c8 => ?_) (fun c8 => ?_)
            · have hf := qob_f hf c8
              refine lv_aload_n hx hb dX8_followThread_121 rfl (lv_at hl 1 rfl) ?_
              refine lv_aload_n hx hb dX8_followThread_122 rfl (lv_at hl 1 rfl) ?_
              refine va_get (D := D) (ci := 8) (v := .ref q_wk_cameFrom) (C := RX8) (T := TX8) (N := 6) hx hb hts inwX8_followThread_X8 hown hK hP 0 rfl rfl 1 (by decide) (hts (.fieldLink RX8 15 "HedgeWays$Walker" "cameFrom" "[I") (List.mem_of_getElem? (i := 6) rfl)) (fun _ h9 => h9) rfl dX8_followThread_123 ?_
              refine lv_aload_n hx hb dX8_followThread_126 rfl (lv_at hl 1 rfl) ?_
              refine va_get (D := D) (ci := 8) (v := .int wk_place_2) (C := RX8) (T := TX8) (N := 6) hx hb hts inwX8_followThread_X8 hown hK hP 0 rfl rfl 2 (by decide) (hts (.fieldLink RX8 25 "HedgeWays$Walker" "place" "I") (List.mem_of_getElem? (i := 3) rfl)) (fun _ h9 => h9) rfl dX8_followThread_127 ?_
              obtain ⟨i9, hf⟩ := qob_gd hf
              refine va_iald hx hb hK hP 1 0 rfl rfl i9 dX8_followThread_130 ?_
              refine lv_topi (fun wk_place_3 e10 => ?_)
              have hf := qob_bd hf e10
              refine va_put (D := D) (ci := 8) (v := .int wk_place_3) (ty := .int) (C := RX8) (T := TX8) (N := 6) hx hb hts inwX8_followThread_X8 tyX8 tyX8_ok nmX8 hown hK hP hD hS 0 rfl rfl 2 (by decide) (hts (.fieldLink RX8 25 "HedgeWays$Walker" "place" "I") (List.mem_of_getElem? (i := 3) rfl)) (fun _ h9 => h9) rfl (tyX8_ok 2 (by decide)) rfl rfl (Nat.le_of_ble_eq_true rfl) dX8_followThread_131 (fun H locs hP hD hS => ?_)
              have hP : va_P D vwCl ([oX8 wk g q_wk_cameFrom wk_place_3 wk_look wk_hand wk_visited_2, aI cy q_wk_cameFrom 48 wk_cameFrom_2, oX1 g g_rows g_columns g_a g_b g_cells g_right g_down]) H := hP
              have hD : va_D A ([oX8 wk g q_wk_cameFrom wk_place_3 wk_look wk_hand wk_visited_2, aI cy q_wk_cameFrom 48 wk_cameFrom_2, oX1 g g_rows g_columns g_a g_b g_cells g_right g_down]) := hD
              refine lv_iinc (v := (x1_1 + 1)) (lv' := [(1, .int (x1_1 + 1)), (2, .int r_1), (0, .ref wk)]) hx hb dX8_followThread_134 hl (k := 2) rfl rfl (by decide) rfl (fun ls hl => ?_)
              refine lv_goto (tgt := 24) hx hb dX8_followThread_137 (by decide) ?_
              exact hL2 (x1_1 + 1) wk_place_3 wk_visited_2 wk_cameFrom_2 hf _ _ _ ⟨hP, hD, hS⟩ (lv_sub hl [2, 0] rfl)
            · have hf := qob_t hf c8
              refine lv_bipush (v := (-9)) hx hb dX8_followThread_118 (by decide) ?_
              have hf := qob_esc hf
              have hf := qob_esc hf
              cases qob_ret hf
              exact ct_iret X hQ hK hP hD hS rfl dX8_followThread_120
        · have hf := qob_f hf c6
          refine lv_aload_n hx hb dX8_followThread_56 rfl (lv_at hl 1 rfl) ?_
          refine va_get (D := D) (ci := 8) (v := .ref q_wk_cameFrom) (C := RX8) (T := TX8) (N := 6) hx hb hts inwX8_followThread_X8 hown hK hP 0 rfl rfl 1 (by decide) (hts (.fieldLink RX8 15 "HedgeWays$Walker" "cameFrom" "[I") (List.mem_of_getElem? (i := 6) rfl)) (fun _ h9 => h9) rfl dX8_followThread_57 ?_
          refine lv_iload_n hx hb dX8_followThread_60 rfl (lv_at hl 0 rfl) ?_
          refine lv_aload_n hx hb dX8_followThread_61 rfl (lv_at hl 1 rfl) ?_
          refine va_get (D := D) (ci := 8) (v := .int wk_place_2) (C := RX8) (T := TX8) (N := 6) hx hb hts inwX8_followThread_X8 hown hK hP 0 rfl rfl 2 (by decide) (hts (.fieldLink RX8 25 "HedgeWays$Walker" "place" "I") (List.mem_of_getElem? (i := 3) rfl)) (fun _ h9 => h9) rfl dX8_followThread_62 ?_
          obtain ⟨i11, hf⟩ := qob_gd hf
          refine va_iast hx hb hK hP hD hS 1 0 rfl rfl i11 dX8_followThread_65 (fun H locs hP hD hS => ?_)
          have hP : va_P D vwCl ([oX8 wk g q_wk_cameFrom wk_place_2 wk_look wk_hand wk_visited_2, aI cy q_wk_cameFrom 48 (upd wk_cameFrom_2 r_1.toNatClampNeg wk_place_2), oX1 g g_rows g_columns g_a g_b g_cells g_right g_down]) H := hP
          have hD : va_D A ([oX8 wk g q_wk_cameFrom wk_place_2 wk_look wk_hand wk_visited_2, aI cy q_wk_cameFrom 48 (upd wk_cameFrom_2 r_1.toNatClampNeg wk_place_2), oX1 g g_rows g_columns g_a g_b g_cells g_right g_down]) := hD
          refine lv_aload_n hx hb dX8_followThread_66 rfl (lv_at hl 1 rfl) ?_
          refine lv_dup hx hb dX8_followThread_67 rfl ?_
          refine va_get (D := D) (ci := 8) (v := .long wk_visited_2) (C := RX8) (T := TX8) (N := 6) hx hb hts inwX8_followThread_X8 hown hK hP 0 rfl rfl 5 (by decide) (hts (.fieldLink RX8 52 "HedgeWays$Walker" "visited" "J") (List.mem_of_getElem? (i := 4) rfl)) (fun _ h9 => h9) rfl dX8_followThread_68 ?_
          refine lv_iload_n hx hb dX8_followThread_71 rfl (lv_at hl 0 rfl) ?_
          refine ctS_l0 (r := (fX1_bit r_1)) (wc := []) (As := [.int r_1]) (rest := [.long wk_visited_2, .ref wk]) X hK hP hD hS [] rfl rfl rfl (KX1_bit rfl _) (va_cwS 1 hts gX8_followThread_X1_bit rfl rfl rfl hdX1_bit ⟨Nat.le_of_ble_eq_true rfl, Nat.le_of_ble_eq_true rfl⟩) rfl hl rfl (Nat.le_of_ble_eq_true rfl) dX8_followThread_72 (Nat.zero_le _) (Nat.zero_le _) (fun H locs hP hS => ?_)
          refine lv_lor hx hb dX8_followThread_75 ?_
          refine lv_topl (fun wk_visited_3 e12 => ?_)
          have hf := qob_bd hf e12
          refine va_put (D := D) (ci := 8) (v := .long wk_visited_3) (ty := .long) (C := RX8) (T := TX8) (N := 6) hx hb hts inwX8_followThread_X8 tyX8 tyX8_ok nmX8 hown hK hP hD hS 0 rfl rfl 5 (by decide) (hts (.fieldLink RX8 52 "HedgeWays$Walker" "visited" "J") (List.mem_of_getElem? (i := 4) rfl)) (fun _ h9 => h9) rfl (tyX8_ok 5 (by decide)) rfl rfl (Nat.le_of_ble_eq_true rfl) dX8_followThread_76 (fun H locs hP hD hS => ?_)
          have hP : va_P D vwCl ([oX8 wk g q_wk_cameFrom wk_place_2 wk_look wk_hand wk_visited_3, aI cy q_wk_cameFrom 48 (upd wk_cameFrom_2 r_1.toNatClampNeg wk_place_2), oX1 g g_rows g_columns g_a g_b g_cells g_right g_down]) H := hP
          have hD : va_D A ([oX8 wk g q_wk_cameFrom wk_place_2 wk_look wk_hand wk_visited_3, aI cy q_wk_cameFrom 48 (upd wk_cameFrom_2 r_1.toNatClampNeg wk_place_2), oX1 g g_rows g_columns g_a g_b g_cells g_right g_down]) := hD
          refine lv_aload_n hx hb dX8_followThread_79 rfl (lv_at hl 1 rfl) ?_
          refine lv_iload_n hx hb dX8_followThread_80 rfl (lv_at hl 0 rfl) ?_
          refine va_put (D := D) (ci := 8) (v := .int r_1) (ty := .int) (C := RX8) (T := TX8) (N := 6) hx hb hts inwX8_followThread_X8 tyX8 tyX8_ok nmX8 hown hK hP hD hS 0 rfl rfl 2 (by decide) (hts (.fieldLink RX8 25 "HedgeWays$Walker" "place" "I") (List.mem_of_getElem? (i := 3) rfl)) (fun _ h9 => h9) rfl (tyX8_ok 2 (by decide)) rfl rfl (Nat.le_of_ble_eq_true rfl) dX8_followThread_81 (fun H locs hP hD hS => ?_)
          have hP : va_P D vwCl ([oX8 wk g q_wk_cameFrom r_1 wk_look wk_hand wk_visited_3, aI cy q_wk_cameFrom 48 (upd wk_cameFrom_2 r_1.toNatClampNeg wk_place_2), oX1 g g_rows g_columns g_a g_b g_cells g_right g_down]) H := hP
          have hD : va_D A ([oX8 wk g q_wk_cameFrom r_1 wk_look wk_hand wk_visited_3, aI cy q_wk_cameFrom 48 (upd wk_cameFrom_2 r_1.toNatClampNeg wk_place_2), oX1 g g_rows g_columns g_a g_b g_cells g_right g_down]) := hD
          refine lv_goto (tgt := 134) hx hb dX8_followThread_84 (by decide) ?_
          refine lv_iinc (v := (x1_1 + 1)) (lv' := [(1, .int (x1_1 + 1)), (2, .int r_1), (0, .ref wk)]) hx hb dX8_followThread_134 hl (k := 2) rfl rfl (by decide) rfl (fun ls hl => ?_)
          refine lv_goto (tgt := 24) hx hb dX8_followThread_137 (by decide) ?_
          exact hL2 (x1_1 + 1) r_1 wk_visited_3 (upd wk_cameFrom_2 r_1.toNatClampNeg wk_place_2) hf _ _ _ ⟨hP, hD, hS⟩ (lv_sub hl [2, 0] rfl)
      · have hf := qob_t hf c4
        refine lv_iload_n hx hb dX8_followThread_44 rfl (lv_at hl 1 rfl) ?_
        have hf := qob_esc hf
        have hf := qob_esc hf
        cases qob_ret hf
        exact ct_iret X hQ hK hP hD hS rfl dX8_followThread_45

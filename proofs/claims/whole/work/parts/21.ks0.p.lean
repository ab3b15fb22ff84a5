theorem inwX0_fewestBroken_X0 : ∀ w ∈ wsX00, w ∈ wsX0_fewestBroken := fun _ h => List.mem_cons_of_mem _ (List.mem_append_left _ (List.mem_append_right _ h))
theorem inwX0_fewestBroken_X1 : ∀ w ∈ wsX10, w ∈ wsX0_fewestBroken := fun _ h => List.mem_cons_of_mem _ (List.mem_append_right _ h)
abbrev rmX0_fewestBroken : Room := { frames := 3, cells := 0, slots := 0, locals := 72 }
theorem hdX0_fewestBroken : yX0_fewestBroken.cls = RX0 ∧ yX0_fewestBroken.cls ≠ "java/lang/invoke/MethodHandle" ∧ yX0_fewestBroken.cls ≠ "java/lang/invoke/VarHandle" ∧ (parseMethodDescriptor yX0_fewestBroken.desc).map (fun d => d.parameters.length) = some 2 := by decide +kernel
set_option maxHeartbeats 4000000 in
set_option maxRecDepth 100000 in
theorem KX0_fewestBroken {l : Launch} {D : va_G} {cy : Nat → ClassId} {ch g : Nat} {g_rows : Int32} {g_columns : Int32} {g_a : Int32} {g_b : Int32} {g_cells : Int64} {g_right : Int64} {g_down : Int64} {p1 : Int32} {p2 : Int32} {r : Int32} (hf : fX0_fewestBroken g_cells g_right g_down p1 p2 = some r) : CtI l yX0_fewestBroken wsX0_fewestBroken rmX0_fewestBroken D cy [.ref ch, .int p1, .int p2] ([oX0 ch g, oX1 g g_rows g_columns g_a g_b g_cells g_right g_down]) ([oX0 ch g, oX1 g g_rows g_columns g_a g_b g_cells g_right g_down]) r := by
  refine CtI.of (cc := cX0_fewestBroken) (maxL := 6) (ret := some .int) (own := RX0) (by decide) rfl rfl (Nat.le_of_ble_eq_true rfl) ?_
  intro p e s m args below meth c A Q X hQ hK hP hD hS ls hl
  obtain ⟨hx, hb, hml, hown, hts, hr, hlocks, hA, hZ⟩ := id X
  have hl : lv_has ls 6 [(0, .ref ch), (1, .int p1), (2, .int p2)] := hl
  unfold fX0_fewestBroken at hf
  have hf := qob_top hf
  refine lv_aload_n hx hb dX0_fewestBroken_0 rfl (lv_at hl 0 rfl) ?_
  refine va_get (D := D) (ci := 0) (v := .ref g) (C := RX0) (T := TX0) (N := 1) hx hb hts inwX0_fewestBroken_X0 hown hK hP 0 rfl rfl 0 (by decide) (hts (.fieldLink RX0 9 "HedgeWays$Changes" "grid" "LHedgeWays$Grid;") (List.mem_of_getElem? (i := 1) rfl)) (fun _ h9 => h9) rfl dX0_fewestBroken_1 ?_
  refine lv_iload_n hx hb dX0_fewestBroken_4 rfl (lv_at hl 1 rfl) ?_
  obtain ⟨r_1, q1, hf⟩ := qcall1 hf
  refine ctV_l0 (r := r_1) (wc := [oX1 g g_rows g_columns g_a g_b g_cells g_right g_down]) (As := [.int p1]) (rest := []) (q0 := 1) X hK hP hD hS [1] rfl rfl rfl (KX1_partOf q1 _) (cwV 1 hts gX0_fewestBroken_X1_partOf rfl rfl rfl hdX1_partOf ⟨Nat.le_of_ble_eq_true rfl, Nat.le_of_ble_eq_true rfl⟩) rfl rfl rfl hl rfl (Nat.le_of_ble_eq_true rfl) dX0_fewestBroken_5 (Nat.zero_le _) (Nat.zero_le _) (fun H locs hP hS => ?_)
  refine lv_lstore_n (lv' := [(3, .long r_1), (0, .ref ch), (1, .int p1), (2, .int p2)]) hx hb dX0_fewestBroken_8 rfl hl (by decide) rfl (fun ls hl => ?_)
  refine lv_iconst (v := 0) hx hb dX0_fewestBroken_9 (by decide) ?_
  refine lv_istore (lv' := [(5, .int 0), (3, .long r_1), (0, .ref ch), (1, .int p1), (2, .int p2)]) hx hb dX0_fewestBroken_10 hl (by decide) rfl (fun ls hl => ?_)
  refine qjoin1 hf (fun (x5_1 : Int32) => ∀ (H : Heap) (locs : List Loc) (ls : Array Slot), ctW D A s ([oX0 ch g, oX1 g g_rows g_columns g_a g_b g_cells g_right g_down]) H locs → lv_has ls 6 [(5, .int x5_1)] → W p l e rmX0_fewestBroken s m args below meth c H locs 0 0 Q (F0 m 56 ls [])) ?_ ?_
  · intro x5_1 hf H locs ls ⟨hP, hD, hS⟩ hl
    refine lv_iload hx hb dX0_fewestBroken_56 (lv_at hl 0 rfl) ?_
    cases qob_ret hf
    exact ct_iret X hQ hK hP hD hS rfl dX0_fewestBroken_58
  · intro J2 hJ2 hf
    refine qwalk2 (fun (x3_1 : Int64) (x5_2 : Int32) => ∀ (H : Heap) (locs : List Loc) (ls : Array Slot), ctW D A s ([oX0 ch g, oX1 g g_rows g_columns g_a g_b g_cells g_right g_down]) H locs → lv_has ls 6 [(0, .ref ch), (2, .int p2), (3, .long x3_1), (5, .int x5_2)] → W p l e rmX0_fewestBroken s m args below meth c H locs 0 0 Q (F0 m 12 ls [])) ?_ _ r_1 (0 : Int32) hf _ _ _ ⟨hP, hD, hS⟩ (lv_sub hl [2, 4, 1, 0] rfl)
    intro J3 hL3 x3_1 x5_2 hf H locs ls ⟨hP, hD, hS⟩ hl
    refine lv_iload hx hb dX0_fewestBroken_12 (lv_at hl 3 rfl) ?_
    refine lv_bipush (v := 36) hx hb dX0_fewestBroken_14 (by decide) ?_
    refine lv_icmp_ge (tgt := 56) hx hb dX0_fewestBroken_16 (by decide) (fun c4 => ?_) (fun c4 => ?_)
    · have hf := qob_t hf c4
      have hf := qob_esc hf
      exact hJ2 x5_2 hf _ _ _ ⟨hP, hD, hS⟩ (lv_sub hl [3] rfl)
    · have hf := qob_f hf c4
      refine lv_lload_n hx hb dX0_fewestBroken_19 rfl (lv_at hl 2 rfl) ?_
      refine lv_iload_n hx hb dX0_fewestBroken_20 rfl (lv_at hl 1 rfl) ?_
      refine ctS_i0 (r := (fX1_has x3_1 p2)) (wc := []) (As := [.long x3_1, .int p2]) (rest := []) X hK hP hD hS [] rfl rfl rfl (KX1_has rfl _) (va_cwS 2 hts gX0_fewestBroken_X1_has rfl rfl rfl hdX1_has ⟨Nat.le_of_ble_eq_true rfl, Nat.le_of_ble_eq_true rfl⟩) rfl hl rfl (Nat.le_of_ble_eq_true rfl) dX0_fewestBroken_21 (Nat.zero_le _) (Nat.zero_le _) (fun H locs hP hS => ?_)
      refine lv_if_ne (tgt := 56) hx hb dX0_fewestBroken_24 (by decide) (fun c5 => ?_) (fun c5 => ?_)
      · have hf := qob_f hf c5
        have hf := qob_esc hf
        exact hJ2 x5_2 hf _ _ _ ⟨hP, hD, hS⟩ (lv_sub hl [3] rfl)
      · have hf := qob_t hf c5
        refine lv_aload_n hx hb dX0_fewestBroken_27 rfl (lv_at hl 0 rfl) ?_
        refine va_get (D := D) (ci := 0) (v := .ref g) (C := RX0) (T := TX0) (N := 1) hx hb hts inwX0_fewestBroken_X0 hown hK hP 0 rfl rfl 0 (by decide) (hts (.fieldLink RX0 9 "HedgeWays$Changes" "grid" "LHedgeWays$Grid;") (List.mem_of_getElem? (i := 1) rfl)) (fun _ h9 => h9) rfl dX0_fewestBroken_28 ?_
        refine lv_aload_n hx hb dX0_fewestBroken_31 rfl (lv_at hl 0 rfl) ?_
        refine va_get (D := D) (ci := 0) (v := .ref g) (C := RX0) (T := TX0) (N := 1) hx hb hts inwX0_fewestBroken_X0 hown hK hP 0 rfl rfl 0 (by decide) (hts (.fieldLink RX0 9 "HedgeWays$Changes" "grid" "LHedgeWays$Grid;") (List.mem_of_getElem? (i := 1) rfl)) (fun _ h9 => h9) rfl dX0_fewestBroken_32 ?_
        refine lv_lload_n hx hb dX0_fewestBroken_35 rfl (lv_at hl 2 rfl) ?_
        refine ctV_l0 (r := (fX1_nearThroughHedges g_cells x3_1)) (wc := [oX1 g g_rows g_columns g_a g_b g_cells g_right g_down]) (As := [.long x3_1]) (rest := [.ref g]) (q0 := 1) X hK hP hD hS [1] rfl rfl rfl (KX1_nearThroughHedges rfl _) (cwV 1 hts gX0_fewestBroken_X1_nearThroughHedges rfl rfl rfl hdX1_nearThroughHedges ⟨Nat.le_of_ble_eq_true rfl, Nat.le_of_ble_eq_true rfl⟩) rfl rfl rfl hl rfl (Nat.le_of_ble_eq_true rfl) dX0_fewestBroken_36 (Nat.zero_le _) (Nat.zero_le _) (fun H locs hP hS => ?_)
        refine lv_aload_n hx hb dX0_fewestBroken_39 rfl (lv_at hl 0 rfl) ?_
        refine va_get (D := D) (ci := 0) (v := .ref g) (C := RX0) (T := TX0) (N := 1) hx hb hts inwX0_fewestBroken_X0 hown hK hP 0 rfl rfl 0 (by decide) (hts (.fieldLink RX0 9 "HedgeWays$Changes" "grid" "LHedgeWays$Grid;") (List.mem_of_getElem? (i := 1) rfl)) (fun _ h9 => h9) rfl dX0_fewestBroken_40 ?_
        refine va_get (D := D) (ci := 1) (v := .long g_cells) (C := RX1) (T := TX1) (N := 7) hx hb hts inwX0_fewestBroken_X1 hown hK hP 1 rfl rfl 4 (by decide) (hts (.fieldLink RX0 29 "HedgeWays$Grid" "cells" "J") (List.mem_of_getElem? (i := 2) rfl)) (fun _ h9 => h9) rfl dX0_fewestBroken_43 ?_
        obtain ⟨r_2, q6, hf⟩ := qcall1 hf
        refine ctV_l0 (r := r_2) (wc := [oX1 g g_rows g_columns g_a g_b g_cells g_right g_down]) (As := [.long (fX1_nearThroughHedges g_cells x3_1), .long g_cells]) (rest := []) (q0 := 1) X hK hP hD hS [1] rfl rfl rfl (KX1_flood q6 _) (cwV 2 hts gX0_fewestBroken_X1_flood rfl rfl rfl hdX1_flood ⟨Nat.le_of_ble_eq_true rfl, Nat.le_of_ble_eq_true rfl⟩) rfl rfl rfl hl rfl (Nat.le_of_ble_eq_true rfl) dX0_fewestBroken_46 (Nat.zero_le _) (Nat.zero_le _) (fun H locs hP hS => ?_)
        refine lv_lstore_n (lv' := [(3, .long r_2), (0, .ref ch), (2, .int p2), (5, .int x5_2)]) hx hb dX0_fewestBroken_49 rfl hl (by decide) rfl (fun ls hl => ?_)
        refine lv_iinc (v := (x5_2 + 1)) (lv' := [(5, .int (x5_2 + 1)), (3, .long r_2), (0, .ref ch), (2, .int p2)]) hx hb dX0_fewestBroken_50 hl (k := 3) rfl rfl (by decide) rfl (fun ls hl => ?_)
        refine lv_goto (tgt := 12) hx hb dX0_fewestBroken_53 (by decide) ?_
        exact hL3 r_2 (x5_2 + 1) hf _ _ _ ⟨hP, hD, hS⟩ (lv_sub hl [2, 3, 1, 0] rfl)
theorem inwX0_distanceWith_X0 : ∀ w ∈ wsX00, w ∈ wsX0_distanceWith := fun _ h => List.mem_cons_of_mem _ (List.mem_append_left _ (List.mem_append_right _ h))
theorem inwX0_distanceWith_X1 : ∀ w ∈ wsX10, w ∈ wsX0_distanceWith := fun _ h => List.mem_cons_of_mem _ (List.mem_append_right _ h)
abbrev rmX0_distanceWith : Room := { frames := 3, cells := 0, slots := 0, locals := 71 }
theorem hdX0_distanceWith : yX0_distanceWith.cls = RX0 ∧ yX0_distanceWith.cls ≠ "java/lang/invoke/MethodHandle" ∧ yX0_distanceWith.cls ≠ "java/lang/invoke/VarHandle" ∧ (parseMethodDescriptor yX0_distanceWith.desc).map (fun d => d.parameters.length) = some 3 := by decide +kernel
set_option maxHeartbeats 4000000 in
set_option maxRecDepth 100000 in
theorem KX0_distanceWith {l : Launch} {D : va_G} {cy : Nat → ClassId} {ch g : Nat} {g_rows : Int32} {g_columns : Int32} {g_a : Int32} {g_b : Int32} {g_cells : Int64} {g_right : Int64} {g_down : Int64} {p1 : Int32} {p2 : Int32} {p3 : Int32} {r : Int32} {g_right' : Int64} {g_down' : Int64} (hf : fX0_distanceWith g_a g_b g_cells g_right g_down p1 p2 p3 = some (r, g_right', g_down')) : CtI l yX0_distanceWith wsX0_distanceWith rmX0_distanceWith D cy [.ref ch, .int p1, .int p2, .int p3] ([oX0 ch g, oX1 g g_rows g_columns g_a g_b g_cells g_right g_down]) ([oX0 ch g, oX1 g g_rows g_columns g_a g_b g_cells g_right' g_down']) r := by
  refine CtI.of (cc := cX0_distanceWith) (maxL := 5) (ret := some .int) (own := RX0) (by decide) rfl rfl (Nat.le_of_ble_eq_true rfl) ?_
  intro p e s m args below meth c A Q X hQ hK hP hD hS ls hl
  obtain ⟨hx, hb, hml, hown, hts, hr, hlocks, hA, hZ⟩ := id X
  have hl : lv_has ls 5 [(0, .ref ch), (1, .int p1), (2, .int p2), (3, .int p3)] := hl
  unfold fX0_distanceWith at hf
  have hf := qob_top hf
  refine lv_aload_n hx hb dX0_distanceWith_0 rfl (lv_at hl 0 rfl) ?_
  refine va_get (D := D) (ci := 0) (v := .ref g) (C := RX0) (T := TX0) (N := 1) hx hb hts inwX0_distanceWith_X0 hown hK hP 0 rfl rfl 0 (by decide) (hts (.fieldLink RX0 9 "HedgeWays$Changes" "grid" "LHedgeWays$Grid;") (List.mem_of_getElem? (i := 1) rfl)) (fun _ h9 => h9) rfl dX0_distanceWith_1 ?_
  refine lv_iload_n hx hb dX0_distanceWith_4 rfl (lv_at hl 1 rfl) ?_
  refine lv_iload_n hx hb dX0_distanceWith_5 rfl (lv_at hl 2 rfl) ?_
  refine lv_iload_n hx hb dX0_distanceWith_6 rfl (lv_at hl 3 rfl) ?_
  obtain ⟨g_right_1, g_down_1, q1, hf⟩ := qcallT2 hf
  refine ctV_v (wc := [oX1 g g_rows g_columns g_a g_b g_cells g_right g_down]) (w1 := [oX1 g g_rows g_columns g_a g_b g_cells g_right_1 g_down_1]) (wr := [oX0 ch g]) (wn := [oX0 ch g, oX1 g g_rows g_columns g_a g_b g_cells g_right_1 g_down_1]) (As := [.int p1, .int p2, .int p3]) (rest := []) (q0 := 1) X hK hP hD hS [1] [0] [0, 1] rfl rfl rfl rfl rfl (by decide) rfl rfl rfl (KX1_setOpen q1 _) (cwV 3 hts gX0_distanceWith_X1_setOpen rfl rfl rfl hdX1_setOpen ⟨Nat.le_of_ble_eq_true rfl, Nat.le_of_ble_eq_true rfl⟩) rfl rfl rfl hl rfl (Nat.le_of_ble_eq_true rfl) dX0_distanceWith_7 (Nat.zero_le _) (Nat.zero_le _) (fun H locs hP hD hS => ?_)
  refine lv_aload_n hx hb dX0_distanceWith_10 rfl (lv_at hl 0 rfl) ?_
  refine va_get (D := D) (ci := 0) (v := .ref g) (C := RX0) (T := TX0) (N := 1) hx hb hts inwX0_distanceWith_X0 hown hK hP 0 rfl rfl 0 (by decide) (hts (.fieldLink RX0 9 "HedgeWays$Changes" "grid" "LHedgeWays$Grid;") (List.mem_of_getElem? (i := 1) rfl)) (fun _ h9 => h9) rfl dX0_distanceWith_11 ?_
  refine lv_aload_n hx hb dX0_distanceWith_14 rfl (lv_at hl 0 rfl) ?_
  refine va_get (D := D) (ci := 0) (v := .ref g) (C := RX0) (T := TX0) (N := 1) hx hb hts inwX0_distanceWith_X0 hown hK hP 0 rfl rfl 0 (by decide) (hts (.fieldLink RX0 9 "HedgeWays$Changes" "grid" "LHedgeWays$Grid;") (List.mem_of_getElem? (i := 1) rfl)) (fun _ h9 => h9) rfl dX0_distanceWith_15 ?_
  refine va_get (D := D) (ci := 1) (v := .int g_a) (C := RX1) (T := TX1) (N := 7) hx hb hts inwX0_distanceWith_X1 hown hK hP 1 rfl rfl 2 (by decide) (hts (.fieldLink RX0 37 "HedgeWays$Grid" "a" "I") (List.mem_of_getElem? (i := 2) rfl)) (fun _ h9 => h9) rfl dX0_distanceWith_18 ?_
  refine lv_aload_n hx hb dX0_distanceWith_21 rfl (lv_at hl 0 rfl) ?_
  refine va_get (D := D) (ci := 0) (v := .ref g) (C := RX0) (T := TX0) (N := 1) hx hb hts inwX0_distanceWith_X0 hown hK hP 0 rfl rfl 0 (by decide) (hts (.fieldLink RX0 9 "HedgeWays$Changes" "grid" "LHedgeWays$Grid;") (List.mem_of_getElem? (i := 1) rfl)) (fun _ h9 => h9) rfl dX0_distanceWith_22 ?_
  refine va_get (D := D) (ci := 1) (v := .int g_b) (C := RX1) (T := TX1) (N := 7) hx hb hts inwX0_distanceWith_X1 hown hK hP 1 rfl rfl 3 (by decide) (hts (.fieldLink RX0 41 "HedgeWays$Grid" "b" "I") (List.mem_of_getElem? (i := 3) rfl)) (fun _ h9 => h9) rfl dX0_distanceWith_25 ?_
  obtain ⟨r_1, q2, hf⟩ := qcall1 hf
  refine ctV_i0 (r := r_1) (wc := [oX1 g g_rows g_columns g_a g_b g_cells g_right_1 g_down_1]) (As := [.int g_a, .int g_b]) (rest := []) (q0 := 1) X hK hP hD hS [1] rfl rfl rfl (KX1_distance q2 _) (cwV 2 hts gX0_distanceWith_X1_distance rfl rfl rfl hdX1_distance ⟨Nat.le_of_ble_eq_true rfl, Nat.le_of_ble_eq_true rfl⟩) rfl rfl rfl hl rfl (Nat.le_of_ble_eq_true rfl) dX0_distanceWith_28 (Nat.zero_le _) (Nat.zero_le _) (fun H locs hP hS => ?_)
  refine lv_istore (lv' := [(4, .int r_1), (0, .ref ch), (1, .int p1), (2, .int p2), (3, .int p3)]) hx hb dX0_distanceWith_31 hl (by decide) rfl (fun ls hl => ?_)
  refine lv_aload_n hx hb dX0_distanceWith_33 rfl (lv_at hl 1 rfl) ?_
  refine va_get (D := D) (ci := 0) (v := .ref g) (C := RX0) (T := TX0) (N := 1) hx hb hts inwX0_distanceWith_X0 hown hK hP 0 rfl rfl 0 (by decide) (hts (.fieldLink RX0 9 "HedgeWays$Changes" "grid" "LHedgeWays$Grid;") (List.mem_of_getElem? (i := 1) rfl)) (fun _ h9 => h9) rfl dX0_distanceWith_34 ?_
  refine lv_iload_n hx hb dX0_distanceWith_37 rfl (lv_at hl 2 rfl) ?_
  refine lv_iload_n hx hb dX0_distanceWith_38 rfl (lv_at hl 3 rfl) ?_
  refine lv_iload_n hx hb dX0_distanceWith_39 rfl (lv_at hl 4 rfl) ?_
  refine qjoin1 hf (fun (s_1 : Int32) => ∀ (H : Heap) (locs : List Loc) (ls : Array Slot), ctW D A s ([oX0 ch g, oX1 g g_rows g_columns g_a g_b g_cells g_right_1 g_down_1]) H locs → lv_has ls 5 [(4, .int r_1)] → W p l e rmX0_distanceWith s m args below meth c H locs 0 0 Q (F0 m 48 ls [.int s_1, .int p2, .int p1, .ref g])) ?_ ?_
  · intro s_1 hf H locs ls ⟨hP, hD, hS⟩ hl
    obtain ⟨g_right_2, g_down_2, q3, hf⟩ := qcallT2 hf
    refine ctV_v (wc := [oX1 g g_rows g_columns g_a g_b g_cells g_right_1 g_down_1]) (w1 := [oX1 g g_rows g_columns g_a g_b g_cells g_right_2 g_down_2]) (wr := [oX0 ch g]) (wn := [oX0 ch g, oX1 g g_rows g_columns g_a g_b g_cells g_right_2 g_down_2]) (As := [.int p1, .int p2, .int s_1]) (rest := []) (q0 := 1) X hK hP hD hS [1] [0] [0, 1] rfl rfl rfl rfl rfl (by decide) rfl rfl rfl (KX1_setOpen q3 _) (cwV 3 hts gX0_distanceWith_X1_setOpen rfl rfl rfl hdX1_setOpen ⟨Nat.le_of_ble_eq_true rfl, Nat.le_of_ble_eq_true rfl⟩) rfl rfl rfl hl rfl (Nat.le_of_ble_eq_true rfl) dX0_distanceWith_48 (Nat.zero_le _) (Nat.zero_le _) (fun H locs hP hD hS => ?_)
    refine lv_iload hx hb dX0_distanceWith_51 (lv_at hl 0 rfl) ?_
    cases qob_ret hf
    exact ct_iret X hQ hK hP hD hS rfl dX0_distanceWith_53
  · intro J4 hJ4 hf
    refine lv_if_ne (tgt := 47) hx hb dX0_distanceWith_40 (by decide) (fun c5 => ?_) (fun c5 => ?_)
    · have hf := qob_f hf c5
      refine lv_iconst (v := 0) hx hb dX0_distanceWith_47 (by decide) ?_
      exact hJ4 0 hf _ _ _ ⟨hP, hD, hS⟩ (lv_sub hl [0] rfl)
    · have hf := qob_t hf c5
      refine lv_iconst (v := 1) hx hb dX0_distanceWith_43 (by decide) ?_
      refine lv_goto (tgt := 48) hx hb dX0_distanceWith_44 (by decide) ?_
      exact hJ4 1 hf _ _ _ ⟨hP, hD, hS⟩ (lv_sub hl [0] rfl)
theorem inwX0_bestTakenAway_X0 : ∀ w ∈ wsX00, w ∈ wsX0_bestTakenAway := fun _ h => List.mem_cons_of_mem _ (List.mem_append_left _ (List.mem_append_right _ h))
theorem inwX0_bestTakenAway_X1 : ∀ w ∈ wsX10, w ∈ wsX0_bestTakenAway := fun _ h => List.mem_cons_of_mem _ (List.mem_append_right _ h)
abbrev rmX0_bestTakenAway : Room := { frames := 4, cells := 0, slots := 0, locals := 95 }
theorem hdX0_bestTakenAway : yX0_bestTakenAway.cls = RX0 ∧ yX0_bestTakenAway.cls ≠ "java/lang/invoke/MethodHandle" ∧ yX0_bestTakenAway.cls ≠ "java/lang/invoke/VarHandle" ∧ (parseMethodDescriptor yX0_bestTakenAway.desc).map (fun d => d.parameters.length) = some 0 := by decide +kernel
set_option maxHeartbeats 4000000 in
set_option maxRecDepth 100000 in
theorem KX0_bestTakenAway {l : Launch} {D : va_G} {cy : Nat → ClassId} {ch g : Nat} {g_rows : Int32} {g_columns : Int32} {g_a : Int32} {g_b : Int32} {g_cells : Int64} {g_right : Int64} {g_down : Int64}  {r : Int32} {g_right' : Int64} {g_down' : Int64} (hf : fX0_bestTakenAway g_a g_b g_cells g_right g_down = some (r, g_right', g_down')) : CtI l yX0_bestTakenAway wsX0_bestTakenAway rmX0_bestTakenAway D cy [.ref ch] ([oX0 ch g, oX1 g g_rows g_columns g_a g_b g_cells g_right g_down]) ([oX0 ch g, oX1 g g_rows g_columns g_a g_b g_cells g_right' g_down']) r := by
  refine CtI.of (cc := cX0_bestTakenAway) (maxL := 6) (ret := some .int) (own := RX0) (by decide) rfl rfl (Nat.le_of_ble_eq_true rfl) ?_
  intro p e s m args below meth c A Q X hQ hK hP hD hS ls hl
  obtain ⟨hx, hb, hml, hown, hts, hr, hlocks, hA, hZ⟩ := id X
  have hl : lv_has ls 6 [(0, .ref ch)] := hl
  unfold fX0_bestTakenAway at hf
  have hf := qob_top hf
  refine lv_bipush (v := (-9)) hx hb dX0_bestTakenAway_0 (by decide) ?_
  refine lv_istore_n (lv' := [(1, .int (-9)), (0, .ref ch)]) hx hb dX0_bestTakenAway_2 rfl hl (by decide) rfl (fun ls hl => ?_)
  refine lv_aload_n hx hb dX0_bestTakenAway_3 rfl (lv_at hl 1 rfl) ?_
  refine va_get (D := D) (ci := 0) (v := .ref g) (C := RX0) (T := TX0) (N := 1) hx hb hts inwX0_bestTakenAway_X0 hown hK hP 0 rfl rfl 0 (by decide) (hts (.fieldLink RX0 9 "HedgeWays$Changes" "grid" "LHedgeWays$Grid;") (List.mem_of_getElem? (i := 1) rfl)) (fun _ h9 => h9) rfl dX0_bestTakenAway_4 ?_
  refine lv_aload_n hx hb dX0_bestTakenAway_7 rfl (lv_at hl 1 rfl) ?_
  refine va_get (D := D) (ci := 0) (v := .ref g) (C := RX0) (T := TX0) (N := 1) hx hb hts inwX0_bestTakenAway_X0 hown hK hP 0 rfl rfl 0 (by decide) (hts (.fieldLink RX0 9 "HedgeWays$Changes" "grid" "LHedgeWays$Grid;") (List.mem_of_getElem? (i := 1) rfl)) (fun _ h9 => h9) rfl dX0_bestTakenAway_8 ?_
  refine va_get (D := D) (ci := 1) (v := .int g_a) (C := RX1) (T := TX1) (N := 7) hx hb hts inwX0_bestTakenAway_X1 hown hK hP 1 rfl rfl 2 (by decide) (hts (.fieldLink RX0 37 "HedgeWays$Grid" "a" "I") (List.mem_of_getElem? (i := 2) rfl)) (fun _ h9 => h9) rfl dX0_bestTakenAway_11 ?_
  refine lv_aload_n hx hb dX0_bestTakenAway_14 rfl (lv_at hl 1 rfl) ?_
  refine va_get (D := D) (ci := 0) (v := .ref g) (C := RX0) (T := TX0) (N := 1) hx hb hts inwX0_bestTakenAway_X0 hown hK hP 0 rfl rfl 0 (by decide) (hts (.fieldLink RX0 9 "HedgeWays$Changes" "grid" "LHedgeWays$Grid;") (List.mem_of_getElem? (i := 1) rfl)) (fun _ h9 => h9) rfl dX0_bestTakenAway_15 ?_
  refine va_get (D := D) (ci := 1) (v := .int g_b) (C := RX1) (T := TX1) (N := 7) hx hb hts inwX0_bestTakenAway_X1 hown hK hP 1 rfl rfl 3 (by decide) (hts (.fieldLink RX0 41 "HedgeWays$Grid" "b" "I") (List.mem_of_getElem? (i := 3) rfl)) (fun _ h9 => h9) rfl dX0_bestTakenAway_18 ?_
  obtain ⟨r_1, q1, hf⟩ := qcall1 hf
  refine ctV_i0 (r := r_1) (wc := [oX1 g g_rows g_columns g_a g_b g_cells g_right g_down]) (As := [.int g_a, .int g_b]) (rest := []) (q0 := 1) X hK hP hD hS [1] rfl rfl rfl (KX1_distance q1 _) (cwV 2 hts gX0_bestTakenAway_X1_distance rfl rfl rfl hdX1_distance ⟨Nat.le_of_ble_eq_true rfl, Nat.le_of_ble_eq_true rfl⟩) rfl rfl rfl hl rfl (Nat.le_of_ble_eq_true rfl) dX0_bestTakenAway_21 (Nat.zero_le _) (Nat.zero_le _) (fun H locs hP hS => ?_)
  refine lv_istore_n (lv' := [(2, .int r_1), (1, .int (-9)), (0, .ref ch)]) hx hb dX0_bestTakenAway_24 rfl hl (by decide) rfl (fun ls hl => ?_)
  refine lv_iconst (v := 0) hx hb dX0_bestTakenAway_25 (by decide) ?_
  refine lv_istore_n (lv' := [(3, .int 0), (2, .int r_1), (1, .int (-9)), (0, .ref ch)]) hx hb dX0_bestTakenAway_26 rfl hl (by decide) rfl (fun ls hl => ?_)
  refine qjoin3 hf (fun (x1_1 : Int32) (g_right_1 : Int64) (g_down_1 : Int64) => ∀ (H : Heap) (locs : List Loc) (ls : Array Slot), ctW D A s ([oX0 ch g, oX1 g g_rows g_columns g_a g_b g_cells g_right_1 g_down_1]) H locs → lv_has ls 6 [(1, .int x1_1)] → W p l e rmX0_bestTakenAway s m args below meth c H locs 0 0 Q (F0 m 113 ls [])) ?_ ?_
  · intro x1_1 g_right_1 g_down_1 hf H locs ls ⟨hP, hD, hS⟩ hl
    refine lv_iload_n hx hb dX0_bestTakenAway_113 rfl (lv_at hl 0 rfl) ?_
    cases qob_ret hf
    exact ct_iret X hQ hK hP hD hS rfl dX0_bestTakenAway_114
  · intro J2 hJ2 hf
    refine qwalk5 (fun (x1_2 : Int32) (x2_1 : Int32) (x3_1 : Int32) (g_right_2 : Int64) (g_down_2 : Int64) => ∀ (H : Heap) (locs : List Loc) (ls : Array Slot), ctW D A s ([oX0 ch g, oX1 g g_rows g_columns g_a g_b g_cells g_right_2 g_down_2]) H locs → lv_has ls 6 [(0, .ref ch), (1, .int x1_2), (2, .int x2_1), (3, .int x3_1)] → W p l e rmX0_bestTakenAway s m args below meth c H locs 0 0 Q (F0 m 27 ls [])) ?_ _ (-9 : Int32) r_1 (0 : Int32) g_right g_down hf _ _ _ ⟨hP, hD, hS⟩ (lv_sub hl [3, 2, 1, 0] rfl)
    intro J3 hL3 x1_2 x2_1 x3_1 g_right_2 g_down_2 hf H locs ls ⟨hP, hD, hS⟩ hl
    refine lv_iload_n hx hb dX0_bestTakenAway_27 rfl (lv_at hl 3 rfl) ?_
    refine lv_bipush (v := 48) hx hb dX0_bestTakenAway_28 (by decide) ?_
    refine lv_icmp_ge (tgt := 113) hx hb dX0_bestTakenAway_30 (by decide) (fun c4 => ?_) (fun c4 => ?_)
    · have hf := qob_t hf c4
      have hf := qob_esc hf
      exact hJ2 x1_2 g_right_2 g_down_2 hf _ _ _ ⟨hP, hD, hS⟩ (lv_sub hl [1] rfl)
    · have hf := qob_f hf c4
      refine lv_iconst (v := 1) hx hb dX0_bestTakenAway_33 (by decide) ?_
      refine lv_istore (lv' := [(4, .int 1), (0, .ref ch), (1, .int x1_2), (2, .int x2_1), (3, .int x3_1)]) hx hb dX0_bestTakenAway_34 hl (by decide) rfl (fun ls hl => ?_)
      refine qjoin4 hf (fun (x1_3 : Int32) (x2_2 : Int32) (g_right_3 : Int64) (g_down_3 : Int64) => ∀ (H : Heap) (locs : List Loc) (ls : Array Slot), ctW D A s ([oX0 ch g, oX1 g g_rows g_columns g_a g_b g_cells g_right_3 g_down_3]) H locs → lv_has ls 6 [(0, .ref ch), (1, .int x1_3), (2, .int x2_2), (3, .int x3_1)] → W p l e rmX0_bestTakenAway s m args below meth c H locs 0 0 Q (F0 m 107 ls [])) ?_ ?_
      · intro x1_3 x2_2 g_right_3 g_down_3 hf H locs ls ⟨hP, hD, hS⟩ hl
        refine lv_iinc (v := (x3_1 + 1)) (lv' := [(3, .int (x3_1 + 1)), (0, .ref ch), (1, .int x1_3), (2, .int x2_2)]) hx hb dX0_bestTakenAway_107 hl (k := 3) rfl rfl (by decide) rfl (fun ls hl => ?_)
        refine lv_goto (tgt := 27) hx hb dX0_bestTakenAway_110 (by decide) ?_
        exact hL3 x1_3 x2_2 (x3_1 + 1) g_right_3 g_down_3 hf _ _ _ ⟨hP, hD, hS⟩ (lv_sub hl [1, 2, 3, 0] rfl)
      · intro J5 hJ5 hf
        refine qwalk5 (fun (x1_4 : Int32) (x2_3 : Int32) (x4_1 : Int32) (g_right_4 : Int64) (g_down_4 : Int64) => ∀ (H : Heap) (locs : List Loc) (ls : Array Slot), ctW D A s ([oX0 ch g, oX1 g g_rows g_columns g_a g_b g_cells g_right_4 g_down_4]) H locs → lv_has ls 6 [(0, .ref ch), (1, .int x1_4), (2, .int x2_3), (3, .int x3_1), (4, .int x4_1)] → W p l e rmX0_bestTakenAway s m args below meth c H locs 0 0 Q (F0 m 36 ls [])) ?_ _ x1_2 x2_1 (1 : Int32) g_right_2 g_down_2 hf _ _ _ ⟨hP, hD, hS⟩ (lv_sub hl [1, 2, 3, 4, 0] rfl)
        intro J6 hL6 x1_4 x2_3 x4_1 g_right_4 g_down_4 hf H locs ls ⟨hP, hD, hS⟩ hl
        refine lv_iload hx hb dX0_bestTakenAway_36 (lv_at hl 4 rfl) ?_
        refine lv_iconst (v := 2) hx hb dX0_bestTakenAway_38 (by decide) ?_
        refine lv_icmp_gt (tgt := 107) hx hb dX0_bestTakenAway_39 (by decide) (fun c7 => ?_) (fun c7 => ?_)
        · have hf := qob_t hf c7
          have hf := qob_esc hf
          exact hJ5 x1_4 x2_3 g_right_4 g_down_4 hf _ _ _ ⟨hP, hD, hS⟩ (lv_sub hl [0, 1, 2, 3] rfl)
        · have hf := qob_f hf c7
          refine lv_aload_n hx hb dX0_bestTakenAway_42 rfl (lv_at hl 0 rfl) ?_
          refine va_get (D := D) (ci := 0) (v := .ref g) (C := RX0) (T := TX0) (N := 1) hx hb hts inwX0_bestTakenAway_X0 hown hK hP 0 rfl rfl 0 (by decide) (hts (.fieldLink RX0 9 "HedgeWays$Changes" "grid" "LHedgeWays$Grid;") (List.mem_of_getElem? (i := 1) rfl)) (fun _ h9 => h9) rfl dX0_bestTakenAway_43 ?_
          refine lv_iload_n hx hb dX0_bestTakenAway_46 rfl (lv_at hl 3 rfl) ?_
          refine lv_iload hx hb dX0_bestTakenAway_47 (lv_at hl 4 rfl) ?_
          refine ctV_i0 (r := (fX1_isHedge g_cells g_right_4 g_down_4 x3_1 x4_1)) (wc := [oX1 g g_rows g_columns g_a g_b g_cells g_right_4 g_down_4]) (As := [.int x3_1, .int x4_1]) (rest := []) (q0 := 1) X hK hP hD hS [1] rfl rfl rfl (KX1_isHedge rfl _) (cwV 2 hts gX0_bestTakenAway_X1_isHedge rfl rfl rfl hdX1_isHedge ⟨Nat.le_of_ble_eq_true rfl, Nat.le_of_ble_eq_true rfl⟩) rfl rfl rfl hl rfl (Nat.le_of_ble_eq_true rfl) dX0_bestTakenAway_49 (Nat.zero_le _) (Nat.zero_le _) (fun H locs hP hS => ?_)
          refine lv_if_ne (tgt := 58) hx hb dX0_bestTakenAway_52 (by decide) (fun c8 => ?_) (fun c8 => ?_)
          · have hf := qob_f hf c8
            refine lv_aload_n hx hb dX0_bestTakenAway_58 rfl (lv_at hl 0 rfl) ?_
            refine lv_iload_n hx hb dX0_bestTakenAway_59 rfl (lv_at hl 3 rfl) ?_
            refine lv_iload hx hb dX0_bestTakenAway_60 (lv_at hl 4 rfl) ?_
            refine lv_iconst (v := 1) hx hb dX0_bestTakenAway_62 (by decide) ?_
            obtain ⟨r_2, g_right_5, g_down_5, q9, hf⟩ := qcall3 hf
            refine ctV_i (r := r_2) (wc := [oX0 ch g, oX1 g g_rows g_columns g_a g_b g_cells g_right_4 g_down_4]) (w1 := [oX0 ch g, oX1 g g_rows g_columns g_a g_b g_cells g_right_5 g_down_5]) (wr := []) (wn := [oX0 ch g, oX1 g g_rows g_columns g_a g_b g_cells g_right_5 g_down_5]) (As := [.int x3_1, .int x4_1, .int 1]) (rest := []) (q0 := 0) X hK hP hD hS [0, 1] [] [0, 1] rfl rfl rfl rfl rfl (by decide) rfl rfl rfl (KX0_distanceWith q9 _) (cwV 3 hts gX0_bestTakenAway_X0_distanceWith rfl rfl rfl hdX0_distanceWith ⟨Nat.le_of_ble_eq_true rfl, Nat.le_of_ble_eq_true rfl⟩) rfl rfl rfl hl rfl (Nat.le_of_ble_eq_true rfl) dX0_bestTakenAway_63 (Nat.zero_le _) (Nat.zero_le _) (fun H locs hP hD hS => ?_)
            refine lv_istore (lv' := [(5, .int r_2), (0, .ref ch), (1, .int x1_4), (2, .int x2_3), (3, .int x3_1), (4, .int x4_1)]) hx hb dX0_bestTakenAway_66 hl (by decide) rfl (fun ls hl => ?_)
            refine lv_iload hx hb dX0_bestTakenAway_68 (lv_at hl 0 rfl) ?_
            refine lv_bipush (v := (-9)) hx hb dX0_bestTakenAway_70 (by decide) ?_
            refine lv_icmp_eq (tgt := 101) hx hb dX0_bestTakenAway_72 (by decide) (fun c10 => ?_) (fun c10 => ?_)
            · have hf := qob_t hf c10
              refine lv_iinc (v := (x4_1 + 1)) (lv' := [(4, .int (x4_1 + 1)), (5, .int r_2), (0, .ref ch), (1, .int x1_4), (2, .int x2_3), (3, .int x3_1)]) hx hb dX0_bestTakenAway_101 hl (k := 5) rfl rfl (by decide) rfl (fun ls hl => ?_)
              refine lv_goto (tgt := 36) hx hb dX0_bestTakenAway_104 (by decide) ?_
              exact hL6 x1_4 x2_3 (x4_1 + 1) g_right_5 g_down_5 hf _ _ _ ⟨hP, hD, hS⟩ (lv_sub hl [2, 3, 4, 5, 0] rfl)
            · have hf := qob_f hf c10
              refine lv_iload_n hx hb dX0_bestTakenAway_75 rfl (lv_at hl 3 rfl) ?_
              refine lv_bipush (v := (-9)) hx hb dX0_bestTakenAway_76 (by decide) ?_
              refine lv_icmp_eq (tgt := 87) hx hb dX0_bestTakenAway_78 (by decide) (fun c11 => ?_) (fun c11 => ?_)
              · have hf := qob_t hf c11
                refine lv_iload hx hb dX0_bestTakenAway_87 (lv_at hl 0 rfl) ?_
                refine lv_istore_n (lv' := [(2, .int r_2), (5, .int r_2), (0, .ref ch), (1, .int x1_4), (3, .int x3_1), (4, .int x4_1)]) hx hb dX0_bestTakenAway_89 rfl hl (by decide) rfl (fun ls hl => ?_)
                refine lv_bipush (v := 10) hx hb dX0_bestTakenAway_90 (by decide) ?_
                refine lv_iload_n hx hb dX0_bestTakenAway_92 rfl (lv_at hl 4 rfl) ?_
                refine ctS_i0 (r := (fX1_told x3_1)) (wc := []) (As := [.int x3_1]) (rest := [.int 10]) X hK hP hD hS [] rfl rfl rfl (KX1_told rfl _) (va_cwS 1 hts gX0_bestTakenAway_X1_told rfl rfl rfl hdX1_told ⟨Nat.le_of_ble_eq_true rfl, Nat.le_of_ble_eq_true rfl⟩) rfl hl rfl (Nat.le_of_ble_eq_true rfl) dX0_bestTakenAway_93 (Nat.zero_le _) (Nat.zero_le _) (fun H locs hP hS => ?_)
                refine lv_imul hx hb dX0_bestTakenAway_96 ?_
                refine lv_iload hx hb dX0_bestTakenAway_97 (lv_at hl 5 rfl) ?_
                refine lv_iadd hx hb dX0_bestTakenAway_99 ?_
                refine lv_istore_n (lv' := [(1, .int ((10 * (fX1_told x3_1)) + x4_1)), (2, .int r_2), (5, .int r_2), (0, .ref ch), (3, .int x3_1), (4, .int x4_1)]) hx hb dX0_bestTakenAway_100 rfl hl (by decide) rfl (fun ls hl => ?_)
                refine lv_iinc (v := (x4_1 + 1)) (lv' := [(4, .int (x4_1 + 1)), (1, .int ((10 * (fX1_told x3_1)) + x4_1)), (2, .int r_2), (5, .int r_2), (0, .ref ch), (3, .int x3_1)]) hx hb dX0_bestTakenAway_101 hl (k := 5) rfl rfl (by decide) rfl (fun ls hl => ?_)
                refine lv_goto (tgt := 36) hx hb dX0_bestTakenAway_104 (by decide) ?_
                exact hL6 ((10 * (fX1_told x3_1)) + x4_1) r_2 (x4_1 + 1) g_right_5 g_down_5 hf _ _ _ ⟨hP, hD, hS⟩ (lv_sub hl [4, 1, 2, 5, 0] rfl)
              · have hf := qob_f hf c11
                refine lv_iload hx hb dX0_bestTakenAway_81 (lv_at hl 0 rfl) ?_
                refine lv_iload_n hx hb dX0_bestTakenAway_83 rfl (lv_at hl 3 rfl) ?_
                refine lv_icmp_ge (tgt := 101) hx hb dX0_bestTakenAway_84 (by decide) (fun c12 => ?_) (fun c12 => ?_)
                · have hf := qob_t hf c12
                  refine lv_iinc (v := (x4_1 + 1)) (lv' := [(4, .int (x4_1 + 1)), (5, .int r_2), (0, .ref ch), (1, .int x1_4), (2, .int x2_3), (3, .int x3_1)]) hx hb dX0_bestTakenAway_101 hl (k := 5) rfl rfl (by decide) rfl (fun ls hl => ?_)
                  refine lv_goto (tgt := 36) hx hb dX0_bestTakenAway_104 (by decide) ?_
                  exact hL6 x1_4 x2_3 (x4_1 + 1) g_right_5 g_down_5 hf _ _ _ ⟨hP, hD, hS⟩ (lv_sub hl [2, 3, 4, 5, 0] rfl)
                · have hf := qob_f hf c12
                  refine lv_iload hx hb dX0_bestTakenAway_87 (lv_at hl 0 rfl) ?_
                  refine lv_istore_n (lv' := [(2, .int r_2), (5, .int r_2), (0, .ref ch), (1, .int x1_4), (3, .int x3_1), (4, .int x4_1)]) hx hb dX0_bestTakenAway_89 rfl hl (by decide) rfl (fun ls hl => ?_)
                  refine lv_bipush (v := 10) hx hb dX0_bestTakenAway_90 (by decide) ?_
                  refine lv_iload_n hx hb dX0_bestTakenAway_92 rfl (lv_at hl 4 rfl) ?_
                  refine ctS_i0 (r := (fX1_told x3_1)) (wc := []) (As := [.int x3_1]) (rest := [.int 10]) X hK hP hD hS [] rfl rfl rfl (KX1_told rfl _) (va_cwS 1 hts gX0_bestTakenAway_X1_told rfl rfl rfl hdX1_told ⟨Nat.le_of_ble_eq_true rfl, Nat.le_of_ble_eq_true rfl⟩) rfl hl rfl (Nat.le_of_ble_eq_true rfl) dX0_bestTakenAway_93 (Nat.zero_le _) (Nat.zero_le _) (fun H locs hP hS => ?_)
                  refine lv_imul hx hb dX0_bestTakenAway_96 ?_
                  refine lv_iload hx hb dX0_bestTakenAway_97 (lv_at hl 5 rfl) ?_
                  refine lv_iadd hx hb dX0_bestTakenAway_99 ?_
                  refine lv_istore_n (lv' := [(1, .int ((10 * (fX1_told x3_1)) + x4_1)), (2, .int r_2), (5, .int r_2), (0, .ref ch), (3, .int x3_1), (4, .int x4_1)]) hx hb dX0_bestTakenAway_100 rfl hl (by decide) rfl (fun ls hl => ?_)
                  refine lv_iinc (v := (x4_1 + 1)) (lv' := [(4, .int (x4_1 + 1)), (1, .int ((10 * (fX1_told x3_1)) + x4_1)), (2, .int r_2), (5, .int r_2), (0, .ref ch), (3, .int x3_1)]) hx hb dX0_bestTakenAway_101 hl (k := 5) rfl rfl (by decide) rfl (fun ls hl => ?_)
                  refine lv_goto (tgt := 36) hx hb dX0_bestTakenAway_104 (by decide) ?_
                  exact hL6 ((10 * (fX1_told x3_1)) + x4_1) r_2 (x4_1 + 1) g_right_5 g_down_5 hf _ _ _ ⟨hP, hD, hS⟩ (lv_sub hl [4, 1, 2, 5, 0] rfl)
          · have hf := qob_t hf c8
            refine lv_goto (tgt := 101) hx hb dX0_bestTakenAway_55 (by decide) ?_
            refine lv_iinc (v := (x4_1 + 1)) (lv' := [(4, .int (x4_1 + 1)), (0, .ref ch), (1, .int x1_4), (2, .int x2_3), (3, .int x3_1)]) hx hb dX0_bestTakenAway_101 hl (k := 4) rfl rfl (by decide) rfl (fun ls hl => ?_)
            refine lv_goto (tgt := 36) hx hb dX0_bestTakenAway_104 (by decide) ?_
            exact hL6 x1_4 x2_3 (x4_1 + 1) g_right_4 g_down_4 hf _ _ _ ⟨hP, hD, hS⟩ (lv_sub hl [1, 2, 3, 4, 0] rfl)
theorem inwX0_bestPutIn_X0 : ∀ w ∈ wsX00, w ∈ wsX0_bestPutIn := fun _ h => List.mem_cons_of_mem _ (List.mem_append_left _ (List.mem_append_right _ h))
theorem inwX0_bestPutIn_X1 : ∀ w ∈ wsX10, w ∈ wsX0_bestPutIn := fun _ h => List.mem_cons_of_mem _ (List.mem_append_right _ h)
abbrev rmX0_bestPutIn : Room := { frames := 4, cells := 0, slots := 0, locals := 95 }
theorem hdX0_bestPutIn : yX0_bestPutIn.cls = RX0 ∧ yX0_bestPutIn.cls ≠ "java/lang/invoke/MethodHandle" ∧ yX0_bestPutIn.cls ≠ "java/lang/invoke/VarHandle" ∧ (parseMethodDescriptor yX0_bestPutIn.desc).map (fun d => d.parameters.length) = some 0 := by decide +kernel
set_option maxHeartbeats 4000000 in
set_option maxRecDepth 100000 in
theorem KX0_bestPutIn {l : Launch} {D : va_G} {cy : Nat → ClassId} {ch g : Nat} {g_rows : Int32} {g_columns : Int32} {g_a : Int32} {g_b : Int32} {g_cells : Int64} {g_right : Int64} {g_down : Int64}  {r : Int32} {g_right' : Int64} {g_down' : Int64} (hf : fX0_bestPutIn g_a g_b g_cells g_right g_down = some (r, g_right', g_down')) : CtI l yX0_bestPutIn wsX0_bestPutIn rmX0_bestPutIn D cy [.ref ch] ([oX0 ch g, oX1 g g_rows g_columns g_a g_b g_cells g_right g_down]) ([oX0 ch g, oX1 g g_rows g_columns g_a g_b g_cells g_right' g_down']) r := by
  refine CtI.of (cc := cX0_bestPutIn) (maxL := 6) (ret := some .int) (own := RX0) (by decide) rfl rfl (Nat.le_of_ble_eq_true rfl) ?_
  intro p e s m args below meth c A Q X hQ hK hP hD hS ls hl
  obtain ⟨hx, hb, hml, hown, hts, hr, hlocks, hA, hZ⟩ := id X
  have hl : lv_has ls 6 [(0, .ref ch)] := hl
  unfold fX0_bestPutIn at hf
  have hf := qob_top hf
  refine lv_bipush (v := (-9)) hx hb dX0_bestPutIn_0 (by decide) ?_
  refine lv_istore_n (lv' := [(1, .int (-9)), (0, .ref ch)]) hx hb dX0_bestPutIn_2 rfl hl (by decide) rfl (fun ls hl => ?_)
  refine lv_aload_n hx hb dX0_bestPutIn_3 rfl (lv_at hl 1 rfl) ?_
  refine va_get (D := D) (ci := 0) (v := .ref g) (C := RX0) (T := TX0) (N := 1) hx hb hts inwX0_bestPutIn_X0 hown hK hP 0 rfl rfl 0 (by decide) (hts (.fieldLink RX0 9 "HedgeWays$Changes" "grid" "LHedgeWays$Grid;") (List.mem_of_getElem? (i := 1) rfl)) (fun _ h9 => h9) rfl dX0_bestPutIn_4 ?_
  refine lv_aload_n hx hb dX0_bestPutIn_7 rfl (lv_at hl 1 rfl) ?_
  refine va_get (D := D) (ci := 0) (v := .ref g) (C := RX0) (T := TX0) (N := 1) hx hb hts inwX0_bestPutIn_X0 hown hK hP 0 rfl rfl 0 (by decide) (hts (.fieldLink RX0 9 "HedgeWays$Changes" "grid" "LHedgeWays$Grid;") (List.mem_of_getElem? (i := 1) rfl)) (fun _ h9 => h9) rfl dX0_bestPutIn_8 ?_
  refine va_get (D := D) (ci := 1) (v := .int g_a) (C := RX1) (T := TX1) (N := 7) hx hb hts inwX0_bestPutIn_X1 hown hK hP 1 rfl rfl 2 (by decide) (hts (.fieldLink RX0 37 "HedgeWays$Grid" "a" "I") (List.mem_of_getElem? (i := 2) rfl)) (fun _ h9 => h9) rfl dX0_bestPutIn_11 ?_
  refine lv_aload_n hx hb dX0_bestPutIn_14 rfl (lv_at hl 1 rfl) ?_
  refine va_get (D := D) (ci := 0) (v := .ref g) (C := RX0) (T := TX0) (N := 1) hx hb hts inwX0_bestPutIn_X0 hown hK hP 0 rfl rfl 0 (by decide) (hts (.fieldLink RX0 9 "HedgeWays$Changes" "grid" "LHedgeWays$Grid;") (List.mem_of_getElem? (i := 1) rfl)) (fun _ h9 => h9) rfl dX0_bestPutIn_15 ?_
  refine va_get (D := D) (ci := 1) (v := .int g_b) (C := RX1) (T := TX1) (N := 7) hx hb hts inwX0_bestPutIn_X1 hown hK hP 1 rfl rfl 3 (by decide) (hts (.fieldLink RX0 41 "HedgeWays$Grid" "b" "I") (List.mem_of_getElem? (i := 3) rfl)) (fun _ h9 => h9) rfl dX0_bestPutIn_18 ?_
  obtain ⟨r_1, q1, hf⟩ := qcall1 hf
  refine ctV_i0 (r := r_1) (wc := [oX1 g g_rows g_columns g_a g_b g_cells g_right g_down]) (As := [.int g_a, .int g_b]) (rest := []) (q0 := 1) X hK hP hD hS [1] rfl rfl rfl (KX1_distance q1 _) (cwV 2 hts gX0_bestPutIn_X1_distance rfl rfl rfl hdX1_distance ⟨Nat.le_of_ble_eq_true rfl, Nat.le_of_ble_eq_true rfl⟩) rfl rfl rfl hl rfl (Nat.le_of_ble_eq_true rfl) dX0_bestPutIn_21 (Nat.zero_le _) (Nat.zero_le _) (fun H locs hP hS => ?_)
  refine lv_istore_n (lv' := [(2, .int r_1), (1, .int (-9)), (0, .ref ch)]) hx hb dX0_bestPutIn_24 rfl hl (by decide) rfl (fun ls hl => ?_)
  refine lv_iconst (v := 0) hx hb dX0_bestPutIn_25 (by decide) ?_
  refine lv_istore_n (lv' := [(3, .int 0), (2, .int r_1), (1, .int (-9)), (0, .ref ch)]) hx hb dX0_bestPutIn_26 rfl hl (by decide) rfl (fun ls hl => ?_)
  refine qjoin3 hf (fun (x1_1 : Int32) (g_right_1 : Int64) (g_down_1 : Int64) => ∀ (H : Heap) (locs : List Loc) (ls : Array Slot), ctW D A s ([oX0 ch g, oX1 g g_rows g_columns g_a g_b g_cells g_right_1 g_down_1]) H locs → lv_has ls 6 [(1, .int x1_1)] → W p l e rmX0_bestPutIn s m args below meth c H locs 0 0 Q (F0 m 113 ls [])) ?_ ?_
  · intro x1_1 g_right_1 g_down_1 hf H locs ls ⟨hP, hD, hS⟩ hl
    refine lv_iload_n hx hb dX0_bestPutIn_113 rfl (lv_at hl 0 rfl) ?_
    cases qob_ret hf
    exact ct_iret X hQ hK hP hD hS rfl dX0_bestPutIn_114
  · intro J2 hJ2 hf
    refine qwalk5 (fun (x1_2 : Int32) (x2_1 : Int32) (x3_1 : Int32) (g_right_2 : Int64) (g_down_2 : Int64) => ∀ (H : Heap) (locs : List Loc) (ls : Array Slot), ctW D A s ([oX0 ch g, oX1 g g_rows g_columns g_a g_b g_cells g_right_2 g_down_2]) H locs → lv_has ls 6 [(0, .ref ch), (1, .int x1_2), (2, .int x2_1), (3, .int x3_1)] → W p l e rmX0_bestPutIn s m args below meth c H locs 0 0 Q (F0 m 27 ls [])) ?_ _ (-9 : Int32) r_1 (0 : Int32) g_right g_down hf _ _ _ ⟨hP, hD, hS⟩ (lv_sub hl [3, 2, 1, 0] rfl)
    intro J3 hL3 x1_2 x2_1 x3_1 g_right_2 g_down_2 hf H locs ls ⟨hP, hD, hS⟩ hl
    refine lv_iload_n hx hb dX0_bestPutIn_27 rfl (lv_at hl 3 rfl) ?_
    refine lv_bipush (v := 48) hx hb dX0_bestPutIn_28 (by decide) ?_
    refine lv_icmp_ge (tgt := 113) hx hb dX0_bestPutIn_30 (by decide) (fun c4 => ?_) (fun c4 => ?_)
    · have hf := qob_t hf c4
      have hf := qob_esc hf
      exact hJ2 x1_2 g_right_2 g_down_2 hf _ _ _ ⟨hP, hD, hS⟩ (lv_sub hl [1] rfl)
    · have hf := qob_f hf c4
      refine lv_iload_n hx hb dX0_bestPutIn_33 rfl (lv_at hl 2 rfl) ?_
      refine lv_bipush (v := (-9)) hx hb dX0_bestPutIn_34 (by decide) ?_
      refine lv_icmp_eq (tgt := 113) hx hb dX0_bestPutIn_36 (by decide) (fun c5 => ?_) (fun c5 => ?_)
      · have hf := qob_t hf c5
        have hf := qob_esc hf
        exact hJ2 x1_2 g_right_2 g_down_2 hf _ _ _ ⟨hP, hD, hS⟩ (lv_sub hl [1] rfl)
      · have hf := qob_f hf c5
        refine lv_iconst (v := 1) hx hb dX0_bestPutIn_39 (by decide) ?_
        refine lv_istore (lv' := [(4, .int 1), (0, .ref ch), (1, .int x1_2), (2, .int x2_1), (3, .int x3_1)]) hx hb dX0_bestPutIn_40 hl (by decide) rfl (fun ls hl => ?_)
        refine qjoin4 hf (fun (x1_3 : Int32) (x2_2 : Int32) (g_right_3 : Int64) (g_down_3 : Int64) => ∀ (H : Heap) (locs : List Loc) (ls : Array Slot), ctW D A s ([oX0 ch g, oX1 g g_rows g_columns g_a g_b g_cells g_right_3 g_down_3]) H locs → lv_has ls 6 [(0, .ref ch), (1, .int x1_3), (2, .int x2_2), (3, .int x3_1)] → W p l e rmX0_bestPutIn s m args below meth c H locs 0 0 Q (F0 m 107 ls [])) ?_ ?_
        · intro x1_3 x2_2 g_right_3 g_down_3 hf H locs ls ⟨hP, hD, hS⟩ hl
          refine lv_iinc (v := (x3_1 + 1)) (lv' := [(3, .int (x3_1 + 1)), (0, .ref ch), (1, .int x1_3), (2, .int x2_2)]) hx hb dX0_bestPutIn_107 hl (k := 3) rfl rfl (by decide) rfl (fun ls hl => ?_)
          refine lv_goto (tgt := 27) hx hb dX0_bestPutIn_110 (by decide) ?_
          exact hL3 x1_3 x2_2 (x3_1 + 1) g_right_3 g_down_3 hf _ _ _ ⟨hP, hD, hS⟩ (lv_sub hl [1, 2, 3, 0] rfl)
        · intro J6 hJ6 hf
          refine qwalk5 (fun (x1_4 : Int32) (x2_3 : Int32) (x4_1 : Int32) (g_right_4 : Int64) (g_down_4 : Int64) => ∀ (H : Heap) (locs : List Loc) (ls : Array Slot), ctW D A s ([oX0 ch g, oX1 g g_rows g_columns g_a g_b g_cells g_right_4 g_down_4]) H locs → lv_has ls 6 [(0, .ref ch), (1, .int x1_4), (2, .int x2_3), (3, .int x3_1), (4, .int x4_1)] → W p l e rmX0_bestPutIn s m args below meth c H locs 0 0 Q (F0 m 42 ls [])) ?_ _ x1_2 x2_1 (1 : Int32) g_right_2 g_down_2 hf _ _ _ ⟨hP, hD, hS⟩ (lv_sub hl [1, 2, 3, 4, 0] rfl)
          intro J7 hL7 x1_4 x2_3 x4_1 g_right_4 g_down_4 hf H locs ls ⟨hP, hD, hS⟩ hl
          refine lv_iload hx hb dX0_bestPutIn_42 (lv_at hl 4 rfl) ?_
          refine lv_iconst (v := 2) hx hb dX0_bestPutIn_44 (by decide) ?_
          refine lv_icmp_gt (tgt := 107) hx hb dX0_bestPutIn_45 (by decide) (fun c8 => ?_) (fun c8 => ?_)
          · have hf := qob_t hf c8
            have hf := qob_esc hf
            exact hJ6 x1_4 x2_3 g_right_4 g_down_4 hf _ _ _ ⟨hP, hD, hS⟩ (lv_sub hl [0, 1, 2, 3] rfl)
          · have hf := qob_f hf c8
            refine lv_aload_n hx hb dX0_bestPutIn_48 rfl (lv_at hl 0 rfl) ?_
            refine va_get (D := D) (ci := 0) (v := .ref g) (C := RX0) (T := TX0) (N := 1) hx hb hts inwX0_bestPutIn_X0 hown hK hP 0 rfl rfl 0 (by decide) (hts (.fieldLink RX0 9 "HedgeWays$Changes" "grid" "LHedgeWays$Grid;") (List.mem_of_getElem? (i := 1) rfl)) (fun _ h9 => h9) rfl dX0_bestPutIn_49 ?_
            refine lv_iload_n hx hb dX0_bestPutIn_52 rfl (lv_at hl 3 rfl) ?_
            refine lv_iload hx hb dX0_bestPutIn_53 (lv_at hl 4 rfl) ?_
            refine ctV_i0 (r := (fX1_isOpen g_right_4 g_down_4 x3_1 x4_1)) (wc := [oX1 g g_rows g_columns g_a g_b g_cells g_right_4 g_down_4]) (As := [.int x3_1, .int x4_1]) (rest := []) (q0 := 1) X hK hP hD hS [1] rfl rfl rfl (KX1_isOpen rfl _) (cwV 2 hts gX0_bestPutIn_X1_isOpen rfl rfl rfl hdX1_isOpen ⟨Nat.le_of_ble_eq_true rfl, Nat.le_of_ble_eq_true rfl⟩) rfl rfl rfl hl rfl (Nat.le_of_ble_eq_true rfl) dX0_bestPutIn_55 (Nat.zero_le _) (Nat.zero_le _) (fun H locs hP hS => ?_)
            refine lv_if_ne (tgt := 64) hx hb dX0_bestPutIn_58 (by decide) (fun c9 => ?_) (fun c9 => ?_)
            · have hf := qob_f hf c9
              refine lv_aload_n hx hb dX0_bestPutIn_64 rfl (lv_at hl 0 rfl) ?_
              refine lv_iload_n hx hb dX0_bestPutIn_65 rfl (lv_at hl 3 rfl) ?_
              refine lv_iload hx hb dX0_bestPutIn_66 (lv_at hl 4 rfl) ?_
              refine lv_iconst (v := 0) hx hb dX0_bestPutIn_68 (by decide) ?_
              obtain ⟨r_2, g_right_5, g_down_5, q10, hf⟩ := qcall3 hf
              refine ctV_i (r := r_2) (wc := [oX0 ch g, oX1 g g_rows g_columns g_a g_b g_cells g_right_4 g_down_4]) (w1 := [oX0 ch g, oX1 g g_rows g_columns g_a g_b g_cells g_right_5 g_down_5]) (wr := []) (wn := [oX0 ch g, oX1 g g_rows g_columns g_a g_b g_cells g_right_5 g_down_5]) (As := [.int x3_1, .int x4_1, .int 0]) (rest := []) (q0 := 0) X hK hP hD hS [0, 1] [] [0, 1] rfl rfl rfl rfl rfl (by decide) rfl rfl rfl (KX0_distanceWith q10 _) (cwV 3 hts gX0_bestPutIn_X0_distanceWith rfl rfl rfl hdX0_distanceWith ⟨Nat.le_of_ble_eq_true rfl, Nat.le_of_ble_eq_true rfl⟩) rfl rfl rfl hl rfl (Nat.le_of_ble_eq_true rfl) dX0_bestPutIn_69 (Nat.zero_le _) (Nat.zero_le _) (fun H locs hP hD hS => ?_)
              refine lv_istore (lv' := [(5, .int r_2), (0, .ref ch), (1, .int x1_4), (2, .int x2_3), (3, .int x3_1), (4, .int x4_1)]) hx hb dX0_bestPutIn_72 hl (by decide) rfl (fun ls hl => ?_)
              refine lv_iload hx hb dX0_bestPutIn_74 (lv_at hl 0 rfl) ?_
              refine lv_bipush (v := (-9)) hx hb dX0_bestPutIn_76 (by decide) ?_
              refine lv_icmp_eq (tgt := 101) hx hb dX0_bestPutIn_78 (by decide) (fun c11 => ?_) (fun c11 => ?_)
              · have hf := qob_t hf c11
                refine lv_iinc (v := (x4_1 + 1)) (lv' := [(4, .int (x4_1 + 1)), (5, .int r_2), (0, .ref ch), (1, .int x1_4), (2, .int x2_3), (3, .int x3_1)]) hx hb dX0_bestPutIn_101 hl (k := 5) rfl rfl (by decide) rfl (fun ls hl => ?_)
                refine lv_goto (tgt := 42) hx hb dX0_bestPutIn_104 (by decide) ?_
                exact hL7 x1_4 x2_3 (x4_1 + 1) g_right_5 g_down_5 hf _ _ _ ⟨hP, hD, hS⟩ (lv_sub hl [2, 3, 4, 5, 0] rfl)
              · have hf := qob_f hf c11
                refine lv_iload hx hb dX0_bestPutIn_81 (lv_at hl 0 rfl) ?_
                refine lv_iload_n hx hb dX0_bestPutIn_83 rfl (lv_at hl 3 rfl) ?_
                refine lv_icmp_le (tgt := 101) hx hb dX0_bestPutIn_84 (by decide) (fun c12 => ?_) (fun c12 => ?_)
                · have hf := qob_t hf c12
                  refine lv_iinc (v := (x4_1 + 1)) (lv' := [(4, .int (x4_1 + 1)), (5, .int r_2), (0, .ref ch), (1, .int x1_4), (2, .int x2_3), (3, .int x3_1)]) hx hb dX0_bestPutIn_101 hl (k := 5) rfl rfl (by decide) rfl (fun ls hl => ?_)
                  refine lv_goto (tgt := 42) hx hb dX0_bestPutIn_104 (by decide) ?_
                  exact hL7 x1_4 x2_3 (x4_1 + 1) g_right_5 g_down_5 hf _ _ _ ⟨hP, hD, hS⟩ (lv_sub hl [2, 3, 4, 5, 0] rfl)
                · have hf := qob_f hf c12
                  refine lv_iload hx hb dX0_bestPutIn_87 (lv_at hl 0 rfl) ?_
                  refine lv_istore_n (lv' := [(2, .int r_2), (5, .int r_2), (0, .ref ch), (1, .int x1_4), (3, .int x3_1), (4, .int x4_1)]) hx hb dX0_bestPutIn_89 rfl hl (by decide) rfl (fun ls hl => ?_)
                  refine lv_bipush (v := 10) hx hb dX0_bestPutIn_90 (by decide) ?_
                  refine lv_iload_n hx hb dX0_bestPutIn_92 rfl (lv_at hl 4 rfl) ?_
                  refine ctS_i0 (r := (fX1_told x3_1)) (wc := []) (As := [.int x3_1]) (rest := [.int 10]) X hK hP hD hS [] rfl rfl rfl (KX1_told rfl _) (va_cwS 1 hts gX0_bestPutIn_X1_told rfl rfl rfl hdX1_told ⟨Nat.le_of_ble_eq_true rfl, Nat.le_of_ble_eq_true rfl⟩) rfl hl rfl (Nat.le_of_ble_eq_true rfl) dX0_bestPutIn_93 (Nat.zero_le _) (Nat.zero_le _) (fun H locs hP hS => ?_)
                  refine lv_imul hx hb dX0_bestPutIn_96 ?_
                  refine lv_iload hx hb dX0_bestPutIn_97 (lv_at hl 5 rfl) ?_
                  refine lv_iadd hx hb dX0_bestPutIn_99 ?_
                  refine lv_istore_n (lv' := [(1, .int ((10 * (fX1_told x3_1)) + x4_1)), (2, .int r_2), (5, .int r_2), (0, .ref ch), (3, .int x3_1), (4, .int x4_1)]) hx hb dX0_bestPutIn_100 rfl hl (by decide) rfl (fun ls hl => ?_)
                  refine lv_iinc (v := (x4_1 + 1)) (lv' := [(4, .int (x4_1 + 1)), (1, .int ((10 * (fX1_told x3_1)) + x4_1)), (2, .int r_2), (5, .int r_2), (0, .ref ch), (3, .int x3_1)]) hx hb dX0_bestPutIn_101 hl (k := 5) rfl rfl (by decide) rfl (fun ls hl => ?_)
                  refine lv_goto (tgt := 42) hx hb dX0_bestPutIn_104 (by decide) ?_
                  exact hL7 ((10 * (fX1_told x3_1)) + x4_1) r_2 (x4_1 + 1) g_right_5 g_down_5 hf _ _ _ ⟨hP, hD, hS⟩ (lv_sub hl [4, 1, 2, 5, 0] rfl)
            · have hf := qob_t hf c9
              refine lv_goto (tgt := 101) hx hb dX0_bestPutIn_61 (by decide) ?_
              refine lv_iinc (v := (x4_1 + 1)) (lv' := [(4, .int (x4_1 + 1)), (0, .ref ch), (1, .int x1_4), (2, .int x2_3), (3, .int x3_1)]) hx hb dX0_bestPutIn_101 hl (k := 4) rfl rfl (by decide) rfl (fun ls hl => ?_)
              refine lv_goto (tgt := 42) hx hb dX0_bestPutIn_104 (by decide) ?_
              exact hL7 x1_4 x2_3 (x4_1 + 1) g_right_4 g_down_4 hf _ _ _ ⟨hP, hD, hS⟩ (lv_sub hl [1, 2, 3, 4, 0] rfl)
theorem inwX2_beginWith_X2 : ∀ w ∈ wsX20, w ∈ wsX2_beginWith := fun _ h => List.mem_cons_of_mem _ (List.mem_append_right _ h)
abbrev rmX2_beginWith : Room := { frames := 1, cells := 0, slots := 0, locals := 20 }
theorem hdX2_beginWith : yX2_beginWith.cls = RX2 ∧ yX2_beginWith.cls ≠ "java/lang/invoke/MethodHandle" ∧ yX2_beginWith.cls ≠ "java/lang/invoke/VarHandle" ∧ (parseMethodDescriptor yX2_beginWith.desc).map (fun d => d.parameters.length) = some 1 := by decide +kernel
set_option maxHeartbeats 4000000 in
set_option maxRecDepth 100000 in
theorem KX2_beginWith {l : Launch} {D : va_G} {cy : Nat → ClassId} {hu g q_hu_before q_hu_after : Nat} {hu_before : Nat → Int64} {hu_after : Nat → Int64} {g_rows : Int32} {g_columns : Int32} {g_a : Int32} {g_b : Int32} {g_cells : Int64} {g_right : Int64} {g_down : Int64} {p1 : Int32} {hu_before' : Nat → Int64} (hf : fX2_beginWith hu_before p1 = some hu_before') : CtV l yX2_beginWith wsX2_beginWith rmX2_beginWith D cy [.ref hu, .int p1] ([oX2 hu g q_hu_before q_hu_after, aJ cy q_hu_before 48 hu_before, aJ cy q_hu_after 48 hu_after, oX1 g g_rows g_columns g_a g_b g_cells g_right g_down]) ([oX2 hu g q_hu_before q_hu_after, aJ cy q_hu_before 48 hu_before', aJ cy q_hu_after 48 hu_after, oX1 g g_rows g_columns g_a g_b g_cells g_right g_down]) := by
  refine CtV.of (cc := cX2_beginWith) (maxL := 3) (ret := none) (own := RX2) (by decide) rfl rfl (Nat.le_of_ble_eq_true rfl) ?_
  intro p e s m args below meth c A Q X hQ hK hP hD hS ls hl
  obtain ⟨hx, hb, hml, hown, hts, hr, hlocks, hA, hZ⟩ := id X
  have hl : lv_has ls 3 [(0, .ref hu), (1, .int p1)] := hl
  unfold fX2_beginWith at hf
  have hf := qob_top hf
  refine lv_iconst (v := 0) hx hb dX2_beginWith_0 (by decide) ?_
  refine lv_istore_n (lv' := [(2, .int 0), (0, .ref hu), (1, .int p1)]) hx hb dX2_beginWith_1 rfl hl (by decide) rfl (fun ls hl => ?_)
  refine qjoin1 hf (fun (hu_before_1 : Nat → Int64) => ∀ (H : Heap) (locs : List Loc) (ls : Array Slot), ctW D A s ([oX2 hu g q_hu_before q_hu_after, aJ cy q_hu_before 48 hu_before_1, aJ cy q_hu_after 48 hu_after, oX1 g g_rows g_columns g_a g_b g_cells g_right g_down]) H locs → lv_has ls 3 [] → W p l e rmX2_beginWith s m args below meth c H locs 0 0 Q (F0 m 32 ls [])) ?_ ?_
  · intro hu_before_1 hf H locs ls ⟨hP, hD, hS⟩ hl
    cases qob_ret hf
    exact ct_vret X hQ hK hP hD hS dX2_beginWith_32
  · intro J1 hJ1 hf
    refine qwalk2 (fun (x2_1 : Int32) (hu_before_2 : Nat → Int64) => ∀ (H : Heap) (locs : List Loc) (ls : Array Slot), ctW D A s ([oX2 hu g q_hu_before q_hu_after, aJ cy q_hu_before 48 hu_before_2, aJ cy q_hu_after 48 hu_after, oX1 g g_rows g_columns g_a g_b g_cells g_right g_down]) H locs → lv_has ls 3 [(0, .ref hu), (1, .int p1), (2, .int x2_1)] → W p l e rmX2_beginWith s m args below meth c H locs 0 0 Q (F0 m 2 ls [])) ?_ _ (0 : Int32) hu_before hf _ _ _ ⟨hP, hD, hS⟩ (lv_sub hl [1, 2, 0] rfl)
    intro J2 hL2 x2_1 hu_before_2 hf H locs ls ⟨hP, hD, hS⟩ hl
    refine lv_iload_n hx hb dX2_beginWith_2 rfl (lv_at hl 2 rfl) ?_
    refine lv_bipush (v := 48) hx hb dX2_beginWith_3 (by decide) ?_
    refine lv_icmp_ge (tgt := 32) hx hb dX2_beginWith_5 (by decide) (fun c3 => ?_) (fun c3 => ?_)
    · have hf := qob_t hf c3
      have hf := qob_esc hf
      exact hJ1 hu_before_2 hf _ _ _ ⟨hP, hD, hS⟩ (lv_sub hl [] rfl)
    · have hf := qob_f hf c3
      refine lv_aload_n hx hb dX2_beginWith_8 rfl (lv_at hl 0 rfl) ?_
      refine va_get (D := D) (ci := 2) (v := .ref q_hu_before) (C := RX2) (T := TX2) (N := 3) hx hb hts inwX2_beginWith_X2 hown hK hP 0 rfl rfl 1 (by decide) (hts (.fieldLink RX2 15 "HedgeWays$Hunt" "before" "[J") (List.mem_of_getElem? (i := 1) rfl)) (fun _ h9 => h9) rfl dX2_beginWith_9 ?_
      refine lv_iload_n hx hb dX2_beginWith_12 rfl (lv_at hl 2 rfl) ?_
      refine lv_iload_n hx hb dX2_beginWith_13 rfl (lv_at hl 1 rfl) ?_
      refine lv_if_eq (tgt := 21) hx hb dX2_beginWith_14 (by decide) (fun c4 => ?_) (fun c4 => ?_)
      · have hf := qob_t hf c4
        refine lv_iload_n hx hb dX2_beginWith_21 rfl (lv_at hl 2 rfl) ?_
        refine ctS_l0 (r := (fX1_bit x2_1)) (wc := []) (As := [.int x2_1]) (rest := [.int x2_1, .ref q_hu_before]) X hK hP hD hS [] rfl rfl rfl (KX1_bit rfl _) (va_cwS 1 hts gX2_beginWith_X1_bit rfl rfl rfl hdX1_bit ⟨Nat.le_of_ble_eq_true rfl, Nat.le_of_ble_eq_true rfl⟩) rfl hl rfl (Nat.le_of_ble_eq_true rfl) dX2_beginWith_22 (Nat.zero_le _) (Nat.zero_le _) (fun H locs hP hS => ?_)
        obtain ⟨i5, hf⟩ := qob_gd hf
        refine va_last hx hb hK hP hD hS 1 1 rfl rfl i5 dX2_beginWith_25 (fun H locs hP hD hS => ?_)
        have hP : va_P D vwCl ([oX2 hu g q_hu_before q_hu_after, aJ cy q_hu_before 48 (vp_updL hu_before_2 x2_1.toNatClampNeg (fX1_bit x2_1)), aJ cy q_hu_after 48 hu_after, oX1 g g_rows g_columns g_a g_b g_cells g_right g_down]) H := hP
        have hD : va_D A ([oX2 hu g q_hu_before q_hu_after, aJ cy q_hu_before 48 (vp_updL hu_before_2 x2_1.toNatClampNeg (fX1_bit x2_1)), aJ cy q_hu_after 48 hu_after, oX1 g g_rows g_columns g_a g_b g_cells g_right g_down]) := hD
        refine lv_iinc (v := (x2_1 + 1)) (lv' := [(2, .int (x2_1 + 1)), (0, .ref hu), (1, .int p1)]) hx hb dX2_beginWith_26 hl (k := 2) rfl rfl (by decide) rfl (fun ls hl => ?_)
        refine lv_goto (tgt := 2) hx hb dX2_beginWith_29 (by decide) ?_
        exact hL2 (x2_1 + 1) (vp_updL hu_before_2 x2_1.toNatClampNeg (fX1_bit x2_1)) hf _ _ _ ⟨hP, hD, hS⟩ (lv_sub hl [1, 2, 0] rfl)
      · have hf := qob_f hf c4
        refine lv_lconst (v := 0) hx hb dX2_beginWith_17 (by decide) ?_
        refine lv_goto (tgt := 25) hx hb dX2_beginWith_18 (by decide) ?_
        obtain ⟨i6, hf⟩ := qob_gd hf
        refine va_last hx hb hK hP hD hS 1 1 rfl rfl i6 dX2_beginWith_25 (fun H locs hP hD hS => ?_)
        have hP : va_P D vwCl ([oX2 hu g q_hu_before q_hu_after, aJ cy q_hu_before 48 (vp_updL hu_before_2 x2_1.toNatClampNeg 0), aJ cy q_hu_after 48 hu_after, oX1 g g_rows g_columns g_a g_b g_cells g_right g_down]) H := hP
        have hD : va_D A ([oX2 hu g q_hu_before q_hu_after, aJ cy q_hu_before 48 (vp_updL hu_before_2 x2_1.toNatClampNeg 0), aJ cy q_hu_after 48 hu_after, oX1 g g_rows g_columns g_a g_b g_cells g_right g_down]) := hD
        refine lv_iinc (v := (x2_1 + 1)) (lv' := [(2, .int (x2_1 + 1)), (0, .ref hu), (1, .int p1)]) hx hb dX2_beginWith_26 hl (k := 2) rfl rfl (by decide) rfl (fun ls hl => ?_)
        refine lv_goto (tgt := 2) hx hb dX2_beginWith_29 (by decide) ?_
        exact hL2 (x2_1 + 1) (vp_updL hu_before_2 x2_1.toNatClampNeg 0) hf _ _ _ ⟨hP, hD, hS⟩ (lv_sub hl [1, 2, 0] rfl)
theorem inwX2_lookBackOverHunter_X1 : ∀ w ∈ wsX10, w ∈ wsX2_lookBackOverHunter := fun _ h => List.mem_cons_of_mem _ (List.mem_append_right _ h)
theorem inwX2_lookBackOverHunter_X2 : ∀ w ∈ wsX20, w ∈ wsX2_lookBackOverHunter := fun _ h => List.mem_cons_of_mem _ (List.mem_append_left _ (List.mem_append_right _ h))
abbrev rmX2_lookBackOverHunter : Room := { frames := 1, cells := 0, slots := 0, locals := 22 }
theorem hdX2_lookBackOverHunter : yX2_lookBackOverHunter.cls = RX2 ∧ yX2_lookBackOverHunter.cls ≠ "java/lang/invoke/MethodHandle" ∧ yX2_lookBackOverHunter.cls ≠ "java/lang/invoke/VarHandle" ∧ (parseMethodDescriptor yX2_lookBackOverHunter.desc).map (fun d => d.parameters.length) = some 1 := by decide +kernel
set_option maxHeartbeats 4000000 in
set_option maxRecDepth 100000 in
theorem KX2_lookBackOverHunter {l : Launch} {D : va_G} {cy : Nat → ClassId} {hu g q_hu_before q_hu_after : Nat} {hu_before : Nat → Int64} {hu_after : Nat → Int64} {g_rows : Int32} {g_columns : Int32} {g_a : Int32} {g_b : Int32} {g_cells : Int64} {g_right : Int64} {g_down : Int64} {p1 : Int32} {hu_after' : Nat → Int64} (hf : fX2_lookBackOverHunter hu_before hu_after g_b g_cells g_right g_down p1 = some hu_after') : CtV l yX2_lookBackOverHunter wsX2_lookBackOverHunter rmX2_lookBackOverHunter D cy [.ref hu, .int p1] ([oX2 hu g q_hu_before q_hu_after, aJ cy q_hu_before 48 hu_before, aJ cy q_hu_after 48 hu_after, oX1 g g_rows g_columns g_a g_b g_cells g_right g_down]) ([oX2 hu g q_hu_before q_hu_after, aJ cy q_hu_before 48 hu_before, aJ cy q_hu_after 48 hu_after', oX1 g g_rows g_columns g_a g_b g_cells g_right g_down]) := by
  refine CtV.of (cc := cX2_lookBackOverHunter) (maxL := 3) (ret := none) (own := RX2) (by decide) rfl rfl (Nat.le_of_ble_eq_true rfl) ?_
  intro p e s m args below meth c A Q X hQ hK hP hD hS ls hl
  obtain ⟨hx, hb, hml, hown, hts, hr, hlocks, hA, hZ⟩ := id X
  have hl : lv_has ls 3 [(0, .ref hu), (1, .int p1)] := hl
  unfold fX2_lookBackOverHunter at hf
  have hf := qob_top hf
  refine lv_iconst (v := 0) hx hb dX2_lookBackOverHunter_0 (by decide) ?_
  refine lv_istore_n (lv' := [(2, .int 0), (0, .ref hu), (1, .int p1)]) hx hb dX2_lookBackOverHunter_1 rfl hl (by decide) rfl (fun ls hl => ?_)
  refine qjoin1 hf (fun (hu_after_1 : Nat → Int64) => ∀ (H : Heap) (locs : List Loc) (ls : Array Slot), ctW D A s ([oX2 hu g q_hu_before q_hu_after, aJ cy q_hu_before 48 hu_before, aJ cy q_hu_after 48 hu_after_1, oX1 g g_rows g_columns g_a g_b g_cells g_right g_down]) H locs → lv_has ls 3 [] → W p l e rmX2_lookBackOverHunter s m args below meth c H locs 0 0 Q (F0 m 130 ls [])) ?_ ?_
  · intro hu_after_1 hf H locs ls ⟨hP, hD, hS⟩ hl
    cases qob_ret hf
    exact ct_vret X hQ hK hP hD hS dX2_lookBackOverHunter_130
  · intro J1 hJ1 hf
    refine qwalk2 (fun (x2_1 : Int32) (hu_after_2 : Nat → Int64) => ∀ (H : Heap) (locs : List Loc) (ls : Array Slot), ctW D A s ([oX2 hu g q_hu_before q_hu_after, aJ cy q_hu_before 48 hu_before, aJ cy q_hu_after 48 hu_after_2, oX1 g g_rows g_columns g_a g_b g_cells g_right g_down]) H locs → lv_has ls 3 [(0, .ref hu), (1, .int p1), (2, .int x2_1)] → W p l e rmX2_lookBackOverHunter s m args below meth c H locs 0 0 Q (F0 m 2 ls [])) ?_ _ (0 : Int32) hu_after hf _ _ _ ⟨hP, hD, hS⟩ (lv_sub hl [1, 2, 0] rfl)
    intro J2 hL2 x2_1 hu_after_2 hf H locs ls ⟨hP, hD, hS⟩ hl
    refine lv_iload_n hx hb dX2_lookBackOverHunter_2 rfl (lv_at hl 2 rfl) ?_
    refine lv_bipush (v := 48) hx hb dX2_lookBackOverHunter_3 (by decide) ?_
    refine lv_icmp_ge (tgt := 130) hx hb dX2_lookBackOverHunter_5 (by decide) (fun c3 => ?_) (fun c3 => ?_)
    · have hf := qob_t hf c3
      have hf := qob_esc hf
      exact hJ1 hu_after_2 hf _ _ _ ⟨hP, hD, hS⟩ (lv_sub hl [] rfl)
    · have hf := qob_f hf c3
      refine lv_iload_n hx hb dX2_lookBackOverHunter_8 rfl (lv_at hl 2 rfl) ?_
      refine lv_aload_n hx hb dX2_lookBackOverHunter_9 rfl (lv_at hl 0 rfl) ?_
      refine va_get (D := D) (ci := 2) (v := .ref g) (C := RX2) (T := TX2) (N := 3) hx hb hts inwX2_lookBackOverHunter_X2 hown hK hP 0 rfl rfl 0 (by decide) (hts (.fieldLink RX2 9 "HedgeWays$Hunt" "grid" "LHedgeWays$Grid;") (List.mem_of_getElem? (i := 1) rfl)) (fun _ h9 => h9) rfl dX2_lookBackOverHunter_10 ?_
      refine va_get (D := D) (ci := 1) (v := .int g_b) (C := RX1) (T := TX1) (N := 7) hx hb hts inwX2_lookBackOverHunter_X1 hown hK hP 3 rfl rfl 3 (by decide) (hts (.fieldLink RX2 22 "HedgeWays$Grid" "b" "I") (List.mem_of_getElem? (i := 2) rfl)) (fun _ h9 => h9) rfl dX2_lookBackOverHunter_13 ?_
      refine lv_icmp_ne (tgt := 55) hx hb dX2_lookBackOverHunter_16 (by decide) (fun c4 => ?_) (fun c4 => ?_)
      · have hf := qob_f hf c4
        refine lv_iload_n hx hb dX2_lookBackOverHunter_55 rfl (lv_at hl 1 rfl) ?_
        refine lv_if_eq (tgt := 105) hx hb dX2_lookBackOverHunter_56 (by decide) (fun c5 => ?_) (fun c5 => ?_)
        · have hf := qob_t hf c5
          refine lv_aload_n hx hb dX2_lookBackOverHunter_105 rfl (lv_at hl 0 rfl) ?_
          refine va_get (D := D) (ci := 2) (v := .ref q_hu_after) (C := RX2) (T := TX2) (N := 3) hx hb hts inwX2_lookBackOverHunter_X2 hown hK hP 0 rfl rfl 2 (by decide) (hts (.fieldLink RX2 19 "HedgeWays$Hunt" "after" "[J") (List.mem_of_getElem? (i := 3) rfl)) (fun _ h9 => h9) rfl dX2_lookBackOverHunter_106 ?_
          refine lv_iload_n hx hb dX2_lookBackOverHunter_109 rfl (lv_at hl 2 rfl) ?_
          refine lv_aload_n hx hb dX2_lookBackOverHunter_110 rfl (lv_at hl 0 rfl) ?_
          refine va_get (D := D) (ci := 2) (v := .ref g) (C := RX2) (T := TX2) (N := 3) hx hb hts inwX2_lookBackOverHunter_X2 hown hK hP 0 rfl rfl 0 (by decide) (hts (.fieldLink RX2 9 "HedgeWays$Hunt" "grid" "LHedgeWays$Grid;") (List.mem_of_getElem? (i := 1) rfl)) (fun _ h9 => h9) rfl dX2_lookBackOverHunter_111 ?_
          refine lv_aload_n hx hb dX2_lookBackOverHunter_114 rfl (lv_at hl 0 rfl) ?_
          refine va_get (D := D) (ci := 2) (v := .ref q_hu_before) (C := RX2) (T := TX2) (N := 3) hx hb hts inwX2_lookBackOverHunter_X2 hown hK hP 0 rfl rfl 1 (by decide) (hts (.fieldLink RX2 15 "HedgeWays$Hunt" "before" "[J") (List.mem_of_getElem? (i := 6) rfl)) (fun _ h9 => h9) rfl dX2_lookBackOverHunter_115 ?_
          refine lv_iload_n hx hb dX2_lookBackOverHunter_118 rfl (lv_at hl 2 rfl) ?_
          obtain ⟨i6, hf⟩ := qob_gd hf
          refine va_lald hx hb hK hP 1 1 rfl rfl i6 dX2_lookBackOverHunter_119 ?_
          refine ctV_l0 (r := (fX1_near g_right g_down (hu_before x2_1.toNatClampNeg))) (wc := [oX1 g g_rows g_columns g_a g_b g_cells g_right g_down]) (As := [.long (hu_before x2_1.toNatClampNeg)]) (rest := [.int x2_1, .ref q_hu_after]) (q0 := 3) X hK hP hD hS [3] rfl rfl rfl (KX1_near rfl _) (cwV 1 hts gX2_lookBackOverHunter_X1_near rfl rfl rfl hdX1_near ⟨Nat.le_of_ble_eq_true rfl, Nat.le_of_ble_eq_true rfl⟩) rfl rfl rfl hl rfl (Nat.le_of_ble_eq_true rfl) dX2_lookBackOverHunter_120 (Nat.zero_le _) (Nat.zero_le _) (fun H locs hP hS => ?_)
          obtain ⟨i7, hf⟩ := qob_gd hf
          obtain ⟨hu_after_3, e8⟩ : ∃ z, z = (vp_updL hu_after_2 x2_1.toNatClampNeg (fX1_near g_right g_down (hu_before x2_1.toNatClampNeg))) := ⟨_, rfl⟩
          have hf := qob_bd hf e8
          refine va_last hx hb hK hP hD hS 2 1 rfl rfl i7 dX2_lookBackOverHunter_123 (fun H locs hP hD hS => ?_)
          have hP : va_P D vwCl ([oX2 hu g q_hu_before q_hu_after, aJ cy q_hu_before 48 hu_before, aJ cy q_hu_after 48 hu_after_3, oX1 g g_rows g_columns g_a g_b g_cells g_right g_down]) H := by rw [e8]; exact hP
          have hD : va_D A ([oX2 hu g q_hu_before q_hu_after, aJ cy q_hu_before 48 hu_before, aJ cy q_hu_after 48 hu_after_3, oX1 g g_rows g_columns g_a g_b g_cells g_right g_down]) := by rw [e8]; exact hD
          refine lv_iinc (v := (x2_1 + 1)) (lv' := [(2, .int (x2_1 + 1)), (0, .ref hu), (1, .int p1)]) hx hb dX2_lookBackOverHunter_124 hl (k := 2) rfl rfl (by decide) rfl (fun ls hl => ?_)
          refine lv_goto (tgt := 2) hx hb dX2_lookBackOverHunter_127 (by decide) ?_
          exact hL2 (x2_1 + 1) hu_after_3 hf _ _ _ ⟨hP, hD, hS⟩ (lv_sub hl [1, 2, 0] rfl)
        · have hf := qob_f hf c5
          refine lv_aload_n hx hb dX2_lookBackOverHunter_59 rfl (lv_at hl 0 rfl) ?_
          refine va_get (D := D) (ci := 2) (v := .ref q_hu_after) (C := RX2) (T := TX2) (N := 3) hx hb hts inwX2_lookBackOverHunter_X2 hown hK hP 0 rfl rfl 2 (by decide) (hts (.fieldLink RX2 19 "HedgeWays$Hunt" "after" "[J") (List.mem_of_getElem? (i := 3) rfl)) (fun _ h9 => h9) rfl dX2_lookBackOverHunter_60 ?_
          refine lv_iload_n hx hb dX2_lookBackOverHunter_63 rfl (lv_at hl 2 rfl) ?_
          refine lv_aload_n hx hb dX2_lookBackOverHunter_64 rfl (lv_at hl 0 rfl) ?_
          refine va_get (D := D) (ci := 2) (v := .ref g) (C := RX2) (T := TX2) (N := 3) hx hb hts inwX2_lookBackOverHunter_X2 hown hK hP 0 rfl rfl 0 (by decide) (hts (.fieldLink RX2 9 "HedgeWays$Hunt" "grid" "LHedgeWays$Grid;") (List.mem_of_getElem? (i := 1) rfl)) (fun _ h9 => h9) rfl dX2_lookBackOverHunter_65 ?_
          refine va_get (D := D) (ci := 1) (v := .long g_cells) (C := RX1) (T := TX1) (N := 7) hx hb hts inwX2_lookBackOverHunter_X1 hown hK hP 3 rfl rfl 4 (by decide) (hts (.fieldLink RX2 47 "HedgeWays$Grid" "cells" "J") (List.mem_of_getElem? (i := 4) rfl)) (fun _ h9 => h9) rfl dX2_lookBackOverHunter_68 ?_
          refine lv_aload_n hx hb dX2_lookBackOverHunter_71 rfl (lv_at hl 0 rfl) ?_
          refine va_get (D := D) (ci := 2) (v := .ref g) (C := RX2) (T := TX2) (N := 3) hx hb hts inwX2_lookBackOverHunter_X2 hown hK hP 0 rfl rfl 0 (by decide) (hts (.fieldLink RX2 9 "HedgeWays$Hunt" "grid" "LHedgeWays$Grid;") (List.mem_of_getElem? (i := 1) rfl)) (fun _ h9 => h9) rfl dX2_lookBackOverHunter_72 ?_
          refine lv_aload_n hx hb dX2_lookBackOverHunter_75 rfl (lv_at hl 0 rfl) ?_
          refine va_get (D := D) (ci := 2) (v := .ref g) (C := RX2) (T := TX2) (N := 3) hx hb hts inwX2_lookBackOverHunter_X2 hown hK hP 0 rfl rfl 0 (by decide) (hts (.fieldLink RX2 9 "HedgeWays$Hunt" "grid" "LHedgeWays$Grid;") (List.mem_of_getElem? (i := 1) rfl)) (fun _ h9 => h9) rfl dX2_lookBackOverHunter_76 ?_
          refine va_get (D := D) (ci := 1) (v := .long g_cells) (C := RX1) (T := TX1) (N := 7) hx hb hts inwX2_lookBackOverHunter_X1 hown hK hP 3 rfl rfl 4 (by decide) (hts (.fieldLink RX2 47 "HedgeWays$Grid" "cells" "J") (List.mem_of_getElem? (i := 4) rfl)) (fun _ h9 => h9) rfl dX2_lookBackOverHunter_79 ?_
          refine lv_aload_n hx hb dX2_lookBackOverHunter_82 rfl (lv_at hl 0 rfl) ?_
          refine va_get (D := D) (ci := 2) (v := .ref q_hu_before) (C := RX2) (T := TX2) (N := 3) hx hb hts inwX2_lookBackOverHunter_X2 hown hK hP 0 rfl rfl 1 (by decide) (hts (.fieldLink RX2 15 "HedgeWays$Hunt" "before" "[J") (List.mem_of_getElem? (i := 6) rfl)) (fun _ h9 => h9) rfl dX2_lookBackOverHunter_83 ?_
          refine lv_iload_n hx hb dX2_lookBackOverHunter_86 rfl (lv_at hl 2 rfl) ?_
          obtain ⟨i9, hf⟩ := qob_gd hf
          refine va_lald hx hb hK hP 1 1 rfl rfl i9 dX2_lookBackOverHunter_87 ?_
          refine lv_ldc2 hx hb hown (hts (.constantLong RX2 51 (-1)) (List.mem_of_getElem? (i := 5) rfl)) dX2_lookBackOverHunter_88 ?_
          refine lv_lxor hx hb dX2_lookBackOverHunter_91 ?_
          refine lv_land hx hb dX2_lookBackOverHunter_92 ?_
          refine ctV_l0 (r := (fX1_near g_right g_down (g_cells &&& ((hu_before x2_1.toNatClampNeg) ^^^ (-1))))) (wc := [oX1 g g_rows g_columns g_a g_b g_cells g_right g_down]) (As := [.long (g_cells &&& ((hu_before x2_1.toNatClampNeg) ^^^ (-1)))]) (rest := [.long g_cells, .int x2_1, .ref q_hu_after]) (q0 := 3) X hK hP hD hS [3] rfl rfl rfl (KX1_near rfl _) (cwV 1 hts gX2_lookBackOverHunter_X1_near rfl rfl rfl hdX1_near ⟨Nat.le_of_ble_eq_true rfl, Nat.le_of_ble_eq_true rfl⟩) rfl rfl rfl hl rfl (Nat.le_of_ble_eq_true rfl) dX2_lookBackOverHunter_93 (Nat.zero_le _) (Nat.zero_le _) (fun H locs hP hS => ?_)
          refine lv_ldc2 hx hb hown (hts (.constantLong RX2 51 (-1)) (List.mem_of_getElem? (i := 5) rfl)) dX2_lookBackOverHunter_96 ?_
          refine lv_lxor hx hb dX2_lookBackOverHunter_99 ?_
          refine lv_land hx hb dX2_lookBackOverHunter_100 ?_
          obtain ⟨i10, hf⟩ := qob_gd hf
          obtain ⟨hu_after_4, e11⟩ : ∃ z, z = (vp_updL hu_after_2 x2_1.toNatClampNeg (g_cells &&& ((fX1_near g_right g_down (g_cells &&& ((hu_before x2_1.toNatClampNeg) ^^^ (-1)))) ^^^ (-1)))) := ⟨_, rfl⟩
          have hf := qob_bd hf e11
          refine va_last hx hb hK hP hD hS 2 1 rfl rfl i10 dX2_lookBackOverHunter_101 (fun H locs hP hD hS => ?_)
          have hP : va_P D vwCl ([oX2 hu g q_hu_before q_hu_after, aJ cy q_hu_before 48 hu_before, aJ cy q_hu_after 48 hu_after_4, oX1 g g_rows g_columns g_a g_b g_cells g_right g_down]) H := by rw [e11]; exact hP
          have hD : va_D A ([oX2 hu g q_hu_before q_hu_after, aJ cy q_hu_before 48 hu_before, aJ cy q_hu_after 48 hu_after_4, oX1 g g_rows g_columns g_a g_b g_cells g_right g_down]) := by rw [e11]; exact hD
          refine lv_goto (tgt := 124) hx hb dX2_lookBackOverHunter_102 (by decide) ?_
          refine lv_iinc (v := (x2_1 + 1)) (lv' := [(2, .int (x2_1 + 1)), (0, .ref hu), (1, .int p1)]) hx hb dX2_lookBackOverHunter_124 hl (k := 2) rfl rfl (by decide) rfl (fun ls hl => ?_)
          refine lv_goto (tgt := 2) hx hb dX2_lookBackOverHunter_127 (by decide) ?_
          exact hL2 (x2_1 + 1) hu_after_4 hf _ _ _ ⟨hP, hD, hS⟩ (lv_sub hl [1, 2, 0] rfl)
      · have hf := qob_t hf c4
        refine lv_aload_n hx hb dX2_lookBackOverHunter_19 rfl (lv_at hl 0 rfl) ?_
        refine va_get (D := D) (ci := 2) (v := .ref q_hu_after) (C := RX2) (T := TX2) (N := 3) hx hb hts inwX2_lookBackOverHunter_X2 hown hK hP 0 rfl rfl 2 (by decide) (hts (.fieldLink RX2 19 "HedgeWays$Hunt" "after" "[J") (List.mem_of_getElem? (i := 3) rfl)) (fun _ h9 => h9) rfl dX2_lookBackOverHunter_20 ?_
        refine lv_iload_n hx hb dX2_lookBackOverHunter_23 rfl (lv_at hl 2 rfl) ?_
        refine lv_iload_n hx hb dX2_lookBackOverHunter_24 rfl (lv_at hl 1 rfl) ?_
        refine qjoin1 hf (fun (s_1 : Int64) => ∀ (H : Heap) (locs : List Loc) (ls : Array Slot), ctW D A s ([oX2 hu g q_hu_before q_hu_after, aJ cy q_hu_before 48 hu_before, aJ cy q_hu_after 48 hu_after_2, oX1 g g_rows g_columns g_a g_b g_cells g_right g_down]) H locs → lv_has ls 3 [(0, .ref hu), (1, .int p1), (2, .int x2_1)] → W p l e rmX2_lookBackOverHunter s m args below meth c H locs 0 0 Q (F0 m 51 ls [.long s_1, .int x2_1, .ref q_hu_after])) ?_ ?_
        · intro s_1 hf H locs ls ⟨hP, hD, hS⟩ hl
          obtain ⟨i12, hf⟩ := qob_gd hf
          refine va_last hx hb hK hP hD hS 2 1 rfl rfl i12 dX2_lookBackOverHunter_51 (fun H locs hP hD hS => ?_)
          have hP : va_P D vwCl ([oX2 hu g q_hu_before q_hu_after, aJ cy q_hu_before 48 hu_before, aJ cy q_hu_after 48 (vp_updL hu_after_2 x2_1.toNatClampNeg s_1), oX1 g g_rows g_columns g_a g_b g_cells g_right g_down]) H := hP
          have hD : va_D A ([oX2 hu g q_hu_before q_hu_after, aJ cy q_hu_before 48 hu_before, aJ cy q_hu_after 48 (vp_updL hu_after_2 x2_1.toNatClampNeg s_1), oX1 g g_rows g_columns g_a g_b g_cells g_right g_down]) := hD
          refine lv_goto (tgt := 124) hx hb dX2_lookBackOverHunter_52 (by decide) ?_
          refine lv_iinc (v := (x2_1 + 1)) (lv' := [(2, .int (x2_1 + 1)), (0, .ref hu), (1, .int p1)]) hx hb dX2_lookBackOverHunter_124 hl (k := 2) rfl rfl (by decide) rfl (fun ls hl => ?_)
          refine lv_goto (tgt := 2) hx hb dX2_lookBackOverHunter_127 (by decide) ?_
          exact hL2 (x2_1 + 1) (vp_updL hu_after_2 x2_1.toNatClampNeg s_1) hf _ _ _ ⟨hP, hD, hS⟩ (lv_sub hl [1, 2, 0] rfl)
        · intro J13 hJ13 hf
          refine lv_if_eq (tgt := 47) hx hb dX2_lookBackOverHunter_25 (by decide) (fun c14 => ?_) (fun c14 => ?_)
          · have hf := qob_t hf c14
            refine lv_iload_n hx hb dX2_lookBackOverHunter_47 rfl (lv_at hl 2 rfl) ?_
            refine ctS_l0 (r := (fX1_bit x2_1)) (wc := []) (As := [.int x2_1]) (rest := [.int x2_1, .ref q_hu_after]) X hK hP hD hS [] rfl rfl rfl (KX1_bit rfl _) (va_cwS 1 hts gX2_lookBackOverHunter_X1_bit rfl rfl rfl hdX1_bit ⟨Nat.le_of_ble_eq_true rfl, Nat.le_of_ble_eq_true rfl⟩) rfl hl rfl (Nat.le_of_ble_eq_true rfl) dX2_lookBackOverHunter_48 (Nat.zero_le _) (Nat.zero_le _) (fun H locs hP hS => ?_)
            exact hJ13 (fX1_bit x2_1) hf _ _ _ ⟨hP, hD, hS⟩ hl
          · have hf := qob_f hf c14
            refine lv_aload_n hx hb dX2_lookBackOverHunter_28 rfl (lv_at hl 0 rfl) ?_
            refine va_get (D := D) (ci := 2) (v := .ref g) (C := RX2) (T := TX2) (N := 3) hx hb hts inwX2_lookBackOverHunter_X2 hown hK hP 0 rfl rfl 0 (by decide) (hts (.fieldLink RX2 9 "HedgeWays$Hunt" "grid" "LHedgeWays$Grid;") (List.mem_of_getElem? (i := 1) rfl)) (fun _ h9 => h9) rfl dX2_lookBackOverHunter_29 ?_
            refine va_get (D := D) (ci := 1) (v := .long g_cells) (C := RX1) (T := TX1) (N := 7) hx hb hts inwX2_lookBackOverHunter_X1 hown hK hP 3 rfl rfl 4 (by decide) (hts (.fieldLink RX2 47 "HedgeWays$Grid" "cells" "J") (List.mem_of_getElem? (i := 4) rfl)) (fun _ h9 => h9) rfl dX2_lookBackOverHunter_32 ?_
            refine lv_iload_n hx hb dX2_lookBackOverHunter_35 rfl (lv_at hl 2 rfl) ?_
            refine ctS_l0 (r := (fX1_bit x2_1)) (wc := []) (As := [.int x2_1]) (rest := [.long g_cells, .int x2_1, .ref q_hu_after]) X hK hP hD hS [] rfl rfl rfl (KX1_bit rfl _) (va_cwS 1 hts gX2_lookBackOverHunter_X1_bit rfl rfl rfl hdX1_bit ⟨Nat.le_of_ble_eq_true rfl, Nat.le_of_ble_eq_true rfl⟩) rfl hl rfl (Nat.le_of_ble_eq_true rfl) dX2_lookBackOverHunter_36 (Nat.zero_le _) (Nat.zero_le _) (fun H locs hP hS => ?_)
            refine lv_ldc2 hx hb hown (hts (.constantLong RX2 51 (-1)) (List.mem_of_getElem? (i := 5) rfl)) dX2_lookBackOverHunter_39 ?_
            refine lv_lxor hx hb dX2_lookBackOverHunter_42 ?_
            refine lv_land hx hb dX2_lookBackOverHunter_43 ?_
            refine lv_goto (tgt := 51) hx hb dX2_lookBackOverHunter_44 (by decide) ?_
            exact hJ13 (g_cells &&& ((fX1_bit x2_1) ^^^ (-1))) hf _ _ _ ⟨hP, hD, hS⟩ hl
theorem inwX2_overChoices_X2 : ∀ w ∈ wsX20, w ∈ wsX2_overChoices := fun _ h => List.mem_cons_of_mem _ (List.mem_append_left _ (List.mem_append_right _ h))
abbrev rmX2_overChoices : Room := { frames := 3, cells := 0, slots := 0, locals := 67 }
theorem hdX2_overChoices : yX2_overChoices.cls = RX2 ∧ yX2_overChoices.cls ≠ "java/lang/invoke/MethodHandle" ∧ yX2_overChoices.cls ≠ "java/lang/invoke/VarHandle" ∧ (parseMethodDescriptor yX2_overChoices.desc).map (fun d => d.parameters.length) = some 2 := by decide +kernel
set_option maxHeartbeats 4000000 in
set_option maxRecDepth 100000 in
theorem KX2_overChoices {l : Launch} {D : va_G} {cy : Nat → ClassId} {hu g q_hu_before q_hu_after : Nat} {hu_before : Nat → Int64} {hu_after : Nat → Int64} {g_rows : Int32} {g_columns : Int32} {g_a : Int32} {g_b : Int32} {g_cells : Int64} {g_right : Int64} {g_down : Int64} {p1 : Int32} {p2 : Int32} {r : Int64} (hf : fX2_overChoices hu_after g_cells g_right g_down p1 p2 = some r) : CtL l yX2_overChoices wsX2_overChoices rmX2_overChoices D cy [.ref hu, .int p1, .int p2] ([oX2 hu g q_hu_before q_hu_after, aJ cy q_hu_before 48 hu_before, aJ cy q_hu_after 48 hu_after, oX1 g g_rows g_columns g_a g_b g_cells g_right g_down]) ([oX2 hu g q_hu_before q_hu_after, aJ cy q_hu_before 48 hu_before, aJ cy q_hu_after 48 hu_after, oX1 g g_rows g_columns g_a g_b g_cells g_right g_down]) r := by
  refine CtL.of (cc := cX2_overChoices) (maxL := 7) (ret := some .long) (own := RX2) (by decide) rfl rfl (Nat.le_of_ble_eq_true rfl) ?_
  intro p e s m args below meth c A Q X hQ hK hP hD hS ls hl
  obtain ⟨hx, hb, hml, hown, hts, hr, hlocks, hA, hZ⟩ := id X
  have hl : lv_has ls 7 [(0, .ref hu), (1, .int p1), (2, .int p2)] := hl
  unfold fX2_overChoices at hf
  have hf := qob_top hf
  refine lv_aload_n hx hb dX2_overChoices_0 rfl (lv_at hl 0 rfl) ?_
  refine va_get (D := D) (ci := 2) (v := .ref q_hu_after) (C := RX2) (T := TX2) (N := 3) hx hb hts inwX2_overChoices_X2 hown hK hP 0 rfl rfl 2 (by decide) (hts (.fieldLink RX2 19 "HedgeWays$Hunt" "after" "[J") (List.mem_of_getElem? (i := 1) rfl)) (fun _ h9 => h9) rfl dX2_overChoices_1 ?_
  refine lv_iload_n hx hb dX2_overChoices_4 rfl (lv_at hl 1 rfl) ?_
  obtain ⟨i1, hf⟩ := qob_gd hf
  refine va_lald hx hb hK hP 2 1 rfl rfl i1 dX2_overChoices_5 ?_
  refine lv_lstore_n (lv' := [(3, .long (hu_after p1.toNatClampNeg)), (0, .ref hu), (1, .int p1), (2, .int p2)]) hx hb dX2_overChoices_6 rfl hl (by decide) rfl (fun ls hl => ?_)
  refine lv_iconst (v := 0) hx hb dX2_overChoices_7 (by decide) ?_
  refine lv_istore (lv' := [(5, .int 0), (3, .long (hu_after p1.toNatClampNeg)), (0, .ref hu), (1, .int p1), (2, .int p2)]) hx hb dX2_overChoices_8 hl (by decide) rfl (fun ls hl => ?_)
  refine qjoin1 hf (fun (x3_1 : Int64) => ∀ (H : Heap) (locs : List Loc) (ls : Array Slot), ctW D A s ([oX2 hu g q_hu_before q_hu_after, aJ cy q_hu_before 48 hu_before, aJ cy q_hu_after 48 hu_after, oX1 g g_rows g_columns g_a g_b g_cells g_right g_down]) H locs → lv_has ls 7 [(3, .long x3_1)] → W p l e rmX2_overChoices s m args below meth c H locs 0 0 Q (F0 m 66 ls [])) ?_ ?_
  · intro x3_1 hf H locs ls ⟨hP, hD, hS⟩ hl
    refine lv_lload_n hx hb dX2_overChoices_66 rfl (lv_at hl 0 rfl) ?_
    cases qob_ret hf
    exact ct_lret X hQ hK hP hD hS rfl dX2_overChoices_67
  · intro J2 hJ2 hf
    refine qwalk2 (fun (x3_2 : Int64) (x5_1 : Int32) => ∀ (H : Heap) (locs : List Loc) (ls : Array Slot), ctW D A s ([oX2 hu g q_hu_before q_hu_after, aJ cy q_hu_before 48 hu_before, aJ cy q_hu_after 48 hu_after, oX1 g g_rows g_columns g_a g_b g_cells g_right g_down]) H locs → lv_has ls 7 [(0, .ref hu), (1, .int p1), (2, .int p2), (3, .long x3_2), (5, .int x5_1)] → W p l e rmX2_overChoices s m args below meth c H locs 0 0 Q (F0 m 10 ls [])) ?_ _ (hu_after p1.toNatClampNeg) (0 : Int32) hf _ _ _ ⟨hP, hD, hS⟩ (lv_sub hl [2, 3, 4, 1, 0] rfl)
    intro J3 hL3 x3_2 x5_1 hf H locs ls ⟨hP, hD, hS⟩ hl
    refine lv_iload hx hb dX2_overChoices_10 (lv_at hl 4 rfl) ?_
    refine lv_iconst (v := 4) hx hb dX2_overChoices_12 (by decide) ?_
    refine lv_icmp_ge (tgt := 66) hx hb dX2_overChoices_13 (by decide) (fun c4 => ?_) (fun c4 => ?_)
    · have hf := qob_t hf c4
      have hf := qob_esc hf
      exact hJ2 x3_2 hf _ _ _ ⟨hP, hD, hS⟩ (lv_sub hl [3] rfl)
    · have hf := qob_f hf c4
      refine lv_aload_n hx hb dX2_overChoices_16 rfl (lv_at hl 0 rfl) ?_
      refine va_get (D := D) (ci := 2) (v := .ref g) (C := RX2) (T := TX2) (N := 3) hx hb hts inwX2_overChoices_X2 hown hK hP 0 rfl rfl 0 (by decide) (hts (.fieldLink RX2 9 "HedgeWays$Hunt" "grid" "LHedgeWays$Grid;") (List.mem_of_getElem? (i := 2) rfl)) (fun _ h9 => h9) rfl dX2_overChoices_17 ?_
      refine lv_iload_n hx hb dX2_overChoices_20 rfl (lv_at hl 1 rfl) ?_
      refine lv_iload hx hb dX2_overChoices_21 (lv_at hl 4 rfl) ?_
      refine ctV_i0 (r := (fX1_neighbour g_cells g_right g_down p1 x5_1)) (wc := [oX1 g g_rows g_columns g_a g_b g_cells g_right g_down]) (As := [.int p1, .int x5_1]) (rest := []) (q0 := 3) X hK hP hD hS [3] rfl rfl rfl (KX1_neighbour rfl _) (cwV 2 hts gX2_overChoices_X1_neighbour rfl rfl rfl hdX1_neighbour ⟨Nat.le_of_ble_eq_true rfl, Nat.le_of_ble_eq_true rfl⟩) rfl rfl rfl hl rfl (Nat.le_of_ble_eq_true rfl) dX2_overChoices_23 (Nat.zero_le _) (Nat.zero_le _) (fun H locs hP hS => ?_)
      refine lv_topi (fun x6_1 e5 => ?_)
      have hf := qob_bd hf e5
      refine lv_istore (lv' := [(6, .int x6_1), (0, .ref hu), (1, .int p1), (2, .int p2), (3, .long x3_2), (5, .int x5_1)]) hx hb dX2_overChoices_26 hl (by decide) rfl (fun ls hl => ?_)
      refine lv_iload hx hb dX2_overChoices_28 (lv_at hl 0 rfl) ?_
      refine lv_iconst (v := (-1)) hx hb dX2_overChoices_30 (by decide) ?_
      refine lv_icmp_eq (tgt := 60) hx hb dX2_overChoices_31 (by decide) (fun c6 => ?_) (fun c6 => ?_)
      · have hf := qob_t hf c6
        refine lv_iinc (v := (x5_1 + 1)) (lv' := [(5, .int (x5_1 + 1)), (6, .int x6_1), (0, .ref hu), (1, .int p1), (2, .int p2), (3, .long x3_2)]) hx hb dX2_overChoices_60 hl (k := 5) rfl rfl (by decide) rfl (fun ls hl => ?_)
        refine lv_goto (tgt := 10) hx hb dX2_overChoices_63 (by decide) ?_
        exact hL3 x3_2 (x5_1 + 1) hf _ _ _ ⟨hP, hD, hS⟩ (lv_sub hl [2, 3, 4, 5, 0] rfl)
      · have hf := qob_f hf c6
        refine lv_iload_n hx hb dX2_overChoices_34 rfl (lv_at hl 3 rfl) ?_
        refine lv_if_eq (tgt := 50) hx hb dX2_overChoices_35 (by decide) (fun c7 => ?_) (fun c7 => ?_)
        · have hf := qob_t hf c7
          refine lv_lload_n hx hb dX2_overChoices_50 rfl (lv_at hl 4 rfl) ?_
          refine lv_aload_n hx hb dX2_overChoices_51 rfl (lv_at hl 1 rfl) ?_
          refine va_get (D := D) (ci := 2) (v := .ref q_hu_after) (C := RX2) (T := TX2) (N := 3) hx hb hts inwX2_overChoices_X2 hown hK hP 0 rfl rfl 2 (by decide) (hts (.fieldLink RX2 19 "HedgeWays$Hunt" "after" "[J") (List.mem_of_getElem? (i := 1) rfl)) (fun _ h9 => h9) rfl dX2_overChoices_52 ?_
          refine lv_iload hx hb dX2_overChoices_55 (lv_at hl 0 rfl) ?_
          obtain ⟨i8, hf⟩ := qob_gd hf
          refine va_lald hx hb hK hP 2 1 rfl rfl i8 dX2_overChoices_57 ?_
          refine lv_land hx hb dX2_overChoices_58 ?_
          refine lv_lstore_n (lv' := [(3, .long (x3_2 &&& (hu_after x6_1.toNatClampNeg))), (6, .int x6_1), (0, .ref hu), (1, .int p1), (2, .int p2), (5, .int x5_1)]) hx hb dX2_overChoices_59 rfl hl (by decide) rfl (fun ls hl => ?_)
          refine lv_iinc (v := (x5_1 + 1)) (lv' := [(5, .int (x5_1 + 1)), (3, .long (x3_2 &&& (hu_after x6_1.toNatClampNeg))), (6, .int x6_1), (0, .ref hu), (1, .int p1), (2, .int p2)]) hx hb dX2_overChoices_60 hl (k := 5) rfl rfl (by decide) rfl (fun ls hl => ?_)
          refine lv_goto (tgt := 10) hx hb dX2_overChoices_63 (by decide) ?_
          exact hL3 (x3_2 &&& (hu_after x6_1.toNatClampNeg)) (x5_1 + 1) hf _ _ _ ⟨hP, hD, hS⟩ (lv_sub hl [3, 4, 5, 1, 0] rfl)
        · have hf := qob_f hf c7
          refine lv_lload_n hx hb dX2_overChoices_38 rfl (lv_at hl 4 rfl) ?_
          refine lv_aload_n hx hb dX2_overChoices_39 rfl (lv_at hl 1 rfl) ?_
          refine va_get (D := D) (ci := 2) (v := .ref q_hu_after) (C := RX2) (T := TX2) (N := 3) hx hb hts inwX2_overChoices_X2 hown hK hP 0 rfl rfl 2 (by decide) (hts (.fieldLink RX2 19 "HedgeWays$Hunt" "after" "[J") (List.mem_of_getElem? (i := 1) rfl)) (fun _ h9 => h9) rfl dX2_overChoices_40 ?_
          refine lv_iload hx hb dX2_overChoices_43 (lv_at hl 0 rfl) ?_
          obtain ⟨i9, hf⟩ := qob_gd hf
          refine va_lald hx hb hK hP 2 1 rfl rfl i9 dX2_overChoices_45 ?_
          refine lv_lor hx hb dX2_overChoices_46 ?_
          refine lv_goto (tgt := 59) hx hb dX2_overChoices_47 (by decide) ?_
          refine lv_lstore_n (lv' := [(3, .long (x3_2 ||| (hu_after x6_1.toNatClampNeg))), (6, .int x6_1), (0, .ref hu), (1, .int p1), (2, .int p2), (5, .int x5_1)]) hx hb dX2_overChoices_59 rfl hl (by decide) rfl (fun ls hl => ?_)
          refine lv_iinc (v := (x5_1 + 1)) (lv' := [(5, .int (x5_1 + 1)), (3, .long (x3_2 ||| (hu_after x6_1.toNatClampNeg))), (6, .int x6_1), (0, .ref hu), (1, .int p1), (2, .int p2)]) hx hb dX2_overChoices_60 hl (k := 5) rfl rfl (by decide) rfl (fun ls hl => ?_)
          refine lv_goto (tgt := 10) hx hb dX2_overChoices_63 (by decide) ?_
          exact hL3 (x3_2 ||| (hu_after x6_1.toNatClampNeg)) (x5_1 + 1) hf _ _ _ ⟨hP, hD, hS⟩ (lv_sub hl [3, 4, 5, 1, 0] rfl)
theorem inwX2_lookBackOverRunner_X1 : ∀ w ∈ wsX10, w ∈ wsX2_lookBackOverRunner := fun _ h => List.mem_cons_of_mem _ (List.mem_append_right _ h)
theorem inwX2_lookBackOverRunner_X2 : ∀ w ∈ wsX20, w ∈ wsX2_lookBackOverRunner := fun _ h => List.mem_cons_of_mem _ (List.mem_append_left _ (List.mem_append_right _ h))
abbrev rmX2_lookBackOverRunner : Room := { frames := 4, cells := 0, slots := 0, locals := 93 }
theorem hdX2_lookBackOverRunner : yX2_lookBackOverRunner.cls = RX2 ∧ yX2_lookBackOverRunner.cls ≠ "java/lang/invoke/MethodHandle" ∧ yX2_lookBackOverRunner.cls ≠ "java/lang/invoke/VarHandle" ∧ (parseMethodDescriptor yX2_lookBackOverRunner.desc).map (fun d => d.parameters.length) = some 1 := by decide +kernel
set_option maxHeartbeats 4000000 in
set_option maxRecDepth 100000 in
theorem KX2_lookBackOverRunner {l : Launch} {D : va_G} {cy : Nat → ClassId} {hu g q_hu_before q_hu_after : Nat} {hu_before : Nat → Int64} {hu_after : Nat → Int64} {g_rows : Int32} {g_columns : Int32} {g_a : Int32} {g_b : Int32} {g_cells : Int64} {g_right : Int64} {g_down : Int64} {p1 : Int32} {r : Int32} {hu_before' : Nat → Int64} (hf : fX2_lookBackOverRunner hu_before hu_after g_cells g_right g_down p1 = some (r, hu_before')) : CtI l yX2_lookBackOverRunner wsX2_lookBackOverRunner rmX2_lookBackOverRunner D cy [.ref hu, .int p1] ([oX2 hu g q_hu_before q_hu_after, aJ cy q_hu_before 48 hu_before, aJ cy q_hu_after 48 hu_after, oX1 g g_rows g_columns g_a g_b g_cells g_right g_down]) ([oX2 hu g q_hu_before q_hu_after, aJ cy q_hu_before 48 hu_before', aJ cy q_hu_after 48 hu_after, oX1 g g_rows g_columns g_a g_b g_cells g_right g_down]) r := by
  refine CtI.of (cc := cX2_lookBackOverRunner) (maxL := 6) (ret := some .boolean) (own := RX2) (by decide) rfl rfl (Nat.le_of_ble_eq_true rfl) ?_
  intro p e s m args below meth c A Q X hQ hK hP hD hS ls hl
  obtain ⟨hx, hb, hml, hown, hts, hr, hlocks, hA, hZ⟩ := id X
  have hl : lv_has ls 6 [(0, .ref hu), (1, .int p1)] := hl
  unfold fX2_lookBackOverRunner at hf
  have hf := qob_top hf
  refine lv_iconst (v := 0) hx hb dX2_lookBackOverRunner_0 (by decide) ?_
  refine lv_istore_n (lv' := [(2, .int 0), (0, .ref hu), (1, .int p1)]) hx hb dX2_lookBackOverRunner_1 rfl hl (by decide) rfl (fun ls hl => ?_)
  refine lv_iconst (v := 0) hx hb dX2_lookBackOverRunner_2 (by decide) ?_
  refine lv_istore_n (lv' := [(3, .int 0), (2, .int 0), (0, .ref hu), (1, .int p1)]) hx hb dX2_lookBackOverRunner_3 rfl hl (by decide) rfl (fun ls hl => ?_)
  refine qjoin2 hf (fun (x2_1 : Int32) (hu_before_1 : Nat → Int64) => ∀ (H : Heap) (locs : List Loc) (ls : Array Slot), ctW D A s ([oX2 hu g q_hu_before q_hu_after, aJ cy q_hu_before 48 hu_before_1, aJ cy q_hu_after 48 hu_after, oX1 g g_rows g_columns g_a g_b g_cells g_right g_down]) H locs → lv_has ls 6 [(2, .int x2_1)] → W p l e rmX2_lookBackOverRunner s m args below meth c H locs 0 0 Q (F0 m 95 ls [])) ?_ ?_
  · intro x2_1 hu_before_1 hf H locs ls ⟨hP, hD, hS⟩ hl
    refine lv_iload_n hx hb dX2_lookBackOverRunner_95 rfl (lv_at hl 0 rfl) ?_
    cases qob_ret hf
    exact ct_zret X hQ hK hP hD hS rfl dX2_lookBackOverRunner_96
  · intro J1 hJ1 hf
    refine qwalk3 (fun (x2_2 : Int32) (x3_1 : Int32) (hu_before_2 : Nat → Int64) => ∀ (H : Heap) (locs : List Loc) (ls : Array Slot), ctW D A s ([oX2 hu g q_hu_before q_hu_after, aJ cy q_hu_before 48 hu_before_2, aJ cy q_hu_after 48 hu_after, oX1 g g_rows g_columns g_a g_b g_cells g_right g_down]) H locs → lv_has ls 6 [(0, .ref hu), (1, .int p1), (2, .int x2_2), (3, .int x3_1)] → W p l e rmX2_lookBackOverRunner s m args below meth c H locs 0 0 Q (F0 m 4 ls [])) ?_ _ (0 : Int32) (0 : Int32) hu_before hf _ _ _ ⟨hP, hD, hS⟩ (lv_sub hl [2, 3, 1, 0] rfl)
    intro J2 hL2 x2_2 x3_1 hu_before_2 hf H locs ls ⟨hP, hD, hS⟩ hl
    refine lv_iload_n hx hb dX2_lookBackOverRunner_4 rfl (lv_at hl 3 rfl) ?_
    refine lv_bipush (v := 48) hx hb dX2_lookBackOverRunner_5 (by decide) ?_
    refine lv_icmp_ge (tgt := 95) hx hb dX2_lookBackOverRunner_7 (by decide) (fun c3 => ?_) (fun c3 => ?_)
    · have hf := qob_t hf c3
      have hf := qob_esc hf
      exact hJ1 x2_2 hu_before_2 hf _ _ _ ⟨hP, hD, hS⟩ (lv_sub hl [2] rfl)
    · have hf := qob_f hf c3
      refine lv_aload_n hx hb dX2_lookBackOverRunner_10 rfl (lv_at hl 0 rfl) ?_
      refine va_get (D := D) (ci := 2) (v := .ref g) (C := RX2) (T := TX2) (N := 3) hx hb hts inwX2_lookBackOverRunner_X2 hown hK hP 0 rfl rfl 0 (by decide) (hts (.fieldLink RX2 9 "HedgeWays$Hunt" "grid" "LHedgeWays$Grid;") (List.mem_of_getElem? (i := 1) rfl)) (fun _ h9 => h9) rfl dX2_lookBackOverRunner_11 ?_
      refine va_get (D := D) (ci := 1) (v := .long g_cells) (C := RX1) (T := TX1) (N := 7) hx hb hts inwX2_lookBackOverRunner_X1 hown hK hP 3 rfl rfl 4 (by decide) (hts (.fieldLink RX2 47 "HedgeWays$Grid" "cells" "J") (List.mem_of_getElem? (i := 2) rfl)) (fun _ h9 => h9) rfl dX2_lookBackOverRunner_14 ?_
      refine lv_iload_n hx hb dX2_lookBackOverRunner_17 rfl (lv_at hl 3 rfl) ?_
      refine ctS_i0 (r := (fX1_has g_cells x3_1)) (wc := []) (As := [.long g_cells, .int x3_1]) (rest := []) X hK hP hD hS [] rfl rfl rfl (KX1_has rfl _) (va_cwS 2 hts gX2_lookBackOverRunner_X1_has rfl rfl rfl hdX1_has ⟨Nat.le_of_ble_eq_true rfl, Nat.le_of_ble_eq_true rfl⟩) rfl hl rfl (Nat.le_of_ble_eq_true rfl) dX2_lookBackOverRunner_18 (Nat.zero_le _) (Nat.zero_le _) (fun H locs hP hS => ?_)
      refine lv_if_eq (tgt := 89) hx hb dX2_lookBackOverRunner_21 (by decide) (fun c4 => ?_) (fun c4 => ?_)
      · have hf := qob_t hf c4
        refine lv_iinc (v := (x3_1 + 1)) (lv' := [(3, .int (x3_1 + 1)), (0, .ref hu), (1, .int p1), (2, .int x2_2)]) hx hb dX2_lookBackOverRunner_89 hl (k := 3) rfl rfl (by decide) rfl (fun ls hl => ?_)
        refine lv_goto (tgt := 4) hx hb dX2_lookBackOverRunner_92 (by decide) ?_
        exact hL2 x2_2 (x3_1 + 1) hu_before_2 hf _ _ _ ⟨hP, hD, hS⟩ (lv_sub hl [1, 2, 3, 0] rfl)
      · have hf := qob_f hf c4
        refine lv_aload_n hx hb dX2_lookBackOverRunner_24 rfl (lv_at hl 0 rfl) ?_
        refine lv_iload_n hx hb dX2_lookBackOverRunner_25 rfl (lv_at hl 3 rfl) ?_
        refine lv_iload_n hx hb dX2_lookBackOverRunner_26 rfl (lv_at hl 1 rfl) ?_
        obtain ⟨r_1, q5, hf⟩ := qcall1 hf
        refine ctV_l0 (r := r_1) (wc := [oX2 hu g q_hu_before q_hu_after, aJ cy q_hu_before 48 hu_before_2, aJ cy q_hu_after 48 hu_after, oX1 g g_rows g_columns g_a g_b g_cells g_right g_down]) (As := [.int x3_1, .int p1]) (rest := []) (q0 := 0) X hK hP hD hS [0, 1, 2, 3] rfl rfl rfl (KX2_overChoices q5 _) (cwV 2 hts gX2_lookBackOverRunner_X2_overChoices rfl rfl rfl hdX2_overChoices ⟨Nat.le_of_ble_eq_true rfl, Nat.le_of_ble_eq_true rfl⟩) rfl rfl rfl hl rfl (Nat.le_of_ble_eq_true rfl) dX2_lookBackOverRunner_27 (Nat.zero_le _) (Nat.zero_le _) (fun H locs hP hS => ?_)
        refine lv_lstore (lv' := [(4, .long r_1), (0, .ref hu), (1, .int p1), (2, .int x2_2), (3, .int x3_1)]) hx hb dX2_lookBackOverRunner_30 hl (by decide) rfl (fun ls hl => ?_)
        refine lv_iload_n hx hb dX2_lookBackOverRunner_32 rfl (lv_at hl 2 rfl) ?_
        refine qjoin1 hf (fun (s_1 : Int64) => ∀ (H : Heap) (locs : List Loc) (ls : Array Slot), ctW D A s ([oX2 hu g q_hu_before q_hu_after, aJ cy q_hu_before 48 hu_before_2, aJ cy q_hu_after 48 hu_after, oX1 g g_rows g_columns g_a g_b g_cells g_right g_down]) H locs → lv_has ls 6 [(0, .ref hu), (1, .int p1), (2, .int x2_2), (3, .int x3_1)] → W p l e rmX2_lookBackOverRunner s m args below meth c H locs 0 0 Q (F0 m 57 ls [.long s_1])) ?_ ?_
        · intro s_1 hf H locs ls ⟨hP, hD, hS⟩ hl
          refine lv_lstore (lv' := [(4, .long s_1), (0, .ref hu), (1, .int p1), (2, .int x2_2), (3, .int x3_1)]) hx hb dX2_lookBackOverRunner_57 hl (by decide) rfl (fun ls hl => ?_)
          refine lv_iload_n hx hb dX2_lookBackOverRunner_59 rfl (lv_at hl 3 rfl) ?_
          refine qjoin1 hf (fun (s_2 : Int32) => ∀ (H : Heap) (locs : List Loc) (ls : Array Slot), ctW D A s ([oX2 hu g q_hu_before q_hu_after, aJ cy q_hu_before 48 hu_before_2, aJ cy q_hu_after 48 hu_after, oX1 g g_rows g_columns g_a g_b g_cells g_right g_down]) H locs → lv_has ls 6 [(0, .ref hu), (1, .int p1), (3, .int x3_1), (4, .long s_1)] → W p l e rmX2_lookBackOverRunner s m args below meth c H locs 0 0 Q (F0 m 80 ls [.int s_2])) ?_ ?_
          · intro s_2 hf H locs ls ⟨hP, hD, hS⟩ hl
            refine lv_istore_n (lv' := [(2, .int s_2), (0, .ref hu), (1, .int p1), (3, .int x3_1), (4, .long s_1)]) hx hb dX2_lookBackOverRunner_80 rfl hl (by decide) rfl (fun ls hl => ?_)
            refine lv_aload_n hx hb dX2_lookBackOverRunner_81 rfl (lv_at hl 1 rfl) ?_
            refine va_get (D := D) (ci := 2) (v := .ref q_hu_before) (C := RX2) (T := TX2) (N := 3) hx hb hts inwX2_lookBackOverRunner_X2 hown hK hP 0 rfl rfl 1 (by decide) (hts (.fieldLink RX2 15 "HedgeWays$Hunt" "before" "[J") (List.mem_of_getElem? (i := 4) rfl)) (fun _ h9 => h9) rfl dX2_lookBackOverRunner_82 ?_
            refine lv_iload_n hx hb dX2_lookBackOverRunner_85 rfl (lv_at hl 3 rfl) ?_
            refine lv_lload hx hb dX2_lookBackOverRunner_86 (lv_at hl 4 rfl) ?_
            obtain ⟨i6, hf⟩ := qob_gd hf
            refine va_last hx hb hK hP hD hS 1 1 rfl rfl i6 dX2_lookBackOverRunner_88 (fun H locs hP hD hS => ?_)
            have hP : va_P D vwCl ([oX2 hu g q_hu_before q_hu_after, aJ cy q_hu_before 48 (vp_updL hu_before_2 x3_1.toNatClampNeg s_1), aJ cy q_hu_after 48 hu_after, oX1 g g_rows g_columns g_a g_b g_cells g_right g_down]) H := hP
            have hD : va_D A ([oX2 hu g q_hu_before q_hu_after, aJ cy q_hu_before 48 (vp_updL hu_before_2 x3_1.toNatClampNeg s_1), aJ cy q_hu_after 48 hu_after, oX1 g g_rows g_columns g_a g_b g_cells g_right g_down]) := hD
            refine lv_iinc (v := (x3_1 + 1)) (lv' := [(3, .int (x3_1 + 1)), (2, .int s_2), (0, .ref hu), (1, .int p1), (4, .long s_1)]) hx hb dX2_lookBackOverRunner_89 hl (k := 3) rfl rfl (by decide) rfl (fun ls hl => ?_)
            refine lv_goto (tgt := 4) hx hb dX2_lookBackOverRunner_92 (by decide) ?_
            exact hL2 s_2 (x3_1 + 1) (vp_updL hu_before_2 x3_1.toNatClampNeg s_1) hf _ _ _ ⟨hP, hD, hS⟩ (lv_sub hl [2, 3, 1, 0] rfl)
          · intro J7 hJ7 hf
            refine lv_if_ne (tgt := 75) hx hb dX2_lookBackOverRunner_60 (by decide) (fun c8 => ?_) (fun c8 => ?_)
            · have hf := qob_f hf c8
              refine lv_iconst (v := 1) hx hb dX2_lookBackOverRunner_75 (by decide) ?_
              refine lv_goto (tgt := 80) hx hb dX2_lookBackOverRunner_76 (by decide) ?_
              exact hJ7 1 hf _ _ _ ⟨hP, hD, hS⟩ (lv_sub hl [1, 2, 4, 0] rfl)
            · have hf := qob_t hf c8
              refine lv_lload hx hb dX2_lookBackOverRunner_63 (lv_at hl 0 rfl) ?_
              refine lv_aload_n hx hb dX2_lookBackOverRunner_65 rfl (lv_at hl 1 rfl) ?_
              refine va_get (D := D) (ci := 2) (v := .ref q_hu_before) (C := RX2) (T := TX2) (N := 3) hx hb hts inwX2_lookBackOverRunner_X2 hown hK hP 0 rfl rfl 1 (by decide) (hts (.fieldLink RX2 15 "HedgeWays$Hunt" "before" "[J") (List.mem_of_getElem? (i := 4) rfl)) (fun _ h9 => h9) rfl dX2_lookBackOverRunner_66 ?_
              refine lv_iload_n hx hb dX2_lookBackOverRunner_69 rfl (lv_at hl 4 rfl) ?_
              obtain ⟨i9, hf⟩ := qob_gd hf
              refine va_lald hx hb hK hP 1 1 rfl rfl i9 dX2_lookBackOverRunner_70 ?_
              refine W.lcmp hx hb dX2_lookBackOverRunner_71 ?_
              refine lv_if_eq (tgt := 79) hx hb dX2_lookBackOverRunner_72 (by decide) (fun c10 => ?_) (fun c10 => ?_)
              · have hf := qob_t hf c10
                refine lv_iconst (v := 0) hx hb dX2_lookBackOverRunner_79 (by decide) ?_
                exact hJ7 0 hf _ _ _ ⟨hP, hD, hS⟩ (lv_sub hl [1, 2, 4, 0] rfl)
              · have hf := qob_f hf c10
                refine lv_iconst (v := 1) hx hb dX2_lookBackOverRunner_75 (by decide) ?_
                refine lv_goto (tgt := 80) hx hb dX2_lookBackOverRunner_76 (by decide) ?_
                exact hJ7 1 hf _ _ _ ⟨hP, hD, hS⟩ (lv_sub hl [1, 2, 4, 0] rfl)
        · intro J11 hJ11 hf
          refine lv_if_eq (tgt := 50) hx hb dX2_lookBackOverRunner_33 (by decide) (fun c12 => ?_) (fun c12 => ?_)
          · have hf := qob_t hf c12
            refine lv_lload hx hb dX2_lookBackOverRunner_50 (lv_at hl 0 rfl) ?_
            refine lv_iload_n hx hb dX2_lookBackOverRunner_52 rfl (lv_at hl 4 rfl) ?_
            refine ctS_l0 (r := (fX1_bit x3_1)) (wc := []) (As := [.int x3_1]) (rest := [.long r_1]) X hK hP hD hS [] rfl rfl rfl (KX1_bit rfl _) (va_cwS 1 hts gX2_lookBackOverRunner_X1_bit rfl rfl rfl hdX1_bit ⟨Nat.le_of_ble_eq_true rfl, Nat.le_of_ble_eq_true rfl⟩) rfl hl rfl (Nat.le_of_ble_eq_true rfl) dX2_lookBackOverRunner_53 (Nat.zero_le _) (Nat.zero_le _) (fun H locs hP hS => ?_)
            refine lv_lor hx hb dX2_lookBackOverRunner_56 ?_
            exact hJ11 (r_1 ||| (fX1_bit x3_1)) hf _ _ _ ⟨hP, hD, hS⟩ (lv_sub hl [1, 2, 3, 4] rfl)
          · have hf := qob_f hf c12
            refine lv_lload hx hb dX2_lookBackOverRunner_36 (lv_at hl 0 rfl) ?_
            refine lv_iload_n hx hb dX2_lookBackOverRunner_38 rfl (lv_at hl 4 rfl) ?_
            refine ctS_l0 (r := (fX1_bit x3_1)) (wc := []) (As := [.int x3_1]) (rest := [.long r_1]) X hK hP hD hS [] rfl rfl rfl (KX1_bit rfl _) (va_cwS 1 hts gX2_lookBackOverRunner_X1_bit rfl rfl rfl hdX1_bit ⟨Nat.le_of_ble_eq_true rfl, Nat.le_of_ble_eq_true rfl⟩) rfl hl rfl (Nat.le_of_ble_eq_true rfl) dX2_lookBackOverRunner_39 (Nat.zero_le _) (Nat.zero_le _) (fun H locs hP hS => ?_)
            refine lv_ldc2 hx hb hown (hts (.constantLong RX2 51 (-1)) (List.mem_of_getElem? (i := 3) rfl)) dX2_lookBackOverRunner_42 ?_
            refine lv_lxor hx hb dX2_lookBackOverRunner_45 ?_
            refine lv_land hx hb dX2_lookBackOverRunner_46 ?_
            refine lv_goto (tgt := 57) hx hb dX2_lookBackOverRunner_47 (by decide) ?_
            exact hJ11 (r_1 &&& ((fX1_bit x3_1) ^^^ (-1))) hf _ _ _ ⟨hP, hD, hS⟩ (lv_sub hl [1, 2, 3, 4] rfl)
theorem inwX2_turnsTillWon_X1 : ∀ w ∈ wsX10, w ∈ wsX2_turnsTillWon := fun _ h => List.mem_cons_of_mem _ (List.mem_append_right _ h)
theorem inwX2_turnsTillWon_X2 : ∀ w ∈ wsX20, w ∈ wsX2_turnsTillWon := fun _ h => List.mem_cons_of_mem _ (List.mem_append_left _ (List.mem_append_right _ h))
abbrev rmX2_turnsTillWon : Room := { frames := 5, cells := 0, slots := 0, locals := 118 }
theorem hdX2_turnsTillWon : yX2_turnsTillWon.cls = RX2 ∧ yX2_turnsTillWon.cls ≠ "java/lang/invoke/MethodHandle" ∧ yX2_turnsTillWon.cls ≠ "java/lang/invoke/VarHandle" ∧ (parseMethodDescriptor yX2_turnsTillWon.desc).map (fun d => d.parameters.length) = some 3 := by decide +kernel
set_option maxHeartbeats 4000000 in
set_option maxRecDepth 100000 in
theorem KX2_turnsTillWon {l : Launch} {D : va_G} {cy : Nat → ClassId} {hu g q_hu_before q_hu_after : Nat} {hu_before : Nat → Int64} {hu_after : Nat → Int64} {g_rows : Int32} {g_columns : Int32} {g_a : Int32} {g_b : Int32} {g_cells : Int64} {g_right : Int64} {g_down : Int64} {p1 : Int32} {p2 : Int32} {p3 : Int32} {r : Int32} {hu_before' : Nat → Int64} {hu_after' : Nat → Int64} (hf : fX2_turnsTillWon hu_before hu_after g_b g_cells g_right g_down p1 p2 p3 = some (r, hu_before', hu_after')) : CtI l yX2_turnsTillWon wsX2_turnsTillWon rmX2_turnsTillWon D cy [.ref hu, .int p1, .int p2, .int p3] ([oX2 hu g q_hu_before q_hu_after, aJ cy q_hu_before 48 hu_before, aJ cy q_hu_after 48 hu_after, oX1 g g_rows g_columns g_a g_b g_cells g_right g_down]) ([oX2 hu g q_hu_before q_hu_after, aJ cy q_hu_before 48 hu_before', aJ cy q_hu_after 48 hu_after', oX1 g g_rows g_columns g_a g_b g_cells g_right g_down]) r := by
  refine CtI.of (cc := cX2_turnsTillWon) (maxL := 6) (ret := some .int) (own := RX2) (by decide) rfl rfl (Nat.le_of_ble_eq_true rfl) ?_
  intro p e s m args below meth c A Q X hQ hK hP hD hS ls hl
  obtain ⟨hx, hb, hml, hown, hts, hr, hlocks, hA, hZ⟩ := id X
  have hl : lv_has ls 6 [(0, .ref hu), (1, .int p1), (2, .int p2), (3, .int p3)] := hl
  unfold fX2_turnsTillWon at hf
  have hf := qob_top hf
  refine lv_iload_n hx hb dX2_turnsTillWon_0 rfl (lv_at hl 1 rfl) ?_
  refine lv_aload_n hx hb dX2_turnsTillWon_1 rfl (lv_at hl 0 rfl) ?_
  refine va_get (D := D) (ci := 2) (v := .ref g) (C := RX2) (T := TX2) (N := 3) hx hb hts inwX2_turnsTillWon_X2 hown hK hP 0 rfl rfl 0 (by decide) (hts (.fieldLink RX2 9 "HedgeWays$Hunt" "grid" "LHedgeWays$Grid;") (List.mem_of_getElem? (i := 1) rfl)) (fun _ h9 => h9) rfl dX2_turnsTillWon_2 ?_
  refine va_get (D := D) (ci := 1) (v := .int g_b) (C := RX1) (T := TX1) (N := 7) hx hb hts inwX2_turnsTillWon_X1 hown hK hP 3 rfl rfl 3 (by decide) (hts (.fieldLink RX2 22 "HedgeWays$Grid" "b" "I") (List.mem_of_getElem? (i := 2) rfl)) (fun _ h9 => h9) rfl dX2_turnsTillWon_5 ?_
  refine lv_icmp_ne (tgt := 22) hx hb dX2_turnsTillWon_8 (by decide) (fun c1 => ?_) (fun c1 => ?_)
  · have hf := qob_f hf c1
    refine lv_iload_n hx hb dX2_turnsTillWon_22 rfl (lv_at hl 1 rfl) ?_
    refine lv_iload_n hx hb dX2_turnsTillWon_23 rfl (lv_at hl 2 rfl) ?_
    refine qjoinE0 hf (∀ (H : Heap) (locs : List Loc) (ls : Array Slot), ctW D A s ([oX2 hu g q_hu_before q_hu_after, aJ cy q_hu_before 48 hu_before, aJ cy q_hu_after 48 hu_after, oX1 g g_rows g_columns g_a g_b g_cells g_right g_down]) H locs → lv_has ls 6 [(3, .int p3)] → W p l e rmX2_turnsTillWon s m args below meth c H locs 0 0 Q (F0 m 37 ls [])) ?_ ?_
    · intro  hf H locs ls ⟨hP, hD, hS⟩ hl
      refine lv_iload_n hx hb dX2_turnsTillWon_37 rfl (lv_at hl 0 rfl) ?_
      refine lv_if_eq (tgt := 46) hx hb dX2_turnsTillWon_38 (by decide) (fun c2 => ?_) (fun c2 => ?_)
      · have hf := qob_t hf c2
        refine lv_iconst (v := 0) hx hb dX2_turnsTillWon_46 (by decide) ?_
        cases qob_ret hf
        exact ct_iret X hQ hK hP hD hS rfl dX2_turnsTillWon_47
      · have hf := qob_f hf c2
        refine lv_bipush (v := (-9)) hx hb dX2_turnsTillWon_41 (by decide) ?_
        refine lv_goto (tgt := 47) hx hb dX2_turnsTillWon_43 (by decide) ?_
        cases qob_ret hf
        exact ct_iret X hQ hK hP hD hS rfl dX2_turnsTillWon_47
    · intro J3 hJ3 hf
      refine lv_icmp_eq (tgt := 37) hx hb dX2_turnsTillWon_24 (by decide) (fun c4 => ?_) (fun c4 => ?_)
      · have hf := qob_t hf c4
        exact hJ3 hf _ _ _ ⟨hP, hD, hS⟩ (lv_sub hl [3] rfl)
      · have hf := qob_f hf c4
        refine lv_iload_n hx hb dX2_turnsTillWon_27 rfl (lv_at hl 1 rfl) ?_
        refine lv_if_lt (tgt := 37) hx hb dX2_turnsTillWon_28 (by decide) (fun c5 => ?_) (fun c5 => ?_)
        · have hf := qob_t hf c5
          exact hJ3 hf _ _ _ ⟨hP, hD, hS⟩ (lv_sub hl [3] rfl)
        · have hf := qob_f hf c5
          refine lv_iload_n hx hb dX2_turnsTillWon_31 rfl (lv_at hl 1 rfl) ?_
          refine lv_bipush (v := 48) hx hb dX2_turnsTillWon_32 (by decide) ?_
          refine lv_icmp_lt (tgt := 48) hx hb dX2_turnsTillWon_34 (by decide) (fun c6 => ?_) (fun c6 => ?_)
          · have hf := qob_t hf c6
            refine lv_aload_n hx hb dX2_turnsTillWon_48 rfl (lv_at hl 0 rfl) ?_
            refine lv_iload_n hx hb dX2_turnsTillWon_49 rfl (lv_at hl 3 rfl) ?_
            obtain ⟨hu_before_1, q7, hf⟩ := qcall1 hf
            refine ctV_v (wc := [oX2 hu g q_hu_before q_hu_after, aJ cy q_hu_before 48 hu_before, aJ cy q_hu_after 48 hu_after, oX1 g g_rows g_columns g_a g_b g_cells g_right g_down]) (w1 := [oX2 hu g q_hu_before q_hu_after, aJ cy q_hu_before 48 hu_before_1, aJ cy q_hu_after 48 hu_after, oX1 g g_rows g_columns g_a g_b g_cells g_right g_down]) (wr := []) (wn := [oX2 hu g q_hu_before q_hu_after, aJ cy q_hu_before 48 hu_before_1, aJ cy q_hu_after 48 hu_after, oX1 g g_rows g_columns g_a g_b g_cells g_right g_down]) (As := [.int p3]) (rest := []) (q0 := 0) X hK hP hD hS [0, 1, 2, 3] [] [0, 1, 2, 3] rfl rfl rfl rfl rfl (by decide) rfl rfl rfl (KX2_beginWith q7 _) (cwV 1 hts gX2_turnsTillWon_X2_beginWith rfl rfl rfl hdX2_beginWith ⟨Nat.le_of_ble_eq_true rfl, Nat.le_of_ble_eq_true rfl⟩) rfl rfl rfl hl rfl (Nat.le_of_ble_eq_true rfl) dX2_turnsTillWon_50 (Nat.zero_le _) (Nat.zero_le _) (fun H locs hP hD hS => ?_)
            refine lv_iconst (v := 1) hx hb dX2_turnsTillWon_53 (by decide) ?_
            refine lv_istore (lv' := [(4, .int 1), (0, .ref hu), (1, .int p1), (2, .int p2), (3, .int p3)]) hx hb dX2_turnsTillWon_54 hl (by decide) rfl (fun ls hl => ?_)
            refine qjoinE2 hf (fun (hu_before_2 : Nat → Int64) (hu_after_1 : Nat → Int64) => ∀ (H : Heap) (locs : List Loc) (ls : Array Slot), ctW D A s ([oX2 hu g q_hu_before q_hu_after, aJ cy q_hu_before 48 hu_before_2, aJ cy q_hu_after 48 hu_after_1, oX1 g g_rows g_columns g_a g_b g_cells g_right g_down]) H locs → lv_has ls 6 [] → W p l e rmX2_turnsTillWon s m args below meth c H locs 0 0 Q (F0 m 106 ls [])) ?_ ?_
            · intro hu_before_2 hu_after_1 hf H locs ls ⟨hP, hD, hS⟩ hl
              refine lv_bipush (v := (-9)) hx hb dX2_turnsTillWon_106 (by decide) ?_
              have hf := qob_esc hf
              cases qob_ret hf
              exact ct_iret X hQ hK hP hD hS rfl dX2_turnsTillWon_108
            · intro J8 hJ8 hf
              refine qwalk3 (fun (x4_1 : Int32) (hu_before_3 : Nat → Int64) (hu_after_2 : Nat → Int64) => ∀ (H : Heap) (locs : List Loc) (ls : Array Slot), ctW D A s ([oX2 hu g q_hu_before q_hu_after, aJ cy q_hu_before 48 hu_before_3, aJ cy q_hu_after 48 hu_after_2, oX1 g g_rows g_columns g_a g_b g_cells g_right g_down]) H locs → lv_has ls 6 [(0, .ref hu), (1, .int p1), (2, .int p2), (3, .int p3), (4, .int x4_1)] → W p l e rmX2_turnsTillWon s m args below meth c H locs 0 0 Q (F0 m 56 ls [])) ?_ _ (1 : Int32) hu_before_1 hu_after hf _ _ _ ⟨hP, hD, hS⟩ (lv_sub hl [1, 2, 3, 4, 0] rfl)
              intro J9 hL9 x4_1 hu_before_3 hu_after_2 hf H locs ls ⟨hP, hD, hS⟩ hl
              refine lv_iload hx hb dX2_turnsTillWon_56 (lv_at hl 4 rfl) ?_
              refine lv_sipush (v := 1296) hx hb dX2_turnsTillWon_58 (by decide) ?_
              refine lv_icmp_gt (tgt := 106) hx hb dX2_turnsTillWon_61 (by decide) (fun c10 => ?_) (fun c10 => ?_)
              · have hf := qob_t hf c10
                have hf := qob_esc hf
                exact hJ8 hu_before_3 hu_after_2 hf _ _ _ ⟨hP, hD, hS⟩ (lv_sub hl [] rfl)
              · have hf := qob_f hf c10
                refine lv_aload_n hx hb dX2_turnsTillWon_64 rfl (lv_at hl 0 rfl) ?_
                refine lv_iload_n hx hb dX2_turnsTillWon_65 rfl (lv_at hl 3 rfl) ?_
                obtain ⟨hu_after_3, q11, hf⟩ := qcall1 hf
                refine ctV_v (wc := [oX2 hu g q_hu_before q_hu_after, aJ cy q_hu_before 48 hu_before_3, aJ cy q_hu_after 48 hu_after_2, oX1 g g_rows g_columns g_a g_b g_cells g_right g_down]) (w1 := [oX2 hu g q_hu_before q_hu_after, aJ cy q_hu_before 48 hu_before_3, aJ cy q_hu_after 48 hu_after_3, oX1 g g_rows g_columns g_a g_b g_cells g_right g_down]) (wr := []) (wn := [oX2 hu g q_hu_before q_hu_after, aJ cy q_hu_before 48 hu_before_3, aJ cy q_hu_after 48 hu_after_3, oX1 g g_rows g_columns g_a g_b g_cells g_right g_down]) (As := [.int p3]) (rest := []) (q0 := 0) X hK hP hD hS [0, 1, 2, 3] [] [0, 1, 2, 3] rfl rfl rfl rfl rfl (by decide) rfl rfl rfl (KX2_lookBackOverHunter q11 _) (cwV 1 hts gX2_turnsTillWon_X2_lookBackOverHunter rfl rfl rfl hdX2_lookBackOverHunter ⟨Nat.le_of_ble_eq_true rfl, Nat.le_of_ble_eq_true rfl⟩) rfl rfl rfl hl rfl (Nat.le_of_ble_eq_true rfl) dX2_turnsTillWon_66 (Nat.zero_le _) (Nat.zero_le _) (fun H locs hP hD hS => ?_)
                refine lv_aload_n hx hb dX2_turnsTillWon_69 rfl (lv_at hl 0 rfl) ?_
                refine lv_iload_n hx hb dX2_turnsTillWon_70 rfl (lv_at hl 3 rfl) ?_
                obtain ⟨r_1, hu_before_4, q12, hf⟩ := qcall2 hf
                refine ctV_i (r := r_1) (wc := [oX2 hu g q_hu_before q_hu_after, aJ cy q_hu_before 48 hu_before_3, aJ cy q_hu_after 48 hu_after_3, oX1 g g_rows g_columns g_a g_b g_cells g_right g_down]) (w1 := [oX2 hu g q_hu_before q_hu_after, aJ cy q_hu_before 48 hu_before_4, aJ cy q_hu_after 48 hu_after_3, oX1 g g_rows g_columns g_a g_b g_cells g_right g_down]) (wr := []) (wn := [oX2 hu g q_hu_before q_hu_after, aJ cy q_hu_before 48 hu_before_4, aJ cy q_hu_after 48 hu_after_3, oX1 g g_rows g_columns g_a g_b g_cells g_right g_down]) (As := [.int p3]) (rest := []) (q0 := 0) X hK hP hD hS [0, 1, 2, 3] [] [0, 1, 2, 3] rfl rfl rfl rfl rfl (by decide) rfl rfl rfl (KX2_lookBackOverRunner q12 _) (cwV 1 hts gX2_turnsTillWon_X2_lookBackOverRunner rfl rfl rfl hdX2_lookBackOverRunner ⟨Nat.le_of_ble_eq_true rfl, Nat.le_of_ble_eq_true rfl⟩) rfl rfl rfl hl rfl (Nat.le_of_ble_eq_true rfl) dX2_turnsTillWon_71 (Nat.zero_le _) (Nat.zero_le _) (fun H locs hP hD hS => ?_)
                refine lv_istore (lv' := [(5, .int r_1), (0, .ref hu), (1, .int p1), (2, .int p2), (3, .int p3), (4, .int x4_1)]) hx hb dX2_turnsTillWon_74 hl (by decide) rfl (fun ls hl => ?_)
                refine lv_aload_n hx hb dX2_turnsTillWon_76 rfl (lv_at hl 1 rfl) ?_
                refine va_get (D := D) (ci := 2) (v := .ref q_hu_before) (C := RX2) (T := TX2) (N := 3) hx hb hts inwX2_turnsTillWon_X2 hown hK hP 0 rfl rfl 1 (by decide) (hts (.fieldLink RX2 15 "HedgeWays$Hunt" "before" "[J") (List.mem_of_getElem? (i := 3) rfl)) (fun _ h9 => h9) rfl dX2_turnsTillWon_77 ?_
                refine lv_iload_n hx hb dX2_turnsTillWon_80 rfl (lv_at hl 2 rfl) ?_
                obtain ⟨i13, hf⟩ := qob_gd hf
                refine va_lald hx hb hK hP 1 1 rfl rfl i13 dX2_turnsTillWon_81 ?_
                refine lv_iload_n hx hb dX2_turnsTillWon_82 rfl (lv_at hl 3 rfl) ?_
                refine ctS_i0 (r := (fX1_has (hu_before_4 p1.toNatClampNeg) p2)) (wc := []) (As := [.long (hu_before_4 p1.toNatClampNeg), .int p2]) (rest := []) X hK hP hD hS [] rfl rfl rfl (KX1_has rfl _) (va_cwS 2 hts gX2_turnsTillWon_X1_has rfl rfl rfl hdX1_has ⟨Nat.le_of_ble_eq_true rfl, Nat.le_of_ble_eq_true rfl⟩) rfl hl rfl (Nat.le_of_ble_eq_true rfl) dX2_turnsTillWon_83 (Nat.zero_le _) (Nat.zero_le _) (fun H locs hP hS => ?_)
                refine lv_if_eq (tgt := 92) hx hb dX2_turnsTillWon_86 (by decide) (fun c14 => ?_) (fun c14 => ?_)
                · have hf := qob_t hf c14
                  refine lv_iload hx hb dX2_turnsTillWon_92 (lv_at hl 0 rfl) ?_
                  refine lv_if_ne (tgt := 100) hx hb dX2_turnsTillWon_94 (by decide) (fun c15 => ?_) (fun c15 => ?_)
                  · have hf := qob_f hf c15
                    refine lv_iinc (v := (x4_1 + 1)) (lv' := [(4, .int (x4_1 + 1)), (5, .int r_1), (0, .ref hu), (1, .int p1), (2, .int p2), (3, .int p3)]) hx hb dX2_turnsTillWon_100 hl (k := 5) rfl rfl (by decide) rfl (fun ls hl => ?_)
                    refine lv_goto (tgt := 56) hx hb dX2_turnsTillWon_103 (by decide) ?_
                    exact hL9 (x4_1 + 1) hu_before_4 hu_after_3 hf _ _ _ ⟨hP, hD, hS⟩ (lv_sub hl [2, 3, 4, 5, 0] rfl)
                  · have hf := qob_t hf c15
                    refine lv_bipush (v := (-9)) hx hb dX2_turnsTillWon_97 (by decide) ?_
                    have hf := qob_esc hf
                    have hf := qob_esc hf
                    have hf := qob_esc hf
                    cases qob_ret hf
                    exact ct_iret X hQ hK hP hD hS rfl dX2_turnsTillWon_99
                · have hf := qob_f hf c14
                  refine lv_iload hx hb dX2_turnsTillWon_89 (lv_at hl 5 rfl) ?_
                  have hf := qob_esc hf
                  have hf := qob_esc hf
                  have hf := qob_esc hf
                  cases qob_ret hf
                  exact ct_iret X hQ hK hP hD hS rfl dX2_turnsTillWon_91
          · have hf := qob_f hf c6
            exact hJ3 hf _ _ _ ⟨hP, hD, hS⟩ (lv_sub hl [3] rfl)
  · have hf := qob_t hf c1
    refine lv_iload_n hx hb dX2_turnsTillWon_11 rfl (lv_at hl 3 rfl) ?_
    refine lv_if_eq (tgt := 19) hx hb dX2_turnsTillWon_12 (by decide) (fun c16 => ?_) (fun c16 => ?_)
    · have hf := qob_t hf c16
      refine lv_bipush (v := (-9)) hx hb dX2_turnsTillWon_19 (by decide) ?_
      cases qob_ret hf
      exact ct_iret X hQ hK hP hD hS rfl dX2_turnsTillWon_21
    · have hf := qob_f hf c16
      refine lv_iconst (v := 0) hx hb dX2_turnsTillWon_15 (by decide) ?_
      refine lv_goto (tgt := 21) hx hb dX2_turnsTillWon_16 (by decide) ?_
      cases qob_ret hf
      exact ct_iret X hQ hK hP hD hS rfl dX2_turnsTillWon_21
theorem inwX3_draw_X3 : ∀ w ∈ wsX30, w ∈ wsX3_draw := fun _ h => List.mem_cons_of_mem _ (List.mem_append_right _ h)
abbrev rmX3_draw : Room := { frames := 0, cells := 0, slots := 0, locals := 0 }
theorem hdX3_draw : yX3_draw.cls = RX3 ∧ yX3_draw.cls ≠ "java/lang/invoke/MethodHandle" ∧ yX3_draw.cls ≠ "java/lang/invoke/VarHandle" ∧ (parseMethodDescriptor yX3_draw.desc).map (fun d => d.parameters.length) = some 1 := by decide +kernel
set_option maxHeartbeats 4000000 in
set_option maxRecDepth 100000 in
theorem KX3_draw {l : Launch} {D : va_G} {cy : Nat → ClassId} {mk g q_mk_hedges q_mk_cameFrom : Nat} {mk_x : Int64} {mk_hedges : Nat → Int32} {mk_cameFrom : Nat → Int32} {g_rows : Int32} {g_columns : Int32} {g_a : Int32} {g_b : Int32} {g_cells : Int64} {g_right : Int64} {g_down : Int64} {p1 : Int32} {r : Int32} {mk_x' : Int64} (hf : fX3_draw mk_x p1 = some (r, mk_x')) : CtI l yX3_draw wsX3_draw rmX3_draw D cy [.ref mk, .int p1] ([oX3 mk g q_mk_hedges q_mk_cameFrom mk_x, aI cy q_mk_hedges 60 mk_hedges, aI cy q_mk_cameFrom 48 mk_cameFrom, oX1 g g_rows g_columns g_a g_b g_cells g_right g_down]) ([oX3 mk g q_mk_hedges q_mk_cameFrom mk_x', aI cy q_mk_hedges 60 mk_hedges, aI cy q_mk_cameFrom 48 mk_cameFrom, oX1 g g_rows g_columns g_a g_b g_cells g_right g_down]) r := by
  refine CtI.of (cc := cX3_draw) (maxL := 2) (ret := some .int) (own := RX3) (by decide) rfl rfl (Nat.le_of_ble_eq_true rfl) ?_
  intro p e s m args below meth c A Q X hQ hK hP hD hS ls hl
  obtain ⟨hx, hb, hml, hown, hts, hr, hlocks, hA, hZ⟩ := id X
  have hl : lv_has ls 2 [(0, .ref mk), (1, .int p1)] := hl
  unfold fX3_draw at hf
  have hf := qob_top hf
  refine lv_aload_n hx hb dX3_draw_0 rfl (lv_at hl 0 rfl) ?_
  refine lv_aload_n hx hb dX3_draw_1 rfl (lv_at hl 0 rfl) ?_
  refine va_get (D := D) (ci := 3) (v := .long mk_x) (C := RX3) (T := TX3) (N := 4) hx hb hts inwX3_draw_X3 hown hK hP 0 rfl rfl 3 (by decide) (hts (.fieldLink RX3 22 "HedgeWays$Maker" "x" "J") (List.mem_of_getElem? (i := 1) rfl)) (fun _ h9 => h9) rfl dX3_draw_2 ?_
  refine lv_ldc2 hx hb hown (hts (.constantLong RX3 26 (6364136223846793005)) (List.mem_of_getElem? (i := 2) rfl)) dX3_draw_5 ?_
  refine lv_lmul hx hb dX3_draw_8 ?_
  refine lv_ldc2 hx hb hown (hts (.constantLong RX3 28 (1442695040888963407)) (List.mem_of_getElem? (i := 3) rfl)) dX3_draw_9 ?_
  refine lv_ladd hx hb dX3_draw_12 ?_
  refine lv_topl (fun mk_x_1 e1 => ?_)
  have hf := qob_bd hf e1
  refine va_put (D := D) (ci := 3) (v := .long mk_x_1) (ty := .long) (C := RX3) (T := TX3) (N := 4) hx hb hts inwX3_draw_X3 tyX3 tyX3_ok nmX3 hown hK hP hD hS 0 rfl rfl 3 (by decide) (hts (.fieldLink RX3 22 "HedgeWays$Maker" "x" "J") (List.mem_of_getElem? (i := 1) rfl)) (fun _ h9 => h9) rfl (tyX3_ok 3 (by decide)) rfl rfl (Nat.le_of_ble_eq_true rfl) dX3_draw_13 (fun H locs hP hD hS => ?_)
  have hP : va_P D vwCl ([oX3 mk g q_mk_hedges q_mk_cameFrom mk_x_1, aI cy q_mk_hedges 60 mk_hedges, aI cy q_mk_cameFrom 48 mk_cameFrom, oX1 g g_rows g_columns g_a g_b g_cells g_right g_down]) H := hP
  have hD : va_D A ([oX3 mk g q_mk_hedges q_mk_cameFrom mk_x_1, aI cy q_mk_hedges 60 mk_hedges, aI cy q_mk_cameFrom 48 mk_cameFrom, oX1 g g_rows g_columns g_a g_b g_cells g_right g_down]) := hD
  refine lv_iload_n hx hb dX3_draw_16 rfl (lv_at hl 1 rfl) ?_
  refine lv_iconst (v := 1) hx hb dX3_draw_17 (by decide) ?_
  refine lv_icmp_ge (tgt := 25) hx hb dX3_draw_18 (by decide) (fun c2 => ?_) (fun c2 => ?_)
  · have hf := qob_t hf c2
    refine lv_aload_n hx hb dX3_draw_25 rfl (lv_at hl 0 rfl) ?_
    refine va_get (D := D) (ci := 3) (v := .long mk_x_1) (C := RX3) (T := TX3) (N := 4) hx hb hts inwX3_draw_X3 hown hK hP 0 rfl rfl 3 (by decide) (hts (.fieldLink RX3 22 "HedgeWays$Maker" "x" "J") (List.mem_of_getElem? (i := 1) rfl)) (fun _ h9 => h9) rfl dX3_draw_26 ?_
    refine lv_bipush (v := 33) hx hb dX3_draw_29 (by decide) ?_
    refine lv_lushr (v := (qushr mk_x_1 33)) hx hb dX3_draw_31 rfl ?_
    refine lv_iload_n hx hb dX3_draw_32 rfl (lv_at hl 1 rfl) ?_
    refine lv_i2l (v := p1.toInt64) hx hb dX3_draw_33 rfl ?_
    obtain ⟨z3, hf⟩ := qob_gl hf
    refine lv_lrem hx hb dX3_draw_34 z3 ?_
    refine lv_l2i (v := (qreml (qushr mk_x_1 33) p1.toInt64).toInt32) hx hb dX3_draw_35 rfl ?_
    cases qob_ret hf
    exact ct_iret X hQ hK hP hD hS rfl dX3_draw_36
  · have hf := qob_f hf c2
    refine lv_iconst (v := 0) hx hb dX3_draw_21 (by decide) ?_
    refine lv_goto (tgt := 36) hx hb dX3_draw_22 (by decide) ?_
    cases qob_ret hf
    exact ct_iret X hQ hK hP hD hS rfl dX3_draw_36
theorem inwX3_listHedges_X3 : ∀ w ∈ wsX30, w ∈ wsX3_listHedges := fun _ h => List.mem_cons_of_mem _ (List.mem_append_left _ (List.mem_append_right _ h))
abbrev rmX3_listHedges : Room := { frames := 3, cells := 0, slots := 0, locals := 67 }
theorem hdX3_listHedges : yX3_listHedges.cls = RX3 ∧ yX3_listHedges.cls ≠ "java/lang/invoke/MethodHandle" ∧ yX3_listHedges.cls ≠ "java/lang/invoke/VarHandle" ∧ (parseMethodDescriptor yX3_listHedges.desc).map (fun d => d.parameters.length) = some 0 := by decide +kernel
set_option maxHeartbeats 4000000 in
set_option maxRecDepth 100000 in
theorem KX3_listHedges {l : Launch} {D : va_G} {cy : Nat → ClassId} {mk g q_mk_hedges q_mk_cameFrom : Nat} {mk_x : Int64} {mk_hedges : Nat → Int32} {mk_cameFrom : Nat → Int32} {g_rows : Int32} {g_columns : Int32} {g_a : Int32} {g_b : Int32} {g_cells : Int64} {g_right : Int64} {g_down : Int64}  {r : Int32} {mk_hedges' : Nat → Int32} (hf : fX3_listHedges mk_hedges g_cells g_right g_down = some (r, mk_hedges')) : CtI l yX3_listHedges wsX3_listHedges rmX3_listHedges D cy [.ref mk] ([oX3 mk g q_mk_hedges q_mk_cameFrom mk_x, aI cy q_mk_hedges 60 mk_hedges, aI cy q_mk_cameFrom 48 mk_cameFrom, oX1 g g_rows g_columns g_a g_b g_cells g_right g_down]) ([oX3 mk g q_mk_hedges q_mk_cameFrom mk_x, aI cy q_mk_hedges 60 mk_hedges', aI cy q_mk_cameFrom 48 mk_cameFrom, oX1 g g_rows g_columns g_a g_b g_cells g_right g_down]) r := by
  refine CtI.of (cc := cX3_listHedges) (maxL := 4) (ret := some .int) (own := RX3) (by decide) rfl rfl (Nat.le_of_ble_eq_true rfl) ?_
  intro p e s m args below meth c A Q X hQ hK hP hD hS ls hl
  obtain ⟨hx, hb, hml, hown, hts, hr, hlocks, hA, hZ⟩ := id X
  have hl : lv_has ls 4 [(0, .ref mk)] := hl
  unfold fX3_listHedges at hf
  have hf := qob_top hf
  refine lv_iconst (v := 0) hx hb dX3_listHedges_0 (by decide) ?_
  refine lv_istore_n (lv' := [(1, .int 0), (0, .ref mk)]) hx hb dX3_listHedges_1 rfl hl (by decide) rfl (fun ls hl => ?_)
  refine lv_iconst (v := 0) hx hb dX3_listHedges_2 (by decide) ?_
  refine lv_istore_n (lv' := [(2, .int 0), (1, .int 0), (0, .ref mk)]) hx hb dX3_listHedges_3 rfl hl (by decide) rfl (fun ls hl => ?_)
  refine qjoin2 hf (fun (x1_1 : Int32) (mk_hedges_1 : Nat → Int32) => ∀ (H : Heap) (locs : List Loc) (ls : Array Slot), ctW D A s ([oX3 mk g q_mk_hedges q_mk_cameFrom mk_x, aI cy q_mk_hedges 60 mk_hedges_1, aI cy q_mk_cameFrom 48 mk_cameFrom, oX1 g g_rows g_columns g_a g_b g_cells g_right g_down]) H locs → lv_has ls 4 [(1, .int x1_1)] → W p l e rmX3_listHedges s m args below meth c H locs 0 0 Q (F0 m 61 ls [])) ?_ ?_
  · intro x1_1 mk_hedges_1 hf H locs ls ⟨hP, hD, hS⟩ hl
    refine lv_iload_n hx hb dX3_listHedges_61 rfl (lv_at hl 0 rfl) ?_
    cases qob_ret hf
    exact ct_iret X hQ hK hP hD hS rfl dX3_listHedges_62
  · intro J1 hJ1 hf
    refine qwalk3 (fun (x1_2 : Int32) (x2_1 : Int32) (mk_hedges_2 : Nat → Int32) => ∀ (H : Heap) (locs : List Loc) (ls : Array Slot), ctW D A s ([oX3 mk g q_mk_hedges q_mk_cameFrom mk_x, aI cy q_mk_hedges 60 mk_hedges_2, aI cy q_mk_cameFrom 48 mk_cameFrom, oX1 g g_rows g_columns g_a g_b g_cells g_right g_down]) H locs → lv_has ls 4 [(0, .ref mk), (1, .int x1_2), (2, .int x2_1)] → W p l e rmX3_listHedges s m args below meth c H locs 0 0 Q (F0 m 4 ls [])) ?_ _ (0 : Int32) (0 : Int32) mk_hedges hf _ _ _ ⟨hP, hD, hS⟩ (lv_sub hl [2, 1, 0] rfl)
    intro J2 hL2 x1_2 x2_1 mk_hedges_2 hf H locs ls ⟨hP, hD, hS⟩ hl
    refine lv_iload_n hx hb dX3_listHedges_4 rfl (lv_at hl 2 rfl) ?_
    refine lv_bipush (v := 48) hx hb dX3_listHedges_5 (by decide) ?_
    refine lv_icmp_ge (tgt := 61) hx hb dX3_listHedges_7 (by decide) (fun c3 => ?_) (fun c3 => ?_)
    · have hf := qob_t hf c3
      have hf := qob_esc hf
      exact hJ1 x1_2 mk_hedges_2 hf _ _ _ ⟨hP, hD, hS⟩ (lv_sub hl [1] rfl)
    · have hf := qob_f hf c3
      refine lv_iconst (v := 1) hx hb dX3_listHedges_10 (by decide) ?_
      refine lv_istore_n (lv' := [(3, .int 1), (0, .ref mk), (1, .int x1_2), (2, .int x2_1)]) hx hb dX3_listHedges_11 rfl hl (by decide) rfl (fun ls hl => ?_)
      refine qjoin2 hf (fun (x1_3 : Int32) (mk_hedges_3 : Nat → Int32) => ∀ (H : Heap) (locs : List Loc) (ls : Array Slot), ctW D A s ([oX3 mk g q_mk_hedges q_mk_cameFrom mk_x, aI cy q_mk_hedges 60 mk_hedges_3, aI cy q_mk_cameFrom 48 mk_cameFrom, oX1 g g_rows g_columns g_a g_b g_cells g_right g_down]) H locs → lv_has ls 4 [(0, .ref mk), (1, .int x1_3), (2, .int x2_1)] → W p l e rmX3_listHedges s m args below meth c H locs 0 0 Q (F0 m 55 ls [])) ?_ ?_
      · intro x1_3 mk_hedges_3 hf H locs ls ⟨hP, hD, hS⟩ hl
        refine lv_iinc (v := (x2_1 + 1)) (lv' := [(2, .int (x2_1 + 1)), (0, .ref mk), (1, .int x1_3)]) hx hb dX3_listHedges_55 hl (k := 2) rfl rfl (by decide) rfl (fun ls hl => ?_)
        refine lv_goto (tgt := 4) hx hb dX3_listHedges_58 (by decide) ?_
        exact hL2 x1_3 (x2_1 + 1) mk_hedges_3 hf _ _ _ ⟨hP, hD, hS⟩ (lv_sub hl [1, 2, 0] rfl)
      · intro J4 hJ4 hf
        refine qwalk3 (fun (x1_4 : Int32) (x3_1 : Int32) (mk_hedges_4 : Nat → Int32) => ∀ (H : Heap) (locs : List Loc) (ls : Array Slot), ctW D A s ([oX3 mk g q_mk_hedges q_mk_cameFrom mk_x, aI cy q_mk_hedges 60 mk_hedges_4, aI cy q_mk_cameFrom 48 mk_cameFrom, oX1 g g_rows g_columns g_a g_b g_cells g_right g_down]) H locs → lv_has ls 4 [(0, .ref mk), (1, .int x1_4), (2, .int x2_1), (3, .int x3_1)] → W p l e rmX3_listHedges s m args below meth c H locs 0 0 Q (F0 m 12 ls [])) ?_ _ x1_2 (1 : Int32) mk_hedges_2 hf _ _ _ ⟨hP, hD, hS⟩ (lv_sub hl [1, 2, 3, 0] rfl)
        intro J5 hL5 x1_4 x3_1 mk_hedges_4 hf H locs ls ⟨hP, hD, hS⟩ hl
        refine lv_iload_n hx hb dX3_listHedges_12 rfl (lv_at hl 3 rfl) ?_
        refine lv_iconst (v := 2) hx hb dX3_listHedges_13 (by decide) ?_
        refine lv_icmp_gt (tgt := 55) hx hb dX3_listHedges_14 (by decide) (fun c6 => ?_) (fun c6 => ?_)
        · have hf := qob_t hf c6
          have hf := qob_esc hf
          exact hJ4 x1_4 mk_hedges_4 hf _ _ _ ⟨hP, hD, hS⟩ (lv_sub hl [0, 1, 2] rfl)
        · have hf := qob_f hf c6
          refine lv_aload_n hx hb dX3_listHedges_17 rfl (lv_at hl 0 rfl) ?_
          refine va_get (D := D) (ci := 3) (v := .ref g) (C := RX3) (T := TX3) (N := 4) hx hb hts inwX3_listHedges_X3 hown hK hP 0 rfl rfl 0 (by decide) (hts (.fieldLink RX3 9 "HedgeWays$Maker" "grid" "LHedgeWays$Grid;") (List.mem_of_getElem? (i := 1) rfl)) (fun _ h9 => h9) rfl dX3_listHedges_18 ?_
          refine lv_iload_n hx hb dX3_listHedges_21 rfl (lv_at hl 2 rfl) ?_
          refine lv_iload_n hx hb dX3_listHedges_22 rfl (lv_at hl 3 rfl) ?_
          refine ctV_i0 (r := (fX1_isHedge g_cells g_right g_down x2_1 x3_1)) (wc := [oX1 g g_rows g_columns g_a g_b g_cells g_right g_down]) (As := [.int x2_1, .int x3_1]) (rest := []) (q0 := 3) X hK hP hD hS [3] rfl rfl rfl (KX1_isHedge rfl _) (cwV 2 hts gX3_listHedges_X1_isHedge rfl rfl rfl hdX1_isHedge ⟨Nat.le_of_ble_eq_true rfl, Nat.le_of_ble_eq_true rfl⟩) rfl rfl rfl hl rfl (Nat.le_of_ble_eq_true rfl) dX3_listHedges_23 (Nat.zero_le _) (Nat.zero_le _) (fun H locs hP hS => ?_)
          refine lv_if_eq (tgt := 49) hx hb dX3_listHedges_26 (by decide) (fun c7 => ?_) (fun c7 => ?_)
          · have hf := qob_t hf c7
            refine lv_iinc (v := (x3_1 + 1)) (lv' := [(3, .int (x3_1 + 1)), (0, .ref mk), (1, .int x1_4), (2, .int x2_1)]) hx hb dX3_listHedges_49 hl (k := 3) rfl rfl (by decide) rfl (fun ls hl => ?_)
            refine lv_goto (tgt := 12) hx hb dX3_listHedges_52 (by decide) ?_
            exact hL5 x1_4 (x3_1 + 1) mk_hedges_4 hf _ _ _ ⟨hP, hD, hS⟩ (lv_sub hl [1, 2, 3, 0] rfl)
          · have hf := qob_f hf c7
            refine lv_iload_n hx hb dX3_listHedges_29 rfl (lv_at hl 1 rfl) ?_
            refine lv_bipush (v := 60) hx hb dX3_listHedges_30 (by decide) ?_
            refine lv_icmp_ge (tgt := 49) hx hb dX3_listHedges_32 (by decide) (fun c8 => ?_) (fun c8 => ?_)
            · have hf := qob_t hf c8
              refine lv_iinc (v := (x3_1 + 1)) (lv' := [(3, .int (x3_1 + 1)), (0, .ref mk), (1, .int x1_4), (2, .int x2_1)]) hx hb dX3_listHedges_49 hl (k := 3) rfl rfl (by decide) rfl (fun ls hl => ?_)
              refine lv_goto (tgt := 12) hx hb dX3_listHedges_52 (by decide) ?_
              exact hL5 x1_4 (x3_1 + 1) mk_hedges_4 hf _ _ _ ⟨hP, hD, hS⟩ (lv_sub hl [1, 2, 3, 0] rfl)
            · have hf := qob_f hf c8
              refine lv_aload_n hx hb dX3_listHedges_35 rfl (lv_at hl 0 rfl) ?_
              refine va_get (D := D) (ci := 3) (v := .ref q_mk_hedges) (C := RX3) (T := TX3) (N := 4) hx hb hts inwX3_listHedges_X3 hown hK hP 0 rfl rfl 1 (by decide) (hts (.fieldLink RX3 15 "HedgeWays$Maker" "hedges" "[I") (List.mem_of_getElem? (i := 2) rfl)) (fun _ h9 => h9) rfl dX3_listHedges_36 ?_
              refine lv_iload_n hx hb dX3_listHedges_39 rfl (lv_at hl 1 rfl) ?_
              refine lv_iload_n hx hb dX3_listHedges_40 rfl (lv_at hl 2 rfl) ?_
              refine lv_iconst (v := 4) hx hb dX3_listHedges_41 (by decide) ?_
              refine lv_imul hx hb dX3_listHedges_42 ?_
              refine lv_iload_n hx hb dX3_listHedges_43 rfl (lv_at hl 3 rfl) ?_
              refine lv_iadd hx hb dX3_listHedges_44 ?_
              obtain ⟨i9, hf⟩ := qob_gd hf
              refine va_iast hx hb hK hP hD hS 1 0 rfl rfl i9 dX3_listHedges_45 (fun H locs hP hD hS => ?_)
              have hP : va_P D vwCl ([oX3 mk g q_mk_hedges q_mk_cameFrom mk_x, aI cy q_mk_hedges 60 (upd mk_hedges_4 x1_4.toNatClampNeg ((x2_1 * 4) + x3_1)), aI cy q_mk_cameFrom 48 mk_cameFrom, oX1 g g_rows g_columns g_a g_b g_cells g_right g_down]) H := hP
              have hD : va_D A ([oX3 mk g q_mk_hedges q_mk_cameFrom mk_x, aI cy q_mk_hedges 60 (upd mk_hedges_4 x1_4.toNatClampNeg ((x2_1 * 4) + x3_1)), aI cy q_mk_cameFrom 48 mk_cameFrom, oX1 g g_rows g_columns g_a g_b g_cells g_right g_down]) := hD
              refine lv_iinc (v := (x1_4 + 1)) (lv' := [(1, .int (x1_4 + 1)), (0, .ref mk), (2, .int x2_1), (3, .int x3_1)]) hx hb dX3_listHedges_46 hl (k := 1) rfl rfl (by decide) rfl (fun ls hl => ?_)
              refine lv_iinc (v := (x3_1 + 1)) (lv' := [(3, .int (x3_1 + 1)), (1, .int (x1_4 + 1)), (0, .ref mk), (2, .int x2_1)]) hx hb dX3_listHedges_49 hl (k := 3) rfl rfl (by decide) rfl (fun ls hl => ?_)
              refine lv_goto (tgt := 12) hx hb dX3_listHedges_52 (by decide) ?_
              exact hL5 (x1_4 + 1) (x3_1 + 1) (upd mk_hedges_4 x1_4.toNatClampNeg ((x2_1 * 4) + x3_1)) hf _ _ _ ⟨hP, hD, hS⟩ (lv_sub hl [2, 1, 3, 0] rfl)
theorem inwX3_shuffle_X3 : ∀ w ∈ wsX30, w ∈ wsX3_shuffle := fun _ h => List.mem_cons_of_mem _ (List.mem_append_right _ h)
abbrev rmX3_shuffle : Room := { frames := 1, cells := 0, slots := 0, locals := 21 }
theorem hdX3_shuffle : yX3_shuffle.cls = RX3 ∧ yX3_shuffle.cls ≠ "java/lang/invoke/MethodHandle" ∧ yX3_shuffle.cls ≠ "java/lang/invoke/VarHandle" ∧ (parseMethodDescriptor yX3_shuffle.desc).map (fun d => d.parameters.length) = some 1 := by decide +kernel
set_option maxHeartbeats 4000000 in
set_option maxRecDepth 100000 in
theorem KX3_shuffle {l : Launch} {D : va_G} {cy : Nat → ClassId} {mk g q_mk_hedges q_mk_cameFrom : Nat} {mk_x : Int64} {mk_hedges : Nat → Int32} {mk_cameFrom : Nat → Int32} {g_rows : Int32} {g_columns : Int32} {g_a : Int32} {g_b : Int32} {g_cells : Int64} {g_right : Int64} {g_down : Int64} {p1 : Int32} {mk_x' : Int64} {mk_hedges' : Nat → Int32} (hf : fX3_shuffle mk_x mk_hedges p1 = some (mk_x', mk_hedges')) : CtV l yX3_shuffle wsX3_shuffle rmX3_shuffle D cy [.ref mk, .int p1] ([oX3 mk g q_mk_hedges q_mk_cameFrom mk_x, aI cy q_mk_hedges 60 mk_hedges, aI cy q_mk_cameFrom 48 mk_cameFrom, oX1 g g_rows g_columns g_a g_b g_cells g_right g_down]) ([oX3 mk g q_mk_hedges q_mk_cameFrom mk_x', aI cy q_mk_hedges 60 mk_hedges', aI cy q_mk_cameFrom 48 mk_cameFrom, oX1 g g_rows g_columns g_a g_b g_cells g_right g_down]) := by
  refine CtV.of (cc := cX3_shuffle) (maxL := 5) (ret := none) (own := RX3) (by decide) rfl rfl (Nat.le_of_ble_eq_true rfl) ?_
  intro p e s m args below meth c A Q X hQ hK hP hD hS ls hl
  obtain ⟨hx, hb, hml, hown, hts, hr, hlocks, hA, hZ⟩ := id X
  have hl : lv_has ls 5 [(0, .ref mk), (1, .int p1)] := hl
  unfold fX3_shuffle at hf
  have hf := qob_top hf
  refine lv_iload_n hx hb dX3_shuffle_0 rfl (lv_at hl 1 rfl) ?_
  refine lv_bipush (v := 60) hx hb dX3_shuffle_1 (by decide) ?_
  refine va_mmin hx hb (hml.trans hl.1.symm) hown (hts (.methodLink RX3 60 Lib.Math.min.name) (List.mem_of_getElem? (i := 1) rfl)) (hts (.static Lib.Math.min.name) (List.mem_of_getElem? (i := 2) rfl)) (hts (.initialized "java/lang/Math") (List.mem_of_getElem? (i := 3) rfl)) (hts (.code Lib.Math.min.name Lib.Math.min.code 2 (some .int)) (List.mem_of_getElem? (i := 4) rfl)) (Nat.le_of_ble_eq_true rfl) (Nat.le_of_ble_eq_true rfl) (Nat.zero_le _) (Nat.zero_le _) dX3_shuffle_3 ?_
  refine lv_iconst (v := 1) hx hb dX3_shuffle_6 (by decide) ?_
  refine lv_isub hx hb dX3_shuffle_7 ?_
  refine lv_istore_n (lv' := [(2, .int ((qmin p1 60) - 1)), (0, .ref mk), (1, .int p1)]) hx hb dX3_shuffle_8 rfl hl (by decide) rfl (fun ls hl => ?_)
  refine qjoin2 hf (fun (mk_x_1 : Int64) (mk_hedges_1 : Nat → Int32) => ∀ (H : Heap) (locs : List Loc) (ls : Array Slot), ctW D A s ([oX3 mk g q_mk_hedges q_mk_cameFrom mk_x_1, aI cy q_mk_hedges 60 mk_hedges_1, aI cy q_mk_cameFrom 48 mk_cameFrom, oX1 g g_rows g_columns g_a g_b g_cells g_right g_down]) H locs → lv_has ls 5 [] → W p l e rmX3_shuffle s m args below meth c H locs 0 0 Q (F0 m 56 ls [])) ?_ ?_
  · intro mk_x_1 mk_hedges_1 hf H locs ls ⟨hP, hD, hS⟩ hl
    cases qob_ret hf
    exact ct_vret X hQ hK hP hD hS dX3_shuffle_56
  · intro J1 hJ1 hf
    refine qwalk3 (fun (x2_1 : Int32) (mk_x_2 : Int64) (mk_hedges_2 : Nat → Int32) => ∀ (H : Heap) (locs : List Loc) (ls : Array Slot), ctW D A s ([oX3 mk g q_mk_hedges q_mk_cameFrom mk_x_2, aI cy q_mk_hedges 60 mk_hedges_2, aI cy q_mk_cameFrom 48 mk_cameFrom, oX1 g g_rows g_columns g_a g_b g_cells g_right g_down]) H locs → lv_has ls 5 [(0, .ref mk), (2, .int x2_1)] → W p l e rmX3_shuffle s m args below meth c H locs 0 0 Q (F0 m 9 ls [])) ?_ _ ((qmin p1 60) - 1) mk_x mk_hedges hf _ _ _ ⟨hP, hD, hS⟩ (lv_sub hl [1, 0] rfl)
    intro J2 hL2 x2_1 mk_x_2 mk_hedges_2 hf H locs ls ⟨hP, hD, hS⟩ hl
    refine lv_iload_n hx hb dX3_shuffle_9 rfl (lv_at hl 1 rfl) ?_
    refine lv_iconst (v := 1) hx hb dX3_shuffle_10 (by decide) ?_
    refine lv_icmp_lt (tgt := 56) hx hb dX3_shuffle_11 (by decide) (fun c3 => ?_) (fun c3 => ?_)
    · have hf := qob_t hf c3
      have hf := qob_esc hf
      exact hJ1 mk_x_2 mk_hedges_2 hf _ _ _ ⟨hP, hD, hS⟩ (lv_sub hl [] rfl)
    · have hf := qob_f hf c3
      refine lv_aload_n hx hb dX3_shuffle_14 rfl (lv_at hl 0 rfl) ?_
      refine lv_iload_n hx hb dX3_shuffle_15 rfl (lv_at hl 1 rfl) ?_
      refine lv_iconst (v := 1) hx hb dX3_shuffle_16 (by decide) ?_
      refine lv_iadd hx hb dX3_shuffle_17 ?_
      obtain ⟨r_1, mk_x_3, q4, hf⟩ := qcall2 hf
      refine ctV_i (r := r_1) (wc := [oX3 mk g q_mk_hedges q_mk_cameFrom mk_x_2, aI cy q_mk_hedges 60 mk_hedges_2, aI cy q_mk_cameFrom 48 mk_cameFrom, oX1 g g_rows g_columns g_a g_b g_cells g_right g_down]) (w1 := [oX3 mk g q_mk_hedges q_mk_cameFrom mk_x_3, aI cy q_mk_hedges 60 mk_hedges_2, aI cy q_mk_cameFrom 48 mk_cameFrom, oX1 g g_rows g_columns g_a g_b g_cells g_right g_down]) (wr := []) (wn := [oX3 mk g q_mk_hedges q_mk_cameFrom mk_x_3, aI cy q_mk_hedges 60 mk_hedges_2, aI cy q_mk_cameFrom 48 mk_cameFrom, oX1 g g_rows g_columns g_a g_b g_cells g_right g_down]) (As := [.int (x2_1 + 1)]) (rest := []) (q0 := 0) X hK hP hD hS [0, 1, 2, 3] [] [0, 1, 2, 3] rfl rfl rfl rfl rfl (by decide) rfl rfl rfl (KX3_draw q4 _) (cwV 1 hts gX3_shuffle_X3_draw rfl rfl rfl hdX3_draw ⟨Nat.le_of_ble_eq_true rfl, Nat.le_of_ble_eq_true rfl⟩) rfl rfl rfl hl rfl (Nat.le_of_ble_eq_true rfl) dX3_shuffle_18 (Nat.zero_le _) (Nat.zero_le _) (fun H locs hP hD hS => ?_)
      refine lv_istore_n (lv' := [(3, .int r_1), (0, .ref mk), (2, .int x2_1)]) hx hb dX3_shuffle_21 rfl hl (by decide) rfl (fun ls hl => ?_)
      refine lv_aload_n hx hb dX3_shuffle_22 rfl (lv_at hl 1 rfl) ?_
      refine va_get (D := D) (ci := 3) (v := .ref q_mk_hedges) (C := RX3) (T := TX3) (N := 4) hx hb hts inwX3_shuffle_X3 hown hK hP 0 rfl rfl 1 (by decide) (hts (.fieldLink RX3 15 "HedgeWays$Maker" "hedges" "[I") (List.mem_of_getElem? (i := 5) rfl)) (fun _ h9 => h9) rfl dX3_shuffle_23 ?_
      refine lv_iload_n hx hb dX3_shuffle_26 rfl (lv_at hl 2 rfl) ?_
      obtain ⟨i5, hf⟩ := qob_gd hf
      refine va_iald hx hb hK hP 1 0 rfl rfl i5 dX3_shuffle_27 ?_
      refine lv_istore (lv' := [(4, .int (mk_hedges_2 x2_1.toNatClampNeg)), (3, .int r_1), (0, .ref mk), (2, .int x2_1)]) hx hb dX3_shuffle_28 hl (by decide) rfl (fun ls hl => ?_)
      refine lv_aload_n hx hb dX3_shuffle_30 rfl (lv_at hl 2 rfl) ?_
      refine va_get (D := D) (ci := 3) (v := .ref q_mk_hedges) (C := RX3) (T := TX3) (N := 4) hx hb hts inwX3_shuffle_X3 hown hK hP 0 rfl rfl 1 (by decide) (hts (.fieldLink RX3 15 "HedgeWays$Maker" "hedges" "[I") (List.mem_of_getElem? (i := 5) rfl)) (fun _ h9 => h9) rfl dX3_shuffle_31 ?_
      refine lv_iload_n hx hb dX3_shuffle_34 rfl (lv_at hl 3 rfl) ?_
      refine lv_aload_n hx hb dX3_shuffle_35 rfl (lv_at hl 2 rfl) ?_
      refine va_get (D := D) (ci := 3) (v := .ref q_mk_hedges) (C := RX3) (T := TX3) (N := 4) hx hb hts inwX3_shuffle_X3 hown hK hP 0 rfl rfl 1 (by decide) (hts (.fieldLink RX3 15 "HedgeWays$Maker" "hedges" "[I") (List.mem_of_getElem? (i := 5) rfl)) (fun _ h9 => h9) rfl dX3_shuffle_36 ?_
      refine lv_iload_n hx hb dX3_shuffle_39 rfl (lv_at hl 1 rfl) ?_
      obtain ⟨i6, hf⟩ := qob_gd hf
      refine va_iald hx hb hK hP 1 0 rfl rfl i6 dX3_shuffle_40 ?_
      obtain ⟨i7, hf⟩ := qob_gd hf
      obtain ⟨mk_hedges_3, e8⟩ : ∃ z, z = (upd mk_hedges_2 x2_1.toNatClampNeg (mk_hedges_2 r_1.toNatClampNeg)) := ⟨_, rfl⟩
      have hf := qob_bd hf e8
      refine va_iast hx hb hK hP hD hS 1 0 rfl rfl i7 dX3_shuffle_41 (fun H locs hP hD hS => ?_)
      have hP : va_P D vwCl ([oX3 mk g q_mk_hedges q_mk_cameFrom mk_x_3, aI cy q_mk_hedges 60 mk_hedges_3, aI cy q_mk_cameFrom 48 mk_cameFrom, oX1 g g_rows g_columns g_a g_b g_cells g_right g_down]) H := by rw [e8]; exact hP
      have hD : va_D A ([oX3 mk g q_mk_hedges q_mk_cameFrom mk_x_3, aI cy q_mk_hedges 60 mk_hedges_3, aI cy q_mk_cameFrom 48 mk_cameFrom, oX1 g g_rows g_columns g_a g_b g_cells g_right g_down]) := by rw [e8]; exact hD
      refine lv_aload_n hx hb dX3_shuffle_42 rfl (lv_at hl 2 rfl) ?_
      refine va_get (D := D) (ci := 3) (v := .ref q_mk_hedges) (C := RX3) (T := TX3) (N := 4) hx hb hts inwX3_shuffle_X3 hown hK hP 0 rfl rfl 1 (by decide) (hts (.fieldLink RX3 15 "HedgeWays$Maker" "hedges" "[I") (List.mem_of_getElem? (i := 5) rfl)) (fun _ h9 => h9) rfl dX3_shuffle_43 ?_
      refine lv_iload_n hx hb dX3_shuffle_46 rfl (lv_at hl 1 rfl) ?_
      refine lv_iload hx hb dX3_shuffle_47 (lv_at hl 0 rfl) ?_
      obtain ⟨i9, hf⟩ := qob_gd hf
      obtain ⟨mk_hedges_4, e10⟩ : ∃ z, z = (upd mk_hedges_3 r_1.toNatClampNeg (mk_hedges_2 x2_1.toNatClampNeg)) := ⟨_, rfl⟩
      have hf := qob_bd hf e10
      refine va_iast hx hb hK hP hD hS 1 0 rfl rfl i9 dX3_shuffle_49 (fun H locs hP hD hS => ?_)
      have hP : va_P D vwCl ([oX3 mk g q_mk_hedges q_mk_cameFrom mk_x_3, aI cy q_mk_hedges 60 mk_hedges_4, aI cy q_mk_cameFrom 48 mk_cameFrom, oX1 g g_rows g_columns g_a g_b g_cells g_right g_down]) H := by rw [e10]; exact hP
      have hD : va_D A ([oX3 mk g q_mk_hedges q_mk_cameFrom mk_x_3, aI cy q_mk_hedges 60 mk_hedges_4, aI cy q_mk_cameFrom 48 mk_cameFrom, oX1 g g_rows g_columns g_a g_b g_cells g_right g_down]) := by rw [e10]; exact hD
      refine lv_iinc (v := (x2_1 + (-1))) (lv' := [(2, .int (x2_1 + (-1))), (4, .int (mk_hedges_2 x2_1.toNatClampNeg)), (3, .int r_1), (0, .ref mk)]) hx hb dX3_shuffle_50 hl (k := 3) rfl rfl (by decide) rfl (fun ls hl => ?_)
      refine lv_goto (tgt := 9) hx hb dX3_shuffle_53 (by decide) ?_
      exact hL2 (x2_1 + (-1)) mk_x_3 mk_hedges_4 hf _ _ _ ⟨hP, hD, hS⟩ (lv_sub hl [3, 0] rfl)
theorem inwX3_joinParts_X3 : ∀ w ∈ wsX30, w ∈ wsX3_joinParts := fun _ h => List.mem_cons_of_mem _ (List.mem_append_left _ (List.mem_append_right _ h))
abbrev rmX3_joinParts : Room := { frames := 4, cells := 0, slots := 0, locals := 90 }
theorem hdX3_joinParts : yX3_joinParts.cls = RX3 ∧ yX3_joinParts.cls ≠ "java/lang/invoke/MethodHandle" ∧ yX3_joinParts.cls ≠ "java/lang/invoke/VarHandle" ∧ (parseMethodDescriptor yX3_joinParts.desc).map (fun d => d.parameters.length) = some 1 := by decide +kernel
set_option maxHeartbeats 4000000 in
set_option maxRecDepth 100000 in
theorem KX3_joinParts {l : Launch} {D : va_G} {cy : Nat → ClassId} {mk g q_mk_hedges q_mk_cameFrom : Nat} {mk_x : Int64} {mk_hedges : Nat → Int32} {mk_cameFrom : Nat → Int32} {g_rows : Int32} {g_columns : Int32} {g_a : Int32} {g_b : Int32} {g_cells : Int64} {g_right : Int64} {g_down : Int64} {p1 : Int64} {mk_x' : Int64} {mk_hedges' : Nat → Int32} {g_right' : Int64} {g_down' : Int64} (hf : fX3_joinParts mk_x mk_hedges g_cells g_right g_down p1 = some (mk_x', mk_hedges', g_right', g_down')) : CtV l yX3_joinParts wsX3_joinParts rmX3_joinParts D cy [.ref mk, .long p1] ([oX3 mk g q_mk_hedges q_mk_cameFrom mk_x, aI cy q_mk_hedges 60 mk_hedges, aI cy q_mk_cameFrom 48 mk_cameFrom, oX1 g g_rows g_columns g_a g_b g_cells g_right g_down]) ([oX3 mk g q_mk_hedges q_mk_cameFrom mk_x', aI cy q_mk_hedges 60 mk_hedges', aI cy q_mk_cameFrom 48 mk_cameFrom, oX1 g g_rows g_columns g_a g_b g_cells g_right' g_down']) := by
  refine CtV.of (cc := cX3_joinParts) (maxL := 7) (ret := none) (own := RX3) (by decide) rfl rfl (Nat.le_of_ble_eq_true rfl) ?_
  intro p e s m args below meth c A Q X hQ hK hP hD hS ls hl
  obtain ⟨hx, hb, hml, hown, hts, hr, hlocks, hA, hZ⟩ := id X
  have hl : lv_has ls 7 [(0, .ref mk), (1, .long p1)] := hl
  unfold fX3_joinParts at hf
  have hf := qob_top hf
  refine lv_aload_n hx hb dX3_joinParts_0 rfl (lv_at hl 0 rfl) ?_
  refine lv_lload_n hx hb dX3_joinParts_1 rfl (lv_at hl 1 rfl) ?_
  refine va_put (D := D) (ci := 3) (v := .long p1) (ty := .long) (C := RX3) (T := TX3) (N := 4) hx hb hts inwX3_joinParts_X3 tyX3 tyX3_ok nmX3 hown hK hP hD hS 0 rfl rfl 3 (by decide) (hts (.fieldLink RX3 22 "HedgeWays$Maker" "x" "J") (List.mem_of_getElem? (i := 1) rfl)) (fun _ h9 => h9) rfl (tyX3_ok 3 (by decide)) rfl rfl (Nat.le_of_ble_eq_true rfl) dX3_joinParts_2 (fun H locs hP hD hS => ?_)
  have hP : va_P D vwCl ([oX3 mk g q_mk_hedges q_mk_cameFrom p1, aI cy q_mk_hedges 60 mk_hedges, aI cy q_mk_cameFrom 48 mk_cameFrom, oX1 g g_rows g_columns g_a g_b g_cells g_right g_down]) H := hP
  have hD : va_D A ([oX3 mk g q_mk_hedges q_mk_cameFrom p1, aI cy q_mk_hedges 60 mk_hedges, aI cy q_mk_cameFrom 48 mk_cameFrom, oX1 g g_rows g_columns g_a g_b g_cells g_right g_down]) := hD
  refine lv_aload_n hx hb dX3_joinParts_5 rfl (lv_at hl 0 rfl) ?_
  obtain ⟨r_1, mk_hedges_1, q1, hf⟩ := qcall2 hf
  refine ctV_i (r := r_1) (wc := [oX3 mk g q_mk_hedges q_mk_cameFrom p1, aI cy q_mk_hedges 60 mk_hedges, aI cy q_mk_cameFrom 48 mk_cameFrom, oX1 g g_rows g_columns g_a g_b g_cells g_right g_down]) (w1 := [oX3 mk g q_mk_hedges q_mk_cameFrom p1, aI cy q_mk_hedges 60 mk_hedges_1, aI cy q_mk_cameFrom 48 mk_cameFrom, oX1 g g_rows g_columns g_a g_b g_cells g_right g_down]) (wr := []) (wn := [oX3 mk g q_mk_hedges q_mk_cameFrom p1, aI cy q_mk_hedges 60 mk_hedges_1, aI cy q_mk_cameFrom 48 mk_cameFrom, oX1 g g_rows g_columns g_a g_b g_cells g_right g_down]) (As := []) (rest := []) (q0 := 0) X hK hP hD hS [0, 1, 2, 3] [] [0, 1, 2, 3] rfl rfl rfl rfl rfl (by decide) rfl rfl rfl (KX3_listHedges q1 _) (cwV 0 hts gX3_joinParts_X3_listHedges rfl rfl rfl hdX3_listHedges ⟨Nat.le_of_ble_eq_true rfl, Nat.le_of_ble_eq_true rfl⟩) rfl rfl rfl hl rfl (Nat.le_of_ble_eq_true rfl) dX3_joinParts_6 (Nat.zero_le _) (Nat.zero_le _) (fun H locs hP hD hS => ?_)
  refine lv_istore_n (lv' := [(3, .int r_1), (0, .ref mk), (1, .long p1)]) hx hb dX3_joinParts_9 rfl hl (by decide) rfl (fun ls hl => ?_)
  refine lv_aload_n hx hb dX3_joinParts_10 rfl (lv_at hl 1 rfl) ?_
  refine lv_iload_n hx hb dX3_joinParts_11 rfl (lv_at hl 0 rfl) ?_
  obtain ⟨mk_x_1, mk_hedges_2, q2, hf⟩ := qcall2 hf
  refine ctV_v (wc := [oX3 mk g q_mk_hedges q_mk_cameFrom p1, aI cy q_mk_hedges 60 mk_hedges_1, aI cy q_mk_cameFrom 48 mk_cameFrom, oX1 g g_rows g_columns g_a g_b g_cells g_right g_down]) (w1 := [oX3 mk g q_mk_hedges q_mk_cameFrom mk_x_1, aI cy q_mk_hedges 60 mk_hedges_2, aI cy q_mk_cameFrom 48 mk_cameFrom, oX1 g g_rows g_columns g_a g_b g_cells g_right g_down]) (wr := []) (wn := [oX3 mk g q_mk_hedges q_mk_cameFrom mk_x_1, aI cy q_mk_hedges 60 mk_hedges_2, aI cy q_mk_cameFrom 48 mk_cameFrom, oX1 g g_rows g_columns g_a g_b g_cells g_right g_down]) (As := [.int r_1]) (rest := []) (q0 := 0) X hK hP hD hS [0, 1, 2, 3] [] [0, 1, 2, 3] rfl rfl rfl rfl rfl (by decide) rfl rfl rfl (KX3_shuffle q2 _) (cwV 1 hts gX3_joinParts_X3_shuffle rfl rfl rfl hdX3_shuffle ⟨Nat.le_of_ble_eq_true rfl, Nat.le_of_ble_eq_true rfl⟩) rfl rfl rfl hl rfl (Nat.le_of_ble_eq_true rfl) dX3_joinParts_12 (Nat.zero_le _) (Nat.zero_le _) (fun H locs hP hD hS => ?_)
  refine lv_iconst (v := 0) hx hb dX3_joinParts_15 (by decide) ?_
  refine lv_istore (lv' := [(4, .int 0), (3, .int r_1), (0, .ref mk), (1, .long p1)]) hx hb dX3_joinParts_16 hl (by decide) rfl (fun ls hl => ?_)
  refine qjoin2 hf (fun (g_right_1 : Int64) (g_down_1 : Int64) => ∀ (H : Heap) (locs : List Loc) (ls : Array Slot), ctW D A s ([oX3 mk g q_mk_hedges q_mk_cameFrom mk_x_1, aI cy q_mk_hedges 60 mk_hedges_2, aI cy q_mk_cameFrom 48 mk_cameFrom, oX1 g g_rows g_columns g_a g_b g_cells g_right_1 g_down_1]) H locs → lv_has ls 7 [] → W p l e rmX3_joinParts s m args below meth c H locs 0 0 Q (F0 m 97 ls [])) ?_ ?_
  · intro g_right_1 g_down_1 hf H locs ls ⟨hP, hD, hS⟩ hl
    cases qob_ret hf
    exact ct_vret X hQ hK hP hD hS dX3_joinParts_97
  · intro J3 hJ3 hf
    refine qwalk3 (fun (x4_1 : Int32) (g_right_2 : Int64) (g_down_2 : Int64) => ∀ (H : Heap) (locs : List Loc) (ls : Array Slot), ctW D A s ([oX3 mk g q_mk_hedges q_mk_cameFrom mk_x_1, aI cy q_mk_hedges 60 mk_hedges_2, aI cy q_mk_cameFrom 48 mk_cameFrom, oX1 g g_rows g_columns g_a g_b g_cells g_right_2 g_down_2]) H locs → lv_has ls 7 [(0, .ref mk), (3, .int r_1), (4, .int x4_1)] → W p l e rmX3_joinParts s m args below meth c H locs 0 0 Q (F0 m 18 ls [])) ?_ _ (0 : Int32) g_right g_down hf _ _ _ ⟨hP, hD, hS⟩ (lv_sub hl [2, 1, 0] rfl)
    intro J4 hL4 x4_1 g_right_2 g_down_2 hf H locs ls ⟨hP, hD, hS⟩ hl
    refine lv_iload hx hb dX3_joinParts_18 (lv_at hl 2 rfl) ?_
    refine lv_iload_n hx hb dX3_joinParts_20 rfl (lv_at hl 1 rfl) ?_
    refine lv_icmp_ge (tgt := 97) hx hb dX3_joinParts_21 (by decide) (fun c5 => ?_) (fun c5 => ?_)
    · have hf := qob_t hf c5
      have hf := qob_esc hf
      exact hJ3 g_right_2 g_down_2 hf _ _ _ ⟨hP, hD, hS⟩ (lv_sub hl [] rfl)
    · have hf := qob_f hf c5
      refine lv_iload hx hb dX3_joinParts_24 (lv_at hl 2 rfl) ?_
      refine lv_bipush (v := 60) hx hb dX3_joinParts_26 (by decide) ?_
      refine lv_icmp_ge (tgt := 97) hx hb dX3_joinParts_28 (by decide) (fun c6 => ?_) (fun c6 => ?_)
      · have hf := qob_t hf c6
        have hf := qob_esc hf
        exact hJ3 g_right_2 g_down_2 hf _ _ _ ⟨hP, hD, hS⟩ (lv_sub hl [] rfl)
      · have hf := qob_f hf c6
        refine lv_aload_n hx hb dX3_joinParts_31 rfl (lv_at hl 0 rfl) ?_
        refine va_get (D := D) (ci := 3) (v := .ref q_mk_hedges) (C := RX3) (T := TX3) (N := 4) hx hb hts inwX3_joinParts_X3 hown hK hP 0 rfl rfl 1 (by decide) (hts (.fieldLink RX3 15 "HedgeWays$Maker" "hedges" "[I") (List.mem_of_getElem? (i := 2) rfl)) (fun _ h9 => h9) rfl dX3_joinParts_32 ?_
        refine lv_iload hx hb dX3_joinParts_35 (lv_at hl 2 rfl) ?_
        obtain ⟨i7, hf⟩ := qob_gd hf
        refine va_iald hx hb hK hP 1 0 rfl rfl i7 dX3_joinParts_37 ?_
        refine lv_iconst (v := 4) hx hb dX3_joinParts_38 (by decide) ?_
        refine lv_idiv hx hb dX3_joinParts_39 (by decide) ?_
        refine lv_istore (lv' := [(5, .int ((mk_hedges_2 x4_1.toNatClampNeg) / 4)), (0, .ref mk), (3, .int r_1), (4, .int x4_1)]) hx hb dX3_joinParts_40 hl (by decide) rfl (fun ls hl => ?_)
        refine lv_aload_n hx hb dX3_joinParts_42 rfl (lv_at hl 1 rfl) ?_
        refine va_get (D := D) (ci := 3) (v := .ref q_mk_hedges) (C := RX3) (T := TX3) (N := 4) hx hb hts inwX3_joinParts_X3 hown hK hP 0 rfl rfl 1 (by decide) (hts (.fieldLink RX3 15 "HedgeWays$Maker" "hedges" "[I") (List.mem_of_getElem? (i := 2) rfl)) (fun _ h9 => h9) rfl dX3_joinParts_43 ?_
        refine lv_iload hx hb dX3_joinParts_46 (lv_at hl 3 rfl) ?_
        obtain ⟨i8, hf⟩ := qob_gd hf
        refine va_iald hx hb hK hP 1 0 rfl rfl i8 dX3_joinParts_48 ?_
        refine lv_iconst (v := 4) hx hb dX3_joinParts_49 (by decide) ?_
        refine lv_irem hx hb dX3_joinParts_50 (by decide) ?_
        refine lv_istore (lv' := [(6, .int (qrem (mk_hedges_2 x4_1.toNatClampNeg) 4)), (5, .int ((mk_hedges_2 x4_1.toNatClampNeg) / 4)), (0, .ref mk), (3, .int r_1), (4, .int x4_1)]) hx hb dX3_joinParts_51 hl (by decide) rfl (fun ls hl => ?_)
        refine lv_aload_n hx hb dX3_joinParts_53 rfl (lv_at hl 2 rfl) ?_
        refine va_get (D := D) (ci := 3) (v := .ref g) (C := RX3) (T := TX3) (N := 4) hx hb hts inwX3_joinParts_X3 hown hK hP 0 rfl rfl 0 (by decide) (hts (.fieldLink RX3 9 "HedgeWays$Maker" "grid" "LHedgeWays$Grid;") (List.mem_of_getElem? (i := 3) rfl)) (fun _ h9 => h9) rfl dX3_joinParts_54 ?_
        refine lv_iload hx hb dX3_joinParts_57 (lv_at hl 1 rfl) ?_
        obtain ⟨r_2, q9, hf⟩ := qcall1 hf
        refine ctV_l0 (r := r_2) (wc := [oX1 g g_rows g_columns g_a g_b g_cells g_right_2 g_down_2]) (As := [.int ((mk_hedges_2 x4_1.toNatClampNeg) / 4)]) (rest := []) (q0 := 3) X hK hP hD hS [3] rfl rfl rfl (KX1_partOf q9 _) (cwV 1 hts gX3_joinParts_X1_partOf rfl rfl rfl hdX1_partOf ⟨Nat.le_of_ble_eq_true rfl, Nat.le_of_ble_eq_true rfl⟩) rfl rfl rfl hl rfl (Nat.le_of_ble_eq_true rfl) dX3_joinParts_59 (Nat.zero_le _) (Nat.zero_le _) (fun H locs hP hS => ?_)
        refine lv_aload_n hx hb dX3_joinParts_62 rfl (lv_at hl 2 rfl) ?_
        refine va_get (D := D) (ci := 3) (v := .ref g) (C := RX3) (T := TX3) (N := 4) hx hb hts inwX3_joinParts_X3 hown hK hP 0 rfl rfl 0 (by decide) (hts (.fieldLink RX3 9 "HedgeWays$Maker" "grid" "LHedgeWays$Grid;") (List.mem_of_getElem? (i := 3) rfl)) (fun _ h9 => h9) rfl dX3_joinParts_63 ?_
        refine lv_iload hx hb dX3_joinParts_66 (lv_at hl 1 rfl) ?_
        refine lv_iload hx hb dX3_joinParts_68 (lv_at hl 0 rfl) ?_
        refine ctV_i0 (r := (fX1_beside g_cells ((mk_hedges_2 x4_1.toNatClampNeg) / 4) (qrem (mk_hedges_2 x4_1.toNatClampNeg) 4))) (wc := [oX1 g g_rows g_columns g_a g_b g_cells g_right_2 g_down_2]) (As := [.int ((mk_hedges_2 x4_1.toNatClampNeg) / 4), .int (qrem (mk_hedges_2 x4_1.toNatClampNeg) 4)]) (rest := [.long r_2]) (q0 := 3) X hK hP hD hS [3] rfl rfl rfl (KX1_beside rfl _) (cwV 2 hts gX3_joinParts_X1_beside rfl rfl rfl hdX1_beside ⟨Nat.le_of_ble_eq_true rfl, Nat.le_of_ble_eq_true rfl⟩) rfl rfl rfl hl rfl (Nat.le_of_ble_eq_true rfl) dX3_joinParts_70 (Nat.zero_le _) (Nat.zero_le _) (fun H locs hP hS => ?_)
        refine ctS_i0 (r := (fX1_has r_2 (fX1_beside g_cells ((mk_hedges_2 x4_1.toNatClampNeg) / 4) (qrem (mk_hedges_2 x4_1.toNatClampNeg) 4)))) (wc := []) (As := [.long r_2, .int (fX1_beside g_cells ((mk_hedges_2 x4_1.toNatClampNeg) / 4) (qrem (mk_hedges_2 x4_1.toNatClampNeg) 4))]) (rest := []) X hK hP hD hS [] rfl rfl rfl (KX1_has rfl _) (va_cwS 2 hts gX3_joinParts_X1_has rfl rfl rfl hdX1_has ⟨Nat.le_of_ble_eq_true rfl, Nat.le_of_ble_eq_true rfl⟩) rfl hl rfl (Nat.le_of_ble_eq_true rfl) dX3_joinParts_73 (Nat.zero_le _) (Nat.zero_le _) (fun H locs hP hS => ?_)
        refine lv_if_ne (tgt := 91) hx hb dX3_joinParts_76 (by decide) (fun c10 => ?_) (fun c10 => ?_)
        · have hf := qob_f hf c10
          refine lv_iinc (v := (x4_1 + 1)) (lv' := [(4, .int (x4_1 + 1)), (6, .int (qrem (mk_hedges_2 x4_1.toNatClampNeg) 4)), (5, .int ((mk_hedges_2 x4_1.toNatClampNeg) / 4)), (0, .ref mk), (3, .int r_1)]) hx hb dX3_joinParts_91 hl (k := 4) rfl rfl (by decide) rfl (fun ls hl => ?_)
          refine lv_goto (tgt := 18) hx hb dX3_joinParts_94 (by decide) ?_
          exact hL4 (x4_1 + 1) g_right_2 g_down_2 hf _ _ _ ⟨hP, hD, hS⟩ (lv_sub hl [3, 4, 0] rfl)
        · have hf := qob_t hf c10
          refine lv_aload_n hx hb dX3_joinParts_79 rfl (lv_at hl 2 rfl) ?_
          refine va_get (D := D) (ci := 3) (v := .ref g) (C := RX3) (T := TX3) (N := 4) hx hb hts inwX3_joinParts_X3 hown hK hP 0 rfl rfl 0 (by decide) (hts (.fieldLink RX3 9 "HedgeWays$Maker" "grid" "LHedgeWays$Grid;") (List.mem_of_getElem? (i := 3) rfl)) (fun _ h9 => h9) rfl dX3_joinParts_80 ?_
          refine lv_iload hx hb dX3_joinParts_83 (lv_at hl 1 rfl) ?_
          refine lv_iload hx hb dX3_joinParts_85 (lv_at hl 0 rfl) ?_
          refine lv_iconst (v := 1) hx hb dX3_joinParts_87 (by decide) ?_
          obtain ⟨g_right_3, g_down_3, q11, hf⟩ := qcallT2 hf
          refine ctV_v (wc := [oX1 g g_rows g_columns g_a g_b g_cells g_right_2 g_down_2]) (w1 := [oX1 g g_rows g_columns g_a g_b g_cells g_right_3 g_down_3]) (wr := [oX3 mk g q_mk_hedges q_mk_cameFrom mk_x_1, aI cy q_mk_hedges 60 mk_hedges_2, aI cy q_mk_cameFrom 48 mk_cameFrom]) (wn := [oX3 mk g q_mk_hedges q_mk_cameFrom mk_x_1, aI cy q_mk_hedges 60 mk_hedges_2, aI cy q_mk_cameFrom 48 mk_cameFrom, oX1 g g_rows g_columns g_a g_b g_cells g_right_3 g_down_3]) (As := [.int ((mk_hedges_2 x4_1.toNatClampNeg) / 4), .int (qrem (mk_hedges_2 x4_1.toNatClampNeg) 4), .int 1]) (rest := []) (q0 := 3) X hK hP hD hS [3] [0, 1, 2] [0, 1, 2, 3] rfl rfl rfl rfl rfl (by decide) rfl rfl rfl (KX1_setOpen q11 _) (cwV 3 hts gX3_joinParts_X1_setOpen rfl rfl rfl hdX1_setOpen ⟨Nat.le_of_ble_eq_true rfl, Nat.le_of_ble_eq_true rfl⟩) rfl rfl rfl hl rfl (Nat.le_of_ble_eq_true rfl) dX3_joinParts_88 (Nat.zero_le _) (Nat.zero_le _) (fun H locs hP hD hS => ?_)
          refine lv_iinc (v := (x4_1 + 1)) (lv' := [(4, .int (x4_1 + 1)), (6, .int (qrem (mk_hedges_2 x4_1.toNatClampNeg) 4)), (5, .int ((mk_hedges_2 x4_1.toNatClampNeg) / 4)), (0, .ref mk), (3, .int r_1)]) hx hb dX3_joinParts_91 hl (k := 4) rfl rfl (by decide) rfl (fun ls hl => ?_)
          refine lv_goto (tgt := 18) hx hb dX3_joinParts_94 (by decide) ?_
          exact hL4 (x4_1 + 1) g_right_3 g_down_3 hf _ _ _ ⟨hP, hD, hS⟩ (lv_sub hl [3, 4, 0] rfl)
theorem inwX3_isNew_X1 : ∀ w ∈ wsX10, w ∈ wsX3_isNew := fun _ h => List.mem_cons_of_mem _ (List.mem_append_right _ h)
theorem inwX3_isNew_X3 : ∀ w ∈ wsX30, w ∈ wsX3_isNew := fun _ h => List.mem_cons_of_mem _ (List.mem_append_left _ (List.mem_append_right _ h))
abbrev rmX3_isNew : Room := { frames := 2, cells := 0, slots := 0, locals := 45 }
theorem hdX3_isNew : yX3_isNew.cls = RX3 ∧ yX3_isNew.cls ≠ "java/lang/invoke/MethodHandle" ∧ yX3_isNew.cls ≠ "java/lang/invoke/VarHandle" ∧ (parseMethodDescriptor yX3_isNew.desc).map (fun d => d.parameters.length) = some 3 := by decide +kernel
set_option maxHeartbeats 4000000 in
set_option maxRecDepth 100000 in
theorem KX3_isNew {l : Launch} {D : va_G} {cy : Nat → ClassId} {mk g q_mk_hedges q_mk_cameFrom : Nat} {mk_x : Int64} {mk_hedges : Nat → Int32} {mk_cameFrom : Nat → Int32} {g_rows : Int32} {g_columns : Int32} {g_a : Int32} {g_b : Int32} {g_cells : Int64} {g_right : Int64} {g_down : Int64} {p1 : Int32} {p2 : Int32} {p3 : Int64} {r : Int32} (hf : fX3_isNew g_cells p1 p2 p3 = r) : CtI l yX3_isNew wsX3_isNew rmX3_isNew D cy [.ref mk, .int p1, .int p2, .long p3] ([oX3 mk g q_mk_hedges q_mk_cameFrom mk_x, aI cy q_mk_hedges 60 mk_hedges, aI cy q_mk_cameFrom 48 mk_cameFrom, oX1 g g_rows g_columns g_a g_b g_cells g_right g_down]) ([oX3 mk g q_mk_hedges q_mk_cameFrom mk_x, aI cy q_mk_hedges 60 mk_hedges, aI cy q_mk_cameFrom 48 mk_cameFrom, oX1 g g_rows g_columns g_a g_b g_cells g_right g_down]) r := by
  refine CtI.of (cc := cX3_isNew) (maxL := 5) (ret := some .boolean) (own := RX3) (by decide) rfl rfl (Nat.le_of_ble_eq_true rfl) ?_
  intro p e s m args below meth c A Q X hQ hK hP hD hS ls hl
  obtain ⟨hx, hb, hml, hown, hts, hr, hlocks, hA, hZ⟩ := id X
  have hl : lv_has ls 5 [(0, .ref mk), (1, .int p1), (2, .int p2), (3, .long p3)] := hl
  unfold fX3_isNew at hf
  have hf := qbb_top hf
  refine lv_aload_n hx hb dX3_isNew_0 rfl (lv_at hl 0 rfl) ?_
  refine va_get (D := D) (ci := 3) (v := .ref g) (C := RX3) (T := TX3) (N := 4) hx hb hts inwX3_isNew_X3 hown hK hP 0 rfl rfl 0 (by decide) (hts (.fieldLink RX3 9 "HedgeWays$Maker" "grid" "LHedgeWays$Grid;") (List.mem_of_getElem? (i := 1) rfl)) (fun _ h9 => h9) rfl dX3_isNew_1 ?_
  refine va_get (D := D) (ci := 1) (v := .long g_cells) (C := RX1) (T := TX1) (N := 7) hx hb hts inwX3_isNew_X1 hown hK hP 3 rfl rfl 4 (by decide) (hts (.fieldLink RX3 80 "HedgeWays$Grid" "cells" "J") (List.mem_of_getElem? (i := 2) rfl)) (fun _ h9 => h9) rfl dX3_isNew_4 ?_
  refine lv_lload_n hx hb dX3_isNew_7 rfl (lv_at hl 3 rfl) ?_
  refine lv_ldc2 hx hb hown (hts (.constantLong RX3 83 (-1)) (List.mem_of_getElem? (i := 3) rfl)) dX3_isNew_8 ?_
  refine lv_lxor hx hb dX3_isNew_11 ?_
  refine lv_land hx hb dX3_isNew_12 ?_
  refine lv_aload_n hx hb dX3_isNew_13 rfl (lv_at hl 0 rfl) ?_
  refine va_get (D := D) (ci := 3) (v := .ref g) (C := RX3) (T := TX3) (N := 4) hx hb hts inwX3_isNew_X3 hown hK hP 0 rfl rfl 0 (by decide) (hts (.fieldLink RX3 9 "HedgeWays$Maker" "grid" "LHedgeWays$Grid;") (List.mem_of_getElem? (i := 1) rfl)) (fun _ h9 => h9) rfl dX3_isNew_14 ?_
  refine lv_iload_n hx hb dX3_isNew_17 rfl (lv_at hl 1 rfl) ?_
  refine lv_iload_n hx hb dX3_isNew_18 rfl (lv_at hl 2 rfl) ?_
  refine ctV_i0 (r := (fX1_beside g_cells p1 p2)) (wc := [oX1 g g_rows g_columns g_a g_b g_cells g_right g_down]) (As := [.int p1, .int p2]) (rest := [.long (g_cells &&& (p3 ^^^ (-1)))]) (q0 := 3) X hK hP hD hS [3] rfl rfl rfl (KX1_beside rfl _) (cwV 2 hts gX3_isNew_X1_beside rfl rfl rfl hdX1_beside ⟨Nat.le_of_ble_eq_true rfl, Nat.le_of_ble_eq_true rfl⟩) rfl rfl rfl hl rfl (Nat.le_of_ble_eq_true rfl) dX3_isNew_19 (Nat.zero_le _) (Nat.zero_le _) (fun H locs hP hS => ?_)
  refine ctS_i0 (r := (fX1_has (g_cells &&& (p3 ^^^ (-1))) (fX1_beside g_cells p1 p2))) (wc := []) (As := [.long (g_cells &&& (p3 ^^^ (-1))), .int (fX1_beside g_cells p1 p2)]) (rest := []) X hK hP hD hS [] rfl rfl rfl (KX1_has rfl _) (va_cwS 2 hts gX3_isNew_X1_has rfl rfl rfl hdX1_has ⟨Nat.le_of_ble_eq_true rfl, Nat.le_of_ble_eq_true rfl⟩) rfl hl rfl (Nat.le_of_ble_eq_true rfl) dX3_isNew_22 (Nat.zero_le _) (Nat.zero_le _) (fun H locs hP hS => ?_)
  cases qbb_ret hf
  exact ct_zret X hQ hK hP hD hS rfl dX3_isNew_25
abbrev rmX3_newSides : Room := { frames := 3, cells := 0, slots := 0, locals := 69 }
theorem hdX3_newSides : yX3_newSides.cls = RX3 ∧ yX3_newSides.cls ≠ "java/lang/invoke/MethodHandle" ∧ yX3_newSides.cls ≠ "java/lang/invoke/VarHandle" ∧ (parseMethodDescriptor yX3_newSides.desc).map (fun d => d.parameters.length) = some 2 := by decide +kernel
set_option maxHeartbeats 4000000 in
set_option maxRecDepth 100000 in
theorem KX3_newSides {l : Launch} {D : va_G} {cy : Nat → ClassId} {mk g q_mk_hedges q_mk_cameFrom : Nat} {mk_x : Int64} {mk_hedges : Nat → Int32} {mk_cameFrom : Nat → Int32} {g_rows : Int32} {g_columns : Int32} {g_a : Int32} {g_b : Int32} {g_cells : Int64} {g_right : Int64} {g_down : Int64} {p1 : Int32} {p2 : Int64} {r : Int32} (hf : fX3_newSides g_cells p1 p2 = some r) : CtI l yX3_newSides wsX3_newSides rmX3_newSides D cy [.ref mk, .int p1, .long p2] ([oX3 mk g q_mk_hedges q_mk_cameFrom mk_x, aI cy q_mk_hedges 60 mk_hedges, aI cy q_mk_cameFrom 48 mk_cameFrom, oX1 g g_rows g_columns g_a g_b g_cells g_right g_down]) ([oX3 mk g q_mk_hedges q_mk_cameFrom mk_x, aI cy q_mk_hedges 60 mk_hedges, aI cy q_mk_cameFrom 48 mk_cameFrom, oX1 g g_rows g_columns g_a g_b g_cells g_right g_down]) r := by
  refine CtI.of (cc := cX3_newSides) (maxL := 6) (ret := some .int) (own := RX3) (by decide) rfl rfl (Nat.le_of_ble_eq_true rfl) ?_
  intro p e s m args below meth c A Q X hQ hK hP hD hS ls hl
  obtain ⟨hx, hb, hml, hown, hts, hr, hlocks, hA, hZ⟩ := id X
  have hl : lv_has ls 6 [(0, .ref mk), (1, .int p1), (2, .long p2)] := hl
  unfold fX3_newSides at hf
  have hf := qob_top hf
  refine lv_iconst (v := 0) hx hb dX3_newSides_0 (by decide) ?_
  refine lv_istore (lv' := [(4, .int 0), (0, .ref mk), (1, .int p1), (2, .long p2)]) hx hb dX3_newSides_1 hl (by decide) rfl (fun ls hl => ?_)
  refine lv_iconst (v := 0) hx hb dX3_newSides_3 (by decide) ?_
  refine lv_istore (lv' := [(5, .int 0), (4, .int 0), (0, .ref mk), (1, .int p1), (2, .long p2)]) hx hb dX3_newSides_4 hl (by decide) rfl (fun ls hl => ?_)
  refine qjoin1 hf (fun (x4_1 : Int32) => ∀ (H : Heap) (locs : List Loc) (ls : Array Slot), ctW D A s ([oX3 mk g q_mk_hedges q_mk_cameFrom mk_x, aI cy q_mk_hedges 60 mk_hedges, aI cy q_mk_cameFrom 48 mk_cameFrom, oX1 g g_rows g_columns g_a g_b g_cells g_right g_down]) H locs → lv_has ls 6 [(4, .int x4_1)] → W p l e rmX3_newSides s m args below meth c H locs 0 0 Q (F0 m 32 ls [])) ?_ ?_
  · intro x4_1 hf H locs ls ⟨hP, hD, hS⟩ hl
    refine lv_iload hx hb dX3_newSides_32 (lv_at hl 0 rfl) ?_
    cases qob_ret hf
    exact ct_iret X hQ hK hP hD hS rfl dX3_newSides_34
  · intro J1 hJ1 hf
    refine qwalk2 (fun (x4_2 : Int32) (x5_1 : Int32) => ∀ (H : Heap) (locs : List Loc) (ls : Array Slot), ctW D A s ([oX3 mk g q_mk_hedges q_mk_cameFrom mk_x, aI cy q_mk_hedges 60 mk_hedges, aI cy q_mk_cameFrom 48 mk_cameFrom, oX1 g g_rows g_columns g_a g_b g_cells g_right g_down]) H locs → lv_has ls 6 [(0, .ref mk), (1, .int p1), (2, .long p2), (4, .int x4_2), (5, .int x5_1)] → W p l e rmX3_newSides s m args below meth c H locs 0 0 Q (F0 m 6 ls [])) ?_ _ (0 : Int32) (0 : Int32) hf _ _ _ ⟨hP, hD, hS⟩ (lv_sub hl [2, 3, 4, 1, 0] rfl)
    intro J2 hL2 x4_2 x5_1 hf H locs ls ⟨hP, hD, hS⟩ hl
    refine lv_iload hx hb dX3_newSides_6 (lv_at hl 4 rfl) ?_
    refine lv_iconst (v := 4) hx hb dX3_newSides_8 (by decide) ?_
    refine lv_icmp_ge (tgt := 32) hx hb dX3_newSides_9 (by decide) (fun c3 => ?_) (fun c3 => ?_)
    · have hf := qob_t hf c3
      have hf := qob_esc hf
      exact hJ1 x4_2 hf _ _ _ ⟨hP, hD, hS⟩ (lv_sub hl [3] rfl)
    · have hf := qob_f hf c3
      refine lv_aload_n hx hb dX3_newSides_12 rfl (lv_at hl 0 rfl) ?_
      refine lv_iload_n hx hb dX3_newSides_13 rfl (lv_at hl 1 rfl) ?_
      refine lv_iload hx hb dX3_newSides_14 (lv_at hl 4 rfl) ?_
      refine lv_lload_n hx hb dX3_newSides_16 rfl (lv_at hl 2 rfl) ?_
      refine ctV_i0 (r := (fX3_isNew g_cells p1 x5_1 p2)) (wc := [oX3 mk g q_mk_hedges q_mk_cameFrom mk_x, aI cy q_mk_hedges 60 mk_hedges, aI cy q_mk_cameFrom 48 mk_cameFrom, oX1 g g_rows g_columns g_a g_b g_cells g_right g_down]) (As := [.int p1, .int x5_1, .long p2]) (rest := []) (q0 := 0) X hK hP hD hS [0, 1, 2, 3] rfl rfl rfl (KX3_isNew rfl _) (cwV 3 hts gX3_newSides_X3_isNew rfl rfl rfl hdX3_isNew ⟨Nat.le_of_ble_eq_true rfl, Nat.le_of_ble_eq_true rfl⟩) rfl rfl rfl hl rfl (Nat.le_of_ble_eq_true rfl) dX3_newSides_17 (Nat.zero_le _) (Nat.zero_le _) (fun H locs hP hS => ?_)
      refine lv_if_eq (tgt := 26) hx hb dX3_newSides_20 (by decide) (fun c4 => ?_) (fun c4 => ?_)
      · have hf := qob_t hf c4
        refine lv_iinc (v := (x5_1 + 1)) (lv' := [(5, .int (x5_1 + 1)), (0, .ref mk), (1, .int p1), (2, .long p2), (4, .int x4_2)]) hx hb dX3_newSides_26 hl (k := 4) rfl rfl (by decide) rfl (fun ls hl => ?_)
        refine lv_goto (tgt := 6) hx hb dX3_newSides_29 (by decide) ?_
        exact hL2 x4_2 (x5_1 + 1) hf _ _ _ ⟨hP, hD, hS⟩ (lv_sub hl [1, 2, 3, 4, 0] rfl)
      · have hf := qob_f hf c4
        refine lv_iinc (v := (x4_2 + 1)) (lv' := [(4, .int (x4_2 + 1)), (0, .ref mk), (1, .int p1), (2, .long p2), (5, .int x5_1)]) hx hb dX3_newSides_23 hl (k := 3) rfl rfl (by decide) rfl (fun ls hl => ?_)
        refine lv_iinc (v := (x5_1 + 1)) (lv' := [(5, .int (x5_1 + 1)), (4, .int (x4_2 + 1)), (0, .ref mk), (1, .int p1), (2, .long p2)]) hx hb dX3_newSides_26 hl (k := 4) rfl rfl (by decide) rfl (fun ls hl => ?_)
        refine lv_goto (tgt := 6) hx hb dX3_newSides_29 (by decide) ?_
        exact hL2 (x4_2 + 1) (x5_1 + 1) hf _ _ _ ⟨hP, hD, hS⟩ (lv_sub hl [2, 3, 4, 1, 0] rfl)
abbrev rmX3_newSide : Room := { frames := 3, cells := 0, slots := 0, locals := 69 }
theorem hdX3_newSide : yX3_newSide.cls = RX3 ∧ yX3_newSide.cls ≠ "java/lang/invoke/MethodHandle" ∧ yX3_newSide.cls ≠ "java/lang/invoke/VarHandle" ∧ (parseMethodDescriptor yX3_newSide.desc).map (fun d => d.parameters.length) = some 3 := by decide +kernel
set_option maxHeartbeats 4000000 in
set_option maxRecDepth 100000 in
theorem KX3_newSide {l : Launch} {D : va_G} {cy : Nat → ClassId} {mk g q_mk_hedges q_mk_cameFrom : Nat} {mk_x : Int64} {mk_hedges : Nat → Int32} {mk_cameFrom : Nat → Int32} {g_rows : Int32} {g_columns : Int32} {g_a : Int32} {g_b : Int32} {g_cells : Int64} {g_right : Int64} {g_down : Int64} {p1 : Int32} {p2 : Int64} {p3 : Int32} {r : Int32} (hf : fX3_newSide g_cells p1 p2 p3 = some r) : CtI l yX3_newSide wsX3_newSide rmX3_newSide D cy [.ref mk, .int p1, .long p2, .int p3] ([oX3 mk g q_mk_hedges q_mk_cameFrom mk_x, aI cy q_mk_hedges 60 mk_hedges, aI cy q_mk_cameFrom 48 mk_cameFrom, oX1 g g_rows g_columns g_a g_b g_cells g_right g_down]) ([oX3 mk g q_mk_hedges q_mk_cameFrom mk_x, aI cy q_mk_hedges 60 mk_hedges, aI cy q_mk_cameFrom 48 mk_cameFrom, oX1 g g_rows g_columns g_a g_b g_cells g_right g_down]) r := by
  refine CtI.of (cc := cX3_newSide) (maxL := 7) (ret := some .int) (own := RX3) (by decide) rfl rfl (Nat.le_of_ble_eq_true rfl) ?_
  intro p e s m args below meth c A Q X hQ hK hP hD hS ls hl
  obtain ⟨hx, hb, hml, hown, hts, hr, hlocks, hA, hZ⟩ := id X
  have hl : lv_has ls 7 [(0, .ref mk), (1, .int p1), (2, .long p2), (4, .int p3)] := hl
  unfold fX3_newSide at hf
  have hf := qob_top hf
  refine lv_iconst (v := 0) hx hb dX3_newSide_0 (by decide) ?_
  refine lv_istore (lv' := [(5, .int 0), (0, .ref mk), (1, .int p1), (2, .long p2), (4, .int p3)]) hx hb dX3_newSide_1 hl (by decide) rfl (fun ls hl => ?_)
  refine lv_iconst (v := 0) hx hb dX3_newSide_3 (by decide) ?_
  refine lv_istore (lv' := [(6, .int 0), (5, .int 0), (0, .ref mk), (1, .int p1), (2, .long p2), (4, .int p3)]) hx hb dX3_newSide_4 hl (by decide) rfl (fun ls hl => ?_)
  refine qjoinE0 hf (∀ (H : Heap) (locs : List Loc) (ls : Array Slot), ctW D A s ([oX3 mk g q_mk_hedges q_mk_cameFrom mk_x, aI cy q_mk_hedges 60 mk_hedges, aI cy q_mk_cameFrom 48 mk_cameFrom, oX1 g g_rows g_columns g_a g_b g_cells g_right g_down]) H locs → lv_has ls 7 [] → W p l e rmX3_newSide s m args below meth c H locs 0 0 Q (F0 m 42 ls [])) ?_ ?_
  · intro  hf H locs ls ⟨hP, hD, hS⟩ hl
    refine lv_iconst (v := 4) hx hb dX3_newSide_42 (by decide) ?_
    cases qob_ret hf
    exact ct_iret X hQ hK hP hD hS rfl dX3_newSide_43
  · intro J1 hJ1 hf
    refine qwalk2 (fun (x5_1 : Int32) (x6_1 : Int32) => ∀ (H : Heap) (locs : List Loc) (ls : Array Slot), ctW D A s ([oX3 mk g q_mk_hedges q_mk_cameFrom mk_x, aI cy q_mk_hedges 60 mk_hedges, aI cy q_mk_cameFrom 48 mk_cameFrom, oX1 g g_rows g_columns g_a g_b g_cells g_right g_down]) H locs → lv_has ls 7 [(0, .ref mk), (1, .int p1), (2, .long p2), (4, .int p3), (5, .int x5_1), (6, .int x6_1)] → W p l e rmX3_newSide s m args below meth c H locs 0 0 Q (F0 m 6 ls [])) ?_ _ (0 : Int32) (0 : Int32) hf _ _ _ ⟨hP, hD, hS⟩ (lv_sub hl [2, 3, 4, 5, 1, 0] rfl)
    intro J2 hL2 x5_1 x6_1 hf H locs ls ⟨hP, hD, hS⟩ hl
    refine lv_iload hx hb dX3_newSide_6 (lv_at hl 5 rfl) ?_
    refine lv_iconst (v := 4) hx hb dX3_newSide_8 (by decide) ?_
    refine lv_icmp_ge (tgt := 42) hx hb dX3_newSide_9 (by decide) (fun c3 => ?_) (fun c3 => ?_)
    · have hf := qob_t hf c3
      have hf := qob_esc hf
      exact hJ1 hf _ _ _ ⟨hP, hD, hS⟩ (lv_sub hl [] rfl)
    · have hf := qob_f hf c3
      refine lv_aload_n hx hb dX3_newSide_12 rfl (lv_at hl 0 rfl) ?_
      refine lv_iload_n hx hb dX3_newSide_13 rfl (lv_at hl 1 rfl) ?_
      refine lv_iload hx hb dX3_newSide_14 (lv_at hl 5 rfl) ?_
      refine lv_lload_n hx hb dX3_newSide_16 rfl (lv_at hl 2 rfl) ?_
      refine ctV_i0 (r := (fX3_isNew g_cells p1 x6_1 p2)) (wc := [oX3 mk g q_mk_hedges q_mk_cameFrom mk_x, aI cy q_mk_hedges 60 mk_hedges, aI cy q_mk_cameFrom 48 mk_cameFrom, oX1 g g_rows g_columns g_a g_b g_cells g_right g_down]) (As := [.int p1, .int x6_1, .long p2]) (rest := []) (q0 := 0) X hK hP hD hS [0, 1, 2, 3] rfl rfl rfl (KX3_isNew rfl _) (cwV 3 hts gX3_newSide_X3_isNew rfl rfl rfl hdX3_isNew ⟨Nat.le_of_ble_eq_true rfl, Nat.le_of_ble_eq_true rfl⟩) rfl rfl rfl hl rfl (Nat.le_of_ble_eq_true rfl) dX3_newSide_17 (Nat.zero_le _) (Nat.zero_le _) (fun H locs hP hS => ?_)
      refine lv_if_eq (tgt := 36) hx hb dX3_newSide_20 (by decide) (fun c4 => ?_) (fun c4 => ?_)
      · have hf := qob_t hf c4
        refine lv_iinc (v := (x6_1 + 1)) (lv' := [(6, .int (x6_1 + 1)), (0, .ref mk), (1, .int p1), (2, .long p2), (4, .int p3), (5, .int x5_1)]) hx hb dX3_newSide_36 hl (k := 5) rfl rfl (by decide) rfl (fun ls hl => ?_)
        refine lv_goto (tgt := 6) hx hb dX3_newSide_39 (by decide) ?_
        exact hL2 x5_1 (x6_1 + 1) hf _ _ _ ⟨hP, hD, hS⟩ (lv_sub hl [1, 2, 3, 4, 5, 0] rfl)
      · have hf := qob_f hf c4
        refine lv_iload hx hb dX3_newSide_23 (lv_at hl 4 rfl) ?_
        refine lv_iload hx hb dX3_newSide_25 (lv_at hl 3 rfl) ?_
        refine lv_icmp_ne (tgt := 33) hx hb dX3_newSide_27 (by decide) (fun c5 => ?_) (fun c5 => ?_)
        · have hf := qob_f hf c5
          refine lv_iinc (v := (x5_1 + 1)) (lv' := [(5, .int (x5_1 + 1)), (0, .ref mk), (1, .int p1), (2, .long p2), (4, .int p3), (6, .int x6_1)]) hx hb dX3_newSide_33 hl (k := 4) rfl rfl (by decide) rfl (fun ls hl => ?_)
          refine lv_iinc (v := (x6_1 + 1)) (lv' := [(6, .int (x6_1 + 1)), (5, .int (x5_1 + 1)), (0, .ref mk), (1, .int p1), (2, .long p2), (4, .int p3)]) hx hb dX3_newSide_36 hl (k := 5) rfl rfl (by decide) rfl (fun ls hl => ?_)
          refine lv_goto (tgt := 6) hx hb dX3_newSide_39 (by decide) ?_
          exact hL2 (x5_1 + 1) (x6_1 + 1) hf _ _ _ ⟨hP, hD, hS⟩ (lv_sub hl [2, 3, 4, 5, 1, 0] rfl)
        · have hf := qob_t hf c5
          refine lv_iload hx hb dX3_newSide_30 (lv_at hl 5 rfl) ?_
          have hf := qob_esc hf
          have hf := qob_esc hf
          cases qob_ret hf
          exact ct_iret X hQ hK hP hD hS rfl dX3_newSide_32
theorem inwX3_wander_X1 : ∀ w ∈ wsX10, w ∈ wsX3_wander := fun _ h => List.mem_cons_of_mem _ (List.mem_append_right _ h)
theorem inwX3_wander_X3 : ∀ w ∈ wsX30, w ∈ wsX3_wander := fun _ h => List.mem_cons_of_mem _ (List.mem_append_left _ (List.mem_append_right _ h))
abbrev rmX3_wander : Room := { frames := 4, cells := 0, slots := 0, locals := 95 }
theorem hdX3_wander : yX3_wander.cls = RX3 ∧ yX3_wander.cls ≠ "java/lang/invoke/MethodHandle" ∧ yX3_wander.cls ≠ "java/lang/invoke/VarHandle" ∧ (parseMethodDescriptor yX3_wander.desc).map (fun d => d.parameters.length) = some 1 := by decide +kernel
set_option maxHeartbeats 4000000 in
set_option maxRecDepth 100000 in
theorem KX3_wander {l : Launch} {D : va_G} {cy : Nat → ClassId} {mk g q_mk_hedges q_mk_cameFrom : Nat} {mk_x : Int64} {mk_hedges : Nat → Int32} {mk_cameFrom : Nat → Int32} {g_rows : Int32} {g_columns : Int32} {g_a : Int32} {g_b : Int32} {g_cells : Int64} {g_right : Int64} {g_down : Int64} {p1 : Int64} {mk_x' : Int64} {mk_cameFrom' : Nat → Int32} {g_right' : Int64} {g_down' : Int64} (hf : fX3_wander mk_x mk_cameFrom g_cells g_right g_down p1 = some (mk_x', mk_cameFrom', g_right', g_down')) : CtV l yX3_wander wsX3_wander rmX3_wander D cy [.ref mk, .long p1] ([oX3 mk g q_mk_hedges q_mk_cameFrom mk_x, aI cy q_mk_hedges 60 mk_hedges, aI cy q_mk_cameFrom 48 mk_cameFrom, oX1 g g_rows g_columns g_a g_b g_cells g_right g_down]) ([oX3 mk g q_mk_hedges q_mk_cameFrom mk_x', aI cy q_mk_hedges 60 mk_hedges, aI cy q_mk_cameFrom 48 mk_cameFrom', oX1 g g_rows g_columns g_a g_b g_cells g_right' g_down']) := by
  refine CtV.of (cc := cX3_wander) (maxL := 10) (ret := none) (own := RX3) (by decide) rfl rfl (Nat.le_of_ble_eq_true rfl) ?_
  intro p e s m args below meth c A Q X hQ hK hP hD hS ls hl
  obtain ⟨hx, hb, hml, hown, hts, hr, hlocks, hA, hZ⟩ := id X
  have hl : lv_has ls 10 [(0, .ref mk), (1, .long p1)] := hl
  unfold fX3_wander at hf
  have hf := qob_top hf
  refine lv_aload_n hx hb dX3_wander_0 rfl (lv_at hl 0 rfl) ?_
  refine lv_lload_n hx hb dX3_wander_1 rfl (lv_at hl 1 rfl) ?_
  refine va_put (D := D) (ci := 3) (v := .long p1) (ty := .long) (C := RX3) (T := TX3) (N := 4) hx hb hts inwX3_wander_X3 tyX3 tyX3_ok nmX3 hown hK hP hD hS 0 rfl rfl 3 (by decide) (hts (.fieldLink RX3 22 "HedgeWays$Maker" "x" "J") (List.mem_of_getElem? (i := 1) rfl)) (fun _ h9 => h9) rfl (tyX3_ok 3 (by decide)) rfl rfl (Nat.le_of_ble_eq_true rfl) dX3_wander_2 (fun H locs hP hD hS => ?_)
  have hP : va_P D vwCl ([oX3 mk g q_mk_hedges q_mk_cameFrom p1, aI cy q_mk_hedges 60 mk_hedges, aI cy q_mk_cameFrom 48 mk_cameFrom, oX1 g g_rows g_columns g_a g_b g_cells g_right g_down]) H := hP
  have hD : va_D A ([oX3 mk g q_mk_hedges q_mk_cameFrom p1, aI cy q_mk_hedges 60 mk_hedges, aI cy q_mk_cameFrom 48 mk_cameFrom, oX1 g g_rows g_columns g_a g_b g_cells g_right g_down]) := hD
  refine lv_iconst (v := 0) hx hb dX3_wander_5 (by decide) ?_
  refine lv_istore_n (lv' := [(3, .int 0), (0, .ref mk), (1, .long p1)]) hx hb dX3_wander_6 rfl hl (by decide) rfl (fun ls hl => ?_)
  refine lv_iload_n hx hb dX3_wander_7 rfl (lv_at hl 0 rfl) ?_
  refine ctS_l0 (r := (fX1_bit 0)) (wc := []) (As := [.int 0]) (rest := []) X hK hP hD hS [] rfl rfl rfl (KX1_bit rfl _) (va_cwS 1 hts gX3_wander_X1_bit rfl rfl rfl hdX1_bit ⟨Nat.le_of_ble_eq_true rfl, Nat.le_of_ble_eq_true rfl⟩) rfl hl rfl (Nat.le_of_ble_eq_true rfl) dX3_wander_8 (Nat.zero_le _) (Nat.zero_le _) (fun H locs hP hS => ?_)
  refine lv_lstore (lv' := [(4, .long (fX1_bit 0)), (3, .int 0), (0, .ref mk), (1, .long p1)]) hx hb dX3_wander_11 hl (by decide) rfl (fun ls hl => ?_)
  refine lv_iconst (v := 0) hx hb dX3_wander_13 (by decide) ?_
  refine lv_istore (lv' := [(6, .int 0), (4, .long (fX1_bit 0)), (3, .int 0), (0, .ref mk), (1, .long p1)]) hx hb dX3_wander_14 hl (by decide) rfl (fun ls hl => ?_)
  refine qjoinE4 hf (fun (mk_x_1 : Int64) (mk_cameFrom_1 : Nat → Int32) (g_right_1 : Int64) (g_down_1 : Int64) => ∀ (H : Heap) (locs : List Loc) (ls : Array Slot), ctW D A s ([oX3 mk g q_mk_hedges q_mk_cameFrom mk_x_1, aI cy q_mk_hedges 60 mk_hedges, aI cy q_mk_cameFrom 48 mk_cameFrom_1, oX1 g g_rows g_columns g_a g_b g_cells g_right_1 g_down_1]) H locs → lv_has ls 10 [] → W p l e rmX3_wander s m args below meth c H locs 0 0 Q (F0 m 138 ls [])) ?_ ?_
  · intro mk_x_1 mk_cameFrom_1 g_right_1 g_down_1 hf H locs ls ⟨hP, hD, hS⟩ hl
    cases qob_ret hf
    exact ct_vret X hQ hK hP hD hS dX3_wander_138
  · intro J1 hJ1 hf
    refine qwalk7 (fun (x3_1 : Int32) (x4_1 : Int64) (x6_1 : Int32) (mk_x_2 : Int64) (mk_cameFrom_2 : Nat → Int32) (g_right_2 : Int64) (g_down_2 : Int64) => ∀ (H : Heap) (locs : List Loc) (ls : Array Slot), ctW D A s ([oX3 mk g q_mk_hedges q_mk_cameFrom mk_x_2, aI cy q_mk_hedges 60 mk_hedges, aI cy q_mk_cameFrom 48 mk_cameFrom_2, oX1 g g_rows g_columns g_a g_b g_cells g_right_2 g_down_2]) H locs → lv_has ls 10 [(0, .ref mk), (3, .int x3_1), (4, .long x4_1), (6, .int x6_1)] → W p l e rmX3_wander s m args below meth c H locs 0 0 Q (F0 m 16 ls [])) ?_ _ (0 : Int32) (fX1_bit 0) (0 : Int32) p1 mk_cameFrom g_right g_down hf _ _ _ ⟨hP, hD, hS⟩ (lv_sub hl [3, 2, 1, 0] rfl)
    intro J2 hL2 x3_1 x4_1 x6_1 mk_x_2 mk_cameFrom_2 g_right_2 g_down_2 hf H locs ls ⟨hP, hD, hS⟩ hl
    refine lv_iload hx hb dX3_wander_16 (lv_at hl 3 rfl) ?_
    refine lv_bipush (v := 72) hx hb dX3_wander_18 (by decide) ?_
    refine lv_icmp_ge (tgt := 138) hx hb dX3_wander_20 (by decide) (fun c3 => ?_) (fun c3 => ?_)
    · have hf := qob_t hf c3
      have hf := qob_esc hf
      exact hJ1 mk_x_2 mk_cameFrom_2 g_right_2 g_down_2 hf _ _ _ ⟨hP, hD, hS⟩ (lv_sub hl [] rfl)
    · have hf := qob_f hf c3
      refine lv_aload_n hx hb dX3_wander_23 rfl (lv_at hl 0 rfl) ?_
      refine lv_iload_n hx hb dX3_wander_24 rfl (lv_at hl 1 rfl) ?_
      refine lv_lload hx hb dX3_wander_25 (lv_at hl 2 rfl) ?_
      obtain ⟨r_1, q4, hf⟩ := qcall1 hf
      refine ctV_i0 (r := r_1) (wc := [oX3 mk g q_mk_hedges q_mk_cameFrom mk_x_2, aI cy q_mk_hedges 60 mk_hedges, aI cy q_mk_cameFrom 48 mk_cameFrom_2, oX1 g g_rows g_columns g_a g_b g_cells g_right_2 g_down_2]) (As := [.int x3_1, .long x4_1]) (rest := []) (q0 := 0) X hK hP hD hS [0, 1, 2, 3] rfl rfl rfl (KX3_newSides q4 _) (cwV 2 hts gX3_wander_X3_newSides rfl rfl rfl hdX3_newSides ⟨Nat.le_of_ble_eq_true rfl, Nat.le_of_ble_eq_true rfl⟩) rfl rfl rfl hl rfl (Nat.le_of_ble_eq_true rfl) dX3_wander_27 (Nat.zero_le _) (Nat.zero_le _) (fun H locs hP hS => ?_)
      refine lv_istore (lv' := [(7, .int r_1), (0, .ref mk), (3, .int x3_1), (4, .long x4_1), (6, .int x6_1)]) hx hb dX3_wander_30 hl (by decide) rfl (fun ls hl => ?_)
      refine lv_iload hx hb dX3_wander_32 (lv_at hl 0 rfl) ?_
      refine lv_if_le (tgt := 106) hx hb dX3_wander_34 (by decide) (fun c5 => ?_) (fun c5 => ?_)
      · have hf := qob_t hf c5
        refine lv_iload_n hx hb dX3_wander_106 rfl (lv_at hl 2 rfl) ?_
        refine lv_if_eq (tgt := 124) hx hb dX3_wander_107 (by decide) (fun c6 => ?_) (fun c6 => ?_)
        · have hf := qob_t hf c6
          have hf := qob_esc hf
          have hf := qob_esc hf
          cases qob_ret hf
          exact ct_vret X hQ hK hP hD hS dX3_wander_124
        · have hf := qob_f hf c6
          refine lv_aload_n hx hb dX3_wander_110 rfl (lv_at hl 1 rfl) ?_
          refine va_get (D := D) (ci := 3) (v := .ref g) (C := RX3) (T := TX3) (N := 4) hx hb hts inwX3_wander_X3 hown hK hP 0 rfl rfl 0 (by decide) (hts (.fieldLink RX3 9 "HedgeWays$Maker" "grid" "LHedgeWays$Grid;") (List.mem_of_getElem? (i := 2) rfl)) (fun _ h9 => h9) rfl dX3_wander_111 ?_
          refine va_get (D := D) (ci := 1) (v := .long g_cells) (C := RX1) (T := TX1) (N := 7) hx hb hts inwX3_wander_X1 hown hK hP 3 rfl rfl 4 (by decide) (hts (.fieldLink RX3 80 "HedgeWays$Grid" "cells" "J") (List.mem_of_getElem? (i := 4) rfl)) (fun _ h9 => h9) rfl dX3_wander_114 ?_
          refine lv_iload_n hx hb dX3_wander_117 rfl (lv_at hl 2 rfl) ?_
          refine ctS_i0 (r := (fX1_has g_cells x3_1)) (wc := []) (As := [.long g_cells, .int x3_1]) (rest := []) X hK hP hD hS [] rfl rfl rfl (KX1_has rfl _) (va_cwS 2 hts gX3_wander_X1_has rfl rfl rfl hdX1_has ⟨Nat.le_of_ble_eq_true rfl, Nat.le_of_ble_eq_true rfl⟩) rfl hl rfl (Nat.le_of_ble_eq_true rfl) dX3_wander_118 (Nat.zero_le _) (Nat.zero_le _) (fun H locs hP hS => ?_)
          refine lv_if_ne (tgt := 125) hx hb dX3_wander_121 (by decide) (fun c7 => ?_) (fun c7 => ?_)
          · have hf := qob_f hf c7
            refine lv_aload_n hx hb dX3_wander_125 rfl (lv_at hl 1 rfl) ?_
            refine va_get (D := D) (ci := 3) (v := .ref q_mk_cameFrom) (C := RX3) (T := TX3) (N := 4) hx hb hts inwX3_wander_X3 hown hK hP 0 rfl rfl 2 (by decide) (hts (.fieldLink RX3 19 "HedgeWays$Maker" "cameFrom" "[I") (List.mem_of_getElem? (i := 3) rfl)) (fun _ h9 => h9) rfl dX3_wander_126 ?_
            refine lv_iload_n hx hb dX3_wander_129 rfl (lv_at hl 2 rfl) ?_
            obtain ⟨i8, hf⟩ := qob_gd hf
            refine va_iald hx hb hK hP 2 0 rfl rfl i8 dX3_wander_130 ?_
            refine lv_istore_n (lv' := [(3, .int (mk_cameFrom_2 x3_1.toNatClampNeg)), (7, .int r_1), (0, .ref mk), (4, .long x4_1), (6, .int x6_1)]) hx hb dX3_wander_131 rfl hl (by decide) rfl (fun ls hl => ?_)
            refine lv_iinc (v := (x6_1 + 1)) (lv' := [(6, .int (x6_1 + 1)), (3, .int (mk_cameFrom_2 x3_1.toNatClampNeg)), (7, .int r_1), (0, .ref mk), (4, .long x4_1)]) hx hb dX3_wander_132 hl (k := 4) rfl rfl (by decide) rfl (fun ls hl => ?_)
            refine lv_goto (tgt := 16) hx hb dX3_wander_135 (by decide) ?_
            exact hL2 (mk_cameFrom_2 x3_1.toNatClampNeg) x4_1 (x6_1 + 1) mk_x_2 mk_cameFrom_2 g_right_2 g_down_2 hf _ _ _ ⟨hP, hD, hS⟩ (lv_sub hl [3, 1, 4, 0] rfl)
          · have hf := qob_t hf c7
            have hf := qob_esc hf
            have hf := qob_esc hf
            cases qob_ret hf
            exact ct_vret X hQ hK hP hD hS dX3_wander_124
      · have hf := qob_f hf c5
        refine lv_aload_n hx hb dX3_wander_37 rfl (lv_at hl 1 rfl) ?_
        refine lv_iload_n hx hb dX3_wander_38 rfl (lv_at hl 2 rfl) ?_
        refine lv_lload hx hb dX3_wander_39 (lv_at hl 3 rfl) ?_
        refine lv_aload_n hx hb dX3_wander_41 rfl (lv_at hl 1 rfl) ?_
        refine lv_iload hx hb dX3_wander_42 (lv_at hl 0 rfl) ?_
        obtain ⟨r_2, mk_x_3, q9, hf⟩ := qcall2 hf
        refine ctV_i (r := r_2) (wc := [oX3 mk g q_mk_hedges q_mk_cameFrom mk_x_2, aI cy q_mk_hedges 60 mk_hedges, aI cy q_mk_cameFrom 48 mk_cameFrom_2, oX1 g g_rows g_columns g_a g_b g_cells g_right_2 g_down_2]) (w1 := [oX3 mk g q_mk_hedges q_mk_cameFrom mk_x_3, aI cy q_mk_hedges 60 mk_hedges, aI cy q_mk_cameFrom 48 mk_cameFrom_2, oX1 g g_rows g_columns g_a g_b g_cells g_right_2 g_down_2]) (wr := []) (wn := [oX3 mk g q_mk_hedges q_mk_cameFrom mk_x_3, aI cy q_mk_hedges 60 mk_hedges, aI cy q_mk_cameFrom 48 mk_cameFrom_2, oX1 g g_rows g_columns g_a g_b g_cells g_right_2 g_down_2]) (As := [.int r_1]) (rest := [.long x4_1, .int x3_1, .ref mk]) (q0 := 0) X hK hP hD hS [0, 1, 2, 3] [] [0, 1, 2, 3] rfl rfl rfl rfl rfl (by decide) rfl rfl rfl (KX3_draw q9 _) (cwV 1 hts gX3_wander_X3_draw rfl rfl rfl hdX3_draw ⟨Nat.le_of_ble_eq_true rfl, Nat.le_of_ble_eq_true rfl⟩) rfl rfl rfl hl rfl (Nat.le_of_ble_eq_true rfl) dX3_wander_44 (Nat.zero_le _) (Nat.zero_le _) (fun H locs hP hD hS => ?_)
        obtain ⟨r_3, q10, hf⟩ := qcall1 hf
        refine ctV_i0 (r := r_3) (wc := [oX3 mk g q_mk_hedges q_mk_cameFrom mk_x_3, aI cy q_mk_hedges 60 mk_hedges, aI cy q_mk_cameFrom 48 mk_cameFrom_2, oX1 g g_rows g_columns g_a g_b g_cells g_right_2 g_down_2]) (As := [.int x3_1, .long x4_1, .int r_2]) (rest := []) (q0 := 0) X hK hP hD hS [0, 1, 2, 3] rfl rfl rfl (KX3_newSide q10 _) (cwV 3 hts gX3_wander_X3_newSide rfl rfl rfl hdX3_newSide ⟨Nat.le_of_ble_eq_true rfl, Nat.le_of_ble_eq_true rfl⟩) rfl rfl rfl hl rfl (Nat.le_of_ble_eq_true rfl) dX3_wander_47 (Nat.zero_le _) (Nat.zero_le _) (fun H locs hP hS => ?_)
        refine lv_istore (lv' := [(8, .int r_3), (7, .int r_1), (0, .ref mk), (3, .int x3_1), (4, .long x4_1), (6, .int x6_1)]) hx hb dX3_wander_50 hl (by decide) rfl (fun ls hl => ?_)
        refine lv_aload_n hx hb dX3_wander_52 rfl (lv_at hl 2 rfl) ?_
        refine va_get (D := D) (ci := 3) (v := .ref g) (C := RX3) (T := TX3) (N := 4) hx hb hts inwX3_wander_X3 hown hK hP 0 rfl rfl 0 (by decide) (hts (.fieldLink RX3 9 "HedgeWays$Maker" "grid" "LHedgeWays$Grid;") (List.mem_of_getElem? (i := 2) rfl)) (fun _ h9 => h9) rfl dX3_wander_53 ?_
        refine lv_iload_n hx hb dX3_wander_56 rfl (lv_at hl 3 rfl) ?_
        refine lv_iload hx hb dX3_wander_57 (lv_at hl 0 rfl) ?_
        refine ctV_i0 (r := (fX1_beside g_cells x3_1 r_3)) (wc := [oX1 g g_rows g_columns g_a g_b g_cells g_right_2 g_down_2]) (As := [.int x3_1, .int r_3]) (rest := []) (q0 := 3) X hK hP hD hS [3] rfl rfl rfl (KX1_beside rfl _) (cwV 2 hts gX3_wander_X1_beside rfl rfl rfl hdX1_beside ⟨Nat.le_of_ble_eq_true rfl, Nat.le_of_ble_eq_true rfl⟩) rfl rfl rfl hl rfl (Nat.le_of_ble_eq_true rfl) dX3_wander_59 (Nat.zero_le _) (Nat.zero_le _) (fun H locs hP hS => ?_)
        refine lv_istore (lv' := [(9, .int (fX1_beside g_cells x3_1 r_3)), (8, .int r_3), (7, .int r_1), (0, .ref mk), (3, .int x3_1), (4, .long x4_1), (6, .int x6_1)]) hx hb dX3_wander_62 hl (by decide) rfl (fun ls hl => ?_)
        refine lv_iload hx hb dX3_wander_64 (lv_at hl 0 rfl) ?_
        refine lv_iconst (v := (-1)) hx hb dX3_wander_66 (by decide) ?_
        refine lv_icmp_ne (tgt := 71) hx hb dX3_wander_67 (by decide) (fun c11 => ?_) (fun c11 => ?_)
        · have hf := qob_f hf c11
          refine lv_aload_n hx hb dX3_wander_71 rfl (lv_at hl 3 rfl) ?_
          refine va_get (D := D) (ci := 3) (v := .ref g) (C := RX3) (T := TX3) (N := 4) hx hb hts inwX3_wander_X3 hown hK hP 0 rfl rfl 0 (by decide) (hts (.fieldLink RX3 9 "HedgeWays$Maker" "grid" "LHedgeWays$Grid;") (List.mem_of_getElem? (i := 2) rfl)) (fun _ h9 => h9) rfl dX3_wander_72 ?_
          refine lv_iload_n hx hb dX3_wander_75 rfl (lv_at hl 4 rfl) ?_
          refine lv_iload hx hb dX3_wander_76 (lv_at hl 1 rfl) ?_
          refine lv_iconst (v := 1) hx hb dX3_wander_78 (by decide) ?_
          obtain ⟨g_right_3, g_down_3, q12, hf⟩ := qcallT2 hf
          refine ctV_v (wc := [oX1 g g_rows g_columns g_a g_b g_cells g_right_2 g_down_2]) (w1 := [oX1 g g_rows g_columns g_a g_b g_cells g_right_3 g_down_3]) (wr := [oX3 mk g q_mk_hedges q_mk_cameFrom mk_x_3, aI cy q_mk_hedges 60 mk_hedges, aI cy q_mk_cameFrom 48 mk_cameFrom_2]) (wn := [oX3 mk g q_mk_hedges q_mk_cameFrom mk_x_3, aI cy q_mk_hedges 60 mk_hedges, aI cy q_mk_cameFrom 48 mk_cameFrom_2, oX1 g g_rows g_columns g_a g_b g_cells g_right_3 g_down_3]) (As := [.int x3_1, .int r_3, .int 1]) (rest := []) (q0 := 3) X hK hP hD hS [3] [0, 1, 2] [0, 1, 2, 3] rfl rfl rfl rfl rfl (by decide) rfl rfl rfl (KX1_setOpen q12 _) (cwV 3 hts gX3_wander_X1_setOpen rfl rfl rfl hdX1_setOpen ⟨Nat.le_of_ble_eq_true rfl, Nat.le_of_ble_eq_true rfl⟩) rfl rfl rfl hl rfl (Nat.le_of_ble_eq_true rfl) dX3_wander_79 (Nat.zero_le _) (Nat.zero_le _) (fun H locs hP hD hS => ?_)
          refine lv_aload_n hx hb dX3_wander_82 rfl (lv_at hl 3 rfl) ?_
          refine va_get (D := D) (ci := 3) (v := .ref q_mk_cameFrom) (C := RX3) (T := TX3) (N := 4) hx hb hts inwX3_wander_X3 hown hK hP 0 rfl rfl 2 (by decide) (hts (.fieldLink RX3 19 "HedgeWays$Maker" "cameFrom" "[I") (List.mem_of_getElem? (i := 3) rfl)) (fun _ h9 => h9) rfl dX3_wander_83 ?_
          refine lv_iload hx hb dX3_wander_86 (lv_at hl 0 rfl) ?_
          refine lv_iload_n hx hb dX3_wander_88 rfl (lv_at hl 4 rfl) ?_
          obtain ⟨i13, hf⟩ := qob_gd hf
          obtain ⟨mk_cameFrom_3, e14⟩ : ∃ z, z = (upd mk_cameFrom_2 ((fX1_beside g_cells x3_1 r_3)).toNatClampNeg x3_1) := ⟨_, rfl⟩
          have hf := qob_bd hf e14
          refine va_iast hx hb hK hP hD hS 2 0 rfl rfl i13 dX3_wander_89 (fun H locs hP hD hS => ?_)
          have hP : va_P D vwCl ([oX3 mk g q_mk_hedges q_mk_cameFrom mk_x_3, aI cy q_mk_hedges 60 mk_hedges, aI cy q_mk_cameFrom 48 mk_cameFrom_3, oX1 g g_rows g_columns g_a g_b g_cells g_right_3 g_down_3]) H := by rw [e14]; exact hP
          have hD : va_D A ([oX3 mk g q_mk_hedges q_mk_cameFrom mk_x_3, aI cy q_mk_hedges 60 mk_hedges, aI cy q_mk_cameFrom 48 mk_cameFrom_3, oX1 g g_rows g_columns g_a g_b g_cells g_right_3 g_down_3]) := by rw [e14]; exact hD
          refine lv_lload hx hb dX3_wander_90 (lv_at hl 5 rfl) ?_
          refine lv_iload hx hb dX3_wander_92 (lv_at hl 0 rfl) ?_
          refine ctS_l0 (r := (fX1_bit (fX1_beside g_cells x3_1 r_3))) (wc := []) (As := [.int (fX1_beside g_cells x3_1 r_3)]) (rest := [.long x4_1]) X hK hP hD hS [] rfl rfl rfl (KX1_bit rfl _) (va_cwS 1 hts gX3_wander_X1_bit rfl rfl rfl hdX1_bit ⟨Nat.le_of_ble_eq_true rfl, Nat.le_of_ble_eq_true rfl⟩) rfl hl rfl (Nat.le_of_ble_eq_true rfl) dX3_wander_94 (Nat.zero_le _) (Nat.zero_le _) (fun H locs hP hS => ?_)
          refine lv_lor hx hb dX3_wander_97 ?_
          refine lv_topl (fun x4_2 e15 => ?_)
          have hf := qob_bd hf e15
          refine lv_lstore (lv' := [(4, .long x4_2), (9, .int (fX1_beside g_cells x3_1 r_3)), (8, .int r_3), (7, .int r_1), (0, .ref mk), (3, .int x3_1), (6, .int x6_1)]) hx hb dX3_wander_98 hl (by decide) rfl (fun ls hl => ?_)
          refine lv_iload hx hb dX3_wander_100 (lv_at hl 1 rfl) ?_
          refine lv_istore_n (lv' := [(3, .int (fX1_beside g_cells x3_1 r_3)), (4, .long x4_2), (9, .int (fX1_beside g_cells x3_1 r_3)), (8, .int r_3), (7, .int r_1), (0, .ref mk), (6, .int x6_1)]) hx hb dX3_wander_102 rfl hl (by decide) rfl (fun ls hl => ?_)
          refine lv_goto (tgt := 132) hx hb dX3_wander_103 (by decide) ?_
          refine lv_iinc (v := (x6_1 + 1)) (lv' := [(6, .int (x6_1 + 1)), (3, .int (fX1_beside g_cells x3_1 r_3)), (4, .long x4_2), (9, .int (fX1_beside g_cells x3_1 r_3)), (8, .int r_3), (7, .int r_1), (0, .ref mk)]) hx hb dX3_wander_132 hl (k := 6) rfl rfl (by decide) rfl (fun ls hl => ?_)
          refine lv_goto (tgt := 16) hx hb dX3_wander_135 (by decide) ?_
          exact hL2 (fX1_beside g_cells x3_1 r_3) x4_2 (x6_1 + 1) mk_x_3 mk_cameFrom_3 g_right_3 g_down_3 hf _ _ _ ⟨hP, hD, hS⟩ (lv_sub hl [6, 1, 2, 0] rfl)
        · have hf := qob_t hf c11
          have hf := qob_esc hf
          have hf := qob_esc hf
          cases qob_ret hf
          exact ct_vret X hQ hK hP hD hS dX3_wander_70
theorem inwX4_waysInto_X4 : ∀ w ∈ wsX40, w ∈ wsX4_waysInto := fun _ h => List.mem_cons_of_mem _ (List.mem_append_left _ (List.mem_append_right _ h))
abbrev rmX4_waysInto : Room := { frames := 3, cells := 0, slots := 0, locals := 67 }
theorem hdX4_waysInto : yX4_waysInto.cls = RX4 ∧ yX4_waysInto.cls ≠ "java/lang/invoke/MethodHandle" ∧ yX4_waysInto.cls ≠ "java/lang/invoke/VarHandle" ∧ (parseMethodDescriptor yX4_waysInto.desc).map (fun d => d.parameters.length) = some 2 := by decide +kernel
set_option maxHeartbeats 4000000 in
set_option maxRecDepth 100000 in
theorem KX4_waysInto {l : Launch} {D : va_G} {cy : Nat → ClassId} {ro g q_ro_within q_ro_counts : Nat} {ro_within : Nat → Int64} {ro_counts : Nat → Int64} {g_rows : Int32} {g_columns : Int32} {g_a : Int32} {g_b : Int32} {g_cells : Int64} {g_right : Int64} {g_down : Int64} {p1 : Int32} {p2 : Int64} {r : Int64} (hf : fX4_waysInto ro_counts g_cells g_right g_down p1 p2 = some r) : CtL l yX4_waysInto wsX4_waysInto rmX4_waysInto D cy [.ref ro, .int p1, .long p2] ([oX4 ro g q_ro_within q_ro_counts, aJ cy q_ro_within 36 ro_within, aJ cy q_ro_counts 48 ro_counts, oX1 g g_rows g_columns g_a g_b g_cells g_right g_down]) ([oX4 ro g q_ro_within q_ro_counts, aJ cy q_ro_within 36 ro_within, aJ cy q_ro_counts 48 ro_counts, oX1 g g_rows g_columns g_a g_b g_cells g_right g_down]) r := by
  refine CtL.of (cc := cX4_waysInto) (maxL := 8) (ret := some .long) (own := RX4) (by decide) rfl rfl (Nat.le_of_ble_eq_true rfl) ?_
  intro p e s m args below meth c A Q X hQ hK hP hD hS ls hl
  obtain ⟨hx, hb, hml, hown, hts, hr, hlocks, hA, hZ⟩ := id X
  have hl : lv_has ls 8 [(0, .ref ro), (1, .int p1), (2, .long p2)] := hl
  unfold fX4_waysInto at hf
  have hf := qob_top hf
  refine lv_lconst (v := 0) hx hb dX4_waysInto_0 (by decide) ?_
  refine lv_lstore (lv' := [(4, .long 0), (0, .ref ro), (1, .int p1), (2, .long p2)]) hx hb dX4_waysInto_1 hl (by decide) rfl (fun ls hl => ?_)
  refine lv_iconst (v := 0) hx hb dX4_waysInto_3 (by decide) ?_
  refine lv_istore (lv' := [(6, .int 0), (4, .long 0), (0, .ref ro), (1, .int p1), (2, .long p2)]) hx hb dX4_waysInto_4 hl (by decide) rfl (fun ls hl => ?_)
  refine qjoin1 hf (fun (x4_1 : Int64) => ∀ (H : Heap) (locs : List Loc) (ls : Array Slot), ctW D A s ([oX4 ro g q_ro_within q_ro_counts, aJ cy q_ro_within 36 ro_within, aJ cy q_ro_counts 48 ro_counts, oX1 g g_rows g_columns g_a g_b g_cells g_right g_down]) H locs → lv_has ls 8 [(4, .long x4_1)] → W p l e rmX4_waysInto s m args below meth c H locs 0 0 Q (F0 m 57 ls [])) ?_ ?_
  · intro x4_1 hf H locs ls ⟨hP, hD, hS⟩ hl
    refine lv_lload hx hb dX4_waysInto_57 (lv_at hl 0 rfl) ?_
    cases qob_ret hf
    exact ct_lret X hQ hK hP hD hS rfl dX4_waysInto_59
  · intro J1 hJ1 hf
    refine qwalk2 (fun (x4_2 : Int64) (x6_1 : Int32) => ∀ (H : Heap) (locs : List Loc) (ls : Array Slot), ctW D A s ([oX4 ro g q_ro_within q_ro_counts, aJ cy q_ro_within 36 ro_within, aJ cy q_ro_counts 48 ro_counts, oX1 g g_rows g_columns g_a g_b g_cells g_right g_down]) H locs → lv_has ls 8 [(0, .ref ro), (1, .int p1), (2, .long p2), (4, .long x4_2), (6, .int x6_1)] → W p l e rmX4_waysInto s m args below meth c H locs 0 0 Q (F0 m 6 ls [])) ?_ _ (0 : Int64) (0 : Int32) hf _ _ _ ⟨hP, hD, hS⟩ (lv_sub hl [2, 3, 4, 1, 0] rfl)
    intro J2 hL2 x4_2 x6_1 hf H locs ls ⟨hP, hD, hS⟩ hl
    refine lv_iload hx hb dX4_waysInto_6 (lv_at hl 4 rfl) ?_
    refine lv_iconst (v := 4) hx hb dX4_waysInto_8 (by decide) ?_
    refine lv_icmp_ge (tgt := 57) hx hb dX4_waysInto_9 (by decide) (fun c3 => ?_) (fun c3 => ?_)
    · have hf := qob_t hf c3
      have hf := qob_esc hf
      exact hJ1 x4_2 hf _ _ _ ⟨hP, hD, hS⟩ (lv_sub hl [3] rfl)
    · have hf := qob_f hf c3
      refine lv_aload_n hx hb dX4_waysInto_12 rfl (lv_at hl 0 rfl) ?_
      refine va_get (D := D) (ci := 4) (v := .ref g) (C := RX4) (T := TX4) (N := 3) hx hb hts inwX4_waysInto_X4 hown hK hP 0 rfl rfl 0 (by decide) (hts (.fieldLink RX4 9 "HedgeWays$Routes" "grid" "LHedgeWays$Grid;") (List.mem_of_getElem? (i := 1) rfl)) (fun _ h9 => h9) rfl dX4_waysInto_13 ?_
      refine lv_iload_n hx hb dX4_waysInto_16 rfl (lv_at hl 1 rfl) ?_
      refine lv_iload hx hb dX4_waysInto_17 (lv_at hl 4 rfl) ?_
      refine ctV_i0 (r := (fX1_neighbour g_cells g_right g_down p1 x6_1)) (wc := [oX1 g g_rows g_columns g_a g_b g_cells g_right g_down]) (As := [.int p1, .int x6_1]) (rest := []) (q0 := 3) X hK hP hD hS [3] rfl rfl rfl (KX1_neighbour rfl _) (cwV 2 hts gX4_waysInto_X1_neighbour rfl rfl rfl hdX1_neighbour ⟨Nat.le_of_ble_eq_true rfl, Nat.le_of_ble_eq_true rfl⟩) rfl rfl rfl hl rfl (Nat.le_of_ble_eq_true rfl) dX4_waysInto_19 (Nat.zero_le _) (Nat.zero_le _) (fun H locs hP hS => ?_)
      refine lv_topi (fun x7_1 e4 => ?_)
      have hf := qob_bd hf e4
      refine lv_istore (lv' := [(7, .int x7_1), (0, .ref ro), (1, .int p1), (2, .long p2), (4, .long x4_2), (6, .int x6_1)]) hx hb dX4_waysInto_22 hl (by decide) rfl (fun ls hl => ?_)
      refine lv_iload hx hb dX4_waysInto_24 (lv_at hl 0 rfl) ?_
      refine lv_iconst (v := (-1)) hx hb dX4_waysInto_26 (by decide) ?_
      refine lv_icmp_eq (tgt := 51) hx hb dX4_waysInto_27 (by decide) (fun c5 => ?_) (fun c5 => ?_)
      · have hf := qob_t hf c5
        refine lv_iinc (v := (x6_1 + 1)) (lv' := [(6, .int (x6_1 + 1)), (7, .int x7_1), (0, .ref ro), (1, .int p1), (2, .long p2), (4, .long x4_2)]) hx hb dX4_waysInto_51 hl (k := 5) rfl rfl (by decide) rfl (fun ls hl => ?_)
        refine lv_goto (tgt := 6) hx hb dX4_waysInto_54 (by decide) ?_
        exact hL2 x4_2 (x6_1 + 1) hf _ _ _ ⟨hP, hD, hS⟩ (lv_sub hl [2, 3, 4, 5, 0] rfl)
      · have hf := qob_f hf c5
        refine lv_lload_n hx hb dX4_waysInto_30 rfl (lv_at hl 3 rfl) ?_
        refine lv_iload hx hb dX4_waysInto_31 (lv_at hl 0 rfl) ?_
        refine ctS_i0 (r := (fX1_has p2 x7_1)) (wc := []) (As := [.long p2, .int x7_1]) (rest := []) X hK hP hD hS [] rfl rfl rfl (KX1_has rfl _) (va_cwS 2 hts gX4_waysInto_X1_has rfl rfl rfl hdX1_has ⟨Nat.le_of_ble_eq_true rfl, Nat.le_of_ble_eq_true rfl⟩) rfl hl rfl (Nat.le_of_ble_eq_true rfl) dX4_waysInto_33 (Nat.zero_le _) (Nat.zero_le _) (fun H locs hP hS => ?_)
        refine lv_if_eq (tgt := 51) hx hb dX4_waysInto_36 (by decide) (fun c6 => ?_) (fun c6 => ?_)
        · have hf := qob_t hf c6
          refine lv_iinc (v := (x6_1 + 1)) (lv' := [(6, .int (x6_1 + 1)), (7, .int x7_1), (0, .ref ro), (1, .int p1), (2, .long p2), (4, .long x4_2)]) hx hb dX4_waysInto_51 hl (k := 5) rfl rfl (by decide) rfl (fun ls hl => ?_)
          refine lv_goto (tgt := 6) hx hb dX4_waysInto_54 (by decide) ?_
          exact hL2 x4_2 (x6_1 + 1) hf _ _ _ ⟨hP, hD, hS⟩ (lv_sub hl [2, 3, 4, 5, 0] rfl)
        · have hf := qob_f hf c6
          refine lv_lload hx hb dX4_waysInto_39 (lv_at hl 4 rfl) ?_
          refine lv_aload_n hx hb dX4_waysInto_41 rfl (lv_at hl 1 rfl) ?_
          refine va_get (D := D) (ci := 4) (v := .ref q_ro_counts) (C := RX4) (T := TX4) (N := 3) hx hb hts inwX4_waysInto_X4 hown hK hP 0 rfl rfl 2 (by decide) (hts (.fieldLink RX4 19 "HedgeWays$Routes" "counts" "[J") (List.mem_of_getElem? (i := 2) rfl)) (fun _ h9 => h9) rfl dX4_waysInto_42 ?_
          refine lv_iload hx hb dX4_waysInto_45 (lv_at hl 0 rfl) ?_
          obtain ⟨i7, hf⟩ := qob_gd hf
          refine va_lald hx hb hK hP 2 1 rfl rfl i7 dX4_waysInto_47 ?_
          refine lv_ladd hx hb dX4_waysInto_48 ?_
          refine lv_lstore (lv' := [(4, .long (x4_2 + (ro_counts x7_1.toNatClampNeg))), (7, .int x7_1), (0, .ref ro), (1, .int p1), (2, .long p2), (6, .int x6_1)]) hx hb dX4_waysInto_49 hl (by decide) rfl (fun ls hl => ?_)
          refine lv_iinc (v := (x6_1 + 1)) (lv' := [(6, .int (x6_1 + 1)), (4, .long (x4_2 + (ro_counts x7_1.toNatClampNeg))), (7, .int x7_1), (0, .ref ro), (1, .int p1), (2, .long p2)]) hx hb dX4_waysInto_51 hl (k := 5) rfl rfl (by decide) rfl (fun ls hl => ?_)
          refine lv_goto (tgt := 6) hx hb dX4_waysInto_54 (by decide) ?_
          exact hL2 (x4_2 + (ro_counts x7_1.toNatClampNeg)) (x6_1 + 1) hf _ _ _ ⟨hP, hD, hS⟩ (lv_sub hl [3, 4, 5, 1, 0] rfl)
theorem inwX4_shortestWays_X1 : ∀ w ∈ wsX10, w ∈ wsX4_shortestWays := fun _ h => List.mem_cons_of_mem _ (List.mem_append_right _ h)
theorem inwX4_shortestWays_X4 : ∀ w ∈ wsX40, w ∈ wsX4_shortestWays := fun _ h => List.mem_cons_of_mem _ (List.mem_append_left _ (List.mem_append_right _ h))
abbrev rmX4_shortestWays : Room := { frames := 4, cells := 0, slots := 0, locals := 94 }
theorem hdX4_shortestWays : yX4_shortestWays.cls = RX4 ∧ yX4_shortestWays.cls ≠ "java/lang/invoke/MethodHandle" ∧ yX4_shortestWays.cls ≠ "java/lang/invoke/VarHandle" ∧ (parseMethodDescriptor yX4_shortestWays.desc).map (fun d => d.parameters.length) = some 2 := by decide +kernel
set_option maxHeartbeats 4000000 in
set_option maxRecDepth 100000 in
theorem KX4_shortestWays {l : Launch} {D : va_G} {cy : Nat → ClassId} {ro g q_ro_within q_ro_counts : Nat} {ro_within : Nat → Int64} {ro_counts : Nat → Int64} {g_rows : Int32} {g_columns : Int32} {g_a : Int32} {g_b : Int32} {g_cells : Int64} {g_right : Int64} {g_down : Int64} {p1 : Int32} {p2 : Int32} {r : Int64} {ro_counts' : Nat → Int64} (hf : fX4_shortestWays ro_counts g_cells g_right g_down p1 p2 = some (r, ro_counts')) : CtL l yX4_shortestWays wsX4_shortestWays rmX4_shortestWays D cy [.ref ro, .int p1, .int p2] ([oX4 ro g q_ro_within q_ro_counts, aJ cy q_ro_within 36 ro_within, aJ cy q_ro_counts 48 ro_counts, oX1 g g_rows g_columns g_a g_b g_cells g_right g_down]) ([oX4 ro g q_ro_within q_ro_counts, aJ cy q_ro_within 36 ro_within, aJ cy q_ro_counts 48 ro_counts', oX1 g g_rows g_columns g_a g_b g_cells g_right g_down]) r := by
  refine CtL.of (cc := cX4_shortestWays) (maxL := 11) (ret := some .long) (own := RX4) (by decide) rfl rfl (Nat.le_of_ble_eq_true rfl) ?_
  intro p e s m args below meth c A Q X hQ hK hP hD hS ls hl
  obtain ⟨hx, hb, hml, hown, hts, hr, hlocks, hA, hZ⟩ := id X
  have hl : lv_has ls 11 [(0, .ref ro), (1, .int p1), (2, .int p2)] := hl
  unfold fX4_shortestWays at hf
  have hf := qob_top hf
  refine lv_aload_n hx hb dX4_shortestWays_0 rfl (lv_at hl 0 rfl) ?_
  refine va_get (D := D) (ci := 4) (v := .ref g) (C := RX4) (T := TX4) (N := 3) hx hb hts inwX4_shortestWays_X4 hown hK hP 0 rfl rfl 0 (by decide) (hts (.fieldLink RX4 9 "HedgeWays$Routes" "grid" "LHedgeWays$Grid;") (List.mem_of_getElem? (i := 1) rfl)) (fun _ h9 => h9) rfl dX4_shortestWays_1 ?_
  refine va_get (D := D) (ci := 1) (v := .long g_cells) (C := RX1) (T := TX1) (N := 7) hx hb hts inwX4_shortestWays_X1 hown hK hP 3 rfl rfl 4 (by decide) (hts (.fieldLink RX4 22 "HedgeWays$Grid" "cells" "J") (List.mem_of_getElem? (i := 2) rfl)) (fun _ h9 => h9) rfl dX4_shortestWays_4 ?_
  refine lv_iload_n hx hb dX4_shortestWays_7 rfl (lv_at hl 1 rfl) ?_
  refine ctS_i0 (r := (fX1_has g_cells p1)) (wc := []) (As := [.long g_cells, .int p1]) (rest := []) X hK hP hD hS [] rfl rfl rfl (KX1_has rfl _) (va_cwS 2 hts gX4_shortestWays_X1_has rfl rfl rfl hdX1_has ⟨Nat.le_of_ble_eq_true rfl, Nat.le_of_ble_eq_true rfl⟩) rfl hl rfl (Nat.le_of_ble_eq_true rfl) dX4_shortestWays_8 (Nat.zero_le _) (Nat.zero_le _) (fun H locs hP hS => ?_)
  refine lv_if_ne (tgt := 16) hx hb dX4_shortestWays_11 (by decide) (fun c1 => ?_) (fun c1 => ?_)
  · have hf := qob_f hf c1
    refine lv_aload_n hx hb dX4_shortestWays_16 rfl (lv_at hl 0 rfl) ?_
    refine va_get (D := D) (ci := 4) (v := .ref q_ro_counts) (C := RX4) (T := TX4) (N := 3) hx hb hts inwX4_shortestWays_X4 hown hK hP 0 rfl rfl 2 (by decide) (hts (.fieldLink RX4 19 "HedgeWays$Routes" "counts" "[J") (List.mem_of_getElem? (i := 3) rfl)) (fun _ h9 => h9) rfl dX4_shortestWays_17 ?_
    refine lv_iload_n hx hb dX4_shortestWays_20 rfl (lv_at hl 1 rfl) ?_
    refine lv_lconst (v := 1) hx hb dX4_shortestWays_21 (by decide) ?_
    obtain ⟨i2, hf⟩ := qob_gd hf
    refine va_last hx hb hK hP hD hS 2 1 rfl rfl i2 dX4_shortestWays_22 (fun H locs hP hD hS => ?_)
    have hP : va_P D vwCl ([oX4 ro g q_ro_within q_ro_counts, aJ cy q_ro_within 36 ro_within, aJ cy q_ro_counts 48 (vp_updL ro_counts p1.toNatClampNeg 1), oX1 g g_rows g_columns g_a g_b g_cells g_right g_down]) H := hP
    have hD : va_D A ([oX4 ro g q_ro_within q_ro_counts, aJ cy q_ro_within 36 ro_within, aJ cy q_ro_counts 48 (vp_updL ro_counts p1.toNatClampNeg 1), oX1 g g_rows g_columns g_a g_b g_cells g_right g_down]) := hD
    refine lv_iload_n hx hb dX4_shortestWays_23 rfl (lv_at hl 1 rfl) ?_
    refine ctS_l0 (r := (fX1_bit p1)) (wc := []) (As := [.int p1]) (rest := []) X hK hP hD hS [] rfl rfl rfl (KX1_bit rfl _) (va_cwS 1 hts gX4_shortestWays_X1_bit rfl rfl rfl hdX1_bit ⟨Nat.le_of_ble_eq_true rfl, Nat.le_of_ble_eq_true rfl⟩) rfl hl rfl (Nat.le_of_ble_eq_true rfl) dX4_shortestWays_24 (Nat.zero_le _) (Nat.zero_le _) (fun H locs hP hS => ?_)
    refine lv_lstore_n (lv' := [(3, .long (fX1_bit p1)), (0, .ref ro), (1, .int p1), (2, .int p2)]) hx hb dX4_shortestWays_27 rfl hl (by decide) rfl (fun ls hl => ?_)
    refine lv_lload_n hx hb dX4_shortestWays_28 rfl (lv_at hl 0 rfl) ?_
    refine lv_lstore (lv' := [(5, .long (fX1_bit p1)), (3, .long (fX1_bit p1)), (0, .ref ro), (1, .int p1), (2, .int p2)]) hx hb dX4_shortestWays_29 hl (by decide) rfl (fun ls hl => ?_)
    refine lv_iconst (v := 0) hx hb dX4_shortestWays_31 (by decide) ?_
    refine lv_istore (lv' := [(7, .int 0), (5, .long (fX1_bit p1)), (3, .long (fX1_bit p1)), (0, .ref ro), (1, .int p1), (2, .int p2)]) hx hb dX4_shortestWays_32 hl (by decide) rfl (fun ls hl => ?_)
    refine qjoinE1 hf (fun (ro_counts_1 : Nat → Int64) => ∀ (H : Heap) (locs : List Loc) (ls : Array Slot), ctW D A s ([oX4 ro g q_ro_within q_ro_counts, aJ cy q_ro_within 36 ro_within, aJ cy q_ro_counts 48 ro_counts_1, oX1 g g_rows g_columns g_a g_b g_cells g_right g_down]) H locs → lv_has ls 11 [] → W p l e rmX4_shortestWays s m args below meth c H locs 0 0 Q (F0 m 137 ls [])) ?_ ?_
    · intro ro_counts_1 hf H locs ls ⟨hP, hD, hS⟩ hl
      refine lv_lconst (v := 0) hx hb dX4_shortestWays_137 (by decide) ?_
      cases qob_ret hf
      exact ct_lret X hQ hK hP hD hS rfl dX4_shortestWays_138
    · intro J3 hJ3 hf
      refine qwalk4 (fun (x3_1 : Int64) (x5_1 : Int64) (x7_1 : Int32) (ro_counts_2 : Nat → Int64) => ∀ (H : Heap) (locs : List Loc) (ls : Array Slot), ctW D A s ([oX4 ro g q_ro_within q_ro_counts, aJ cy q_ro_within 36 ro_within, aJ cy q_ro_counts 48 ro_counts_2, oX1 g g_rows g_columns g_a g_b g_cells g_right g_down]) H locs → lv_has ls 11 [(0, .ref ro), (2, .int p2), (3, .long x3_1), (5, .long x5_1), (7, .int x7_1)] → W p l e rmX4_shortestWays s m args below meth c H locs 0 0 Q (F0 m 34 ls [])) ?_ _ (fX1_bit p1) (fX1_bit p1) (0 : Int32) (vp_updL ro_counts p1.toNatClampNeg 1) hf _ _ _ ⟨hP, hD, hS⟩ (lv_sub hl [3, 5, 2, 1, 0] rfl)
      intro J4 hL4 x3_1 x5_1 x7_1 ro_counts_2 hf H locs ls ⟨hP, hD, hS⟩ hl
      refine lv_iload hx hb dX4_shortestWays_34 (lv_at hl 4 rfl) ?_
      refine lv_bipush (v := 36) hx hb dX4_shortestWays_36 (by decide) ?_
      refine lv_icmp_ge (tgt := 137) hx hb dX4_shortestWays_38 (by decide) (fun c5 => ?_) (fun c5 => ?_)
      · have hf := qob_t hf c5
        have hf := qob_esc hf
        exact hJ3 ro_counts_2 hf _ _ _ ⟨hP, hD, hS⟩ (lv_sub hl [] rfl)
      · have hf := qob_f hf c5
        refine lv_lload hx hb dX4_shortestWays_41 (lv_at hl 3 rfl) ?_
        refine lv_lconst (v := 0) hx hb dX4_shortestWays_43 (by decide) ?_
        refine W.lcmp hx hb dX4_shortestWays_44 ?_
        refine lv_if_eq (tgt := 137) hx hb dX4_shortestWays_45 (by decide) (fun c6 => ?_) (fun c6 => ?_)
        · have hf := qob_t hf c6
          have hf := qob_esc hf
          exact hJ3 ro_counts_2 hf _ _ _ ⟨hP, hD, hS⟩ (lv_sub hl [] rfl)
        · have hf := qob_f hf c6
          refine lv_lload hx hb dX4_shortestWays_48 (lv_at hl 3 rfl) ?_
          refine lv_iload_n hx hb dX4_shortestWays_50 rfl (lv_at hl 1 rfl) ?_
          refine ctS_i0 (r := (fX1_has x5_1 p2)) (wc := []) (As := [.long x5_1, .int p2]) (rest := []) X hK hP hD hS [] rfl rfl rfl (KX1_has rfl _) (va_cwS 2 hts gX4_shortestWays_X1_has rfl rfl rfl hdX1_has ⟨Nat.le_of_ble_eq_true rfl, Nat.le_of_ble_eq_true rfl⟩) rfl hl rfl (Nat.le_of_ble_eq_true rfl) dX4_shortestWays_51 (Nat.zero_le _) (Nat.zero_le _) (fun H locs hP hS => ?_)
          refine lv_if_eq (tgt := 64) hx hb dX4_shortestWays_54 (by decide) (fun c7 => ?_) (fun c7 => ?_)
          · have hf := qob_t hf c7
            refine lv_aload_n hx hb dX4_shortestWays_64 rfl (lv_at hl 0 rfl) ?_
            refine va_get (D := D) (ci := 4) (v := .ref g) (C := RX4) (T := TX4) (N := 3) hx hb hts inwX4_shortestWays_X4 hown hK hP 0 rfl rfl 0 (by decide) (hts (.fieldLink RX4 9 "HedgeWays$Routes" "grid" "LHedgeWays$Grid;") (List.mem_of_getElem? (i := 1) rfl)) (fun _ h9 => h9) rfl dX4_shortestWays_65 ?_
            refine lv_lload hx hb dX4_shortestWays_68 (lv_at hl 3 rfl) ?_
            refine ctV_l0 (r := (fX1_near g_right g_down x5_1)) (wc := [oX1 g g_rows g_columns g_a g_b g_cells g_right g_down]) (As := [.long x5_1]) (rest := []) (q0 := 3) X hK hP hD hS [3] rfl rfl rfl (KX1_near rfl _) (cwV 1 hts gX4_shortestWays_X1_near rfl rfl rfl hdX1_near ⟨Nat.le_of_ble_eq_true rfl, Nat.le_of_ble_eq_true rfl⟩) rfl rfl rfl hl rfl (Nat.le_of_ble_eq_true rfl) dX4_shortestWays_70 (Nat.zero_le _) (Nat.zero_le _) (fun H locs hP hS => ?_)
            refine lv_lload_n hx hb dX4_shortestWays_73 rfl (lv_at hl 2 rfl) ?_
            refine lv_ldc2 hx hb hown (hts (.constantLong RX4 40 (-1)) (List.mem_of_getElem? (i := 4) rfl)) dX4_shortestWays_74 ?_
            refine lv_lxor hx hb dX4_shortestWays_77 ?_
            refine lv_land hx hb dX4_shortestWays_78 ?_
            refine lv_topl (fun x8_1 e8 => ?_)
            have hf := qob_bd hf e8
            refine lv_lstore (lv' := [(8, .long x8_1), (0, .ref ro), (2, .int p2), (3, .long x3_1), (5, .long x5_1), (7, .int x7_1)]) hx hb dX4_shortestWays_79 hl (by decide) rfl (fun ls hl => ?_)
            refine lv_iconst (v := 0) hx hb dX4_shortestWays_81 (by decide) ?_
            refine lv_istore (lv' := [(10, .int 0), (8, .long x8_1), (0, .ref ro), (2, .int p2), (3, .long x3_1), (5, .long x5_1), (7, .int x7_1)]) hx hb dX4_shortestWays_82 hl (by decide) rfl (fun ls hl => ?_)
            refine qjoin1 hf (fun (ro_counts_3 : Nat → Int64) => ∀ (H : Heap) (locs : List Loc) (ls : Array Slot), ctW D A s ([oX4 ro g q_ro_within q_ro_counts, aJ cy q_ro_within 36 ro_within, aJ cy q_ro_counts 48 ro_counts_3, oX1 g g_rows g_columns g_a g_b g_cells g_right g_down]) H locs → lv_has ls 11 [(0, .ref ro), (2, .int p2), (3, .long x3_1), (7, .int x7_1), (8, .long x8_1)] → W p l e rmX4_shortestWays s m args below meth c H locs 0 0 Q (F0 m 122 ls [])) ?_ ?_
            · intro ro_counts_3 hf H locs ls ⟨hP, hD, hS⟩ hl
              refine lv_lload_n hx hb dX4_shortestWays_122 rfl (lv_at hl 2 rfl) ?_
              refine lv_lload hx hb dX4_shortestWays_123 (lv_at hl 4 rfl) ?_
              refine lv_lor hx hb dX4_shortestWays_125 ?_
              refine lv_lstore_n (lv' := [(3, .long (x3_1 ||| x8_1)), (0, .ref ro), (2, .int p2), (7, .int x7_1), (8, .long x8_1)]) hx hb dX4_shortestWays_126 rfl hl (by decide) rfl (fun ls hl => ?_)
              refine lv_lload hx hb dX4_shortestWays_127 (lv_at hl 4 rfl) ?_
              refine lv_lstore (lv' := [(5, .long x8_1), (3, .long (x3_1 ||| x8_1)), (0, .ref ro), (2, .int p2), (7, .int x7_1), (8, .long x8_1)]) hx hb dX4_shortestWays_129 hl (by decide) rfl (fun ls hl => ?_)
              refine lv_iinc (v := (x7_1 + 1)) (lv' := [(7, .int (x7_1 + 1)), (5, .long x8_1), (3, .long (x3_1 ||| x8_1)), (0, .ref ro), (2, .int p2), (8, .long x8_1)]) hx hb dX4_shortestWays_131 hl (k := 4) rfl rfl (by decide) rfl (fun ls hl => ?_)
              refine lv_goto (tgt := 34) hx hb dX4_shortestWays_134 (by decide) ?_
              exact hL4 (x3_1 ||| x8_1) x8_1 (x7_1 + 1) ro_counts_3 hf _ _ _ ⟨hP, hD, hS⟩ (lv_sub hl [3, 4, 2, 1, 0] rfl)
            · intro J9 hJ9 hf
              refine qwalk2 (fun (x10_1 : Int32) (ro_counts_4 : Nat → Int64) => ∀ (H : Heap) (locs : List Loc) (ls : Array Slot), ctW D A s ([oX4 ro g q_ro_within q_ro_counts, aJ cy q_ro_within 36 ro_within, aJ cy q_ro_counts 48 ro_counts_4, oX1 g g_rows g_columns g_a g_b g_cells g_right g_down]) H locs → lv_has ls 11 [(0, .ref ro), (2, .int p2), (3, .long x3_1), (5, .long x5_1), (7, .int x7_1), (8, .long x8_1), (10, .int x10_1)] → W p l e rmX4_shortestWays s m args below meth c H locs 0 0 Q (F0 m 84 ls [])) ?_ _ (0 : Int32) ro_counts_2 hf _ _ _ ⟨hP, hD, hS⟩ (lv_sub hl [2, 3, 4, 5, 6, 1, 0] rfl)
              intro J10 hL10 x10_1 ro_counts_4 hf H locs ls ⟨hP, hD, hS⟩ hl
              refine lv_iload hx hb dX4_shortestWays_84 (lv_at hl 6 rfl) ?_
              refine lv_bipush (v := 48) hx hb dX4_shortestWays_86 (by decide) ?_
              refine lv_icmp_ge (tgt := 122) hx hb dX4_shortestWays_88 (by decide) (fun c11 => ?_) (fun c11 => ?_)
              · have hf := qob_t hf c11
                have hf := qob_esc hf
                exact hJ9 ro_counts_4 hf _ _ _ ⟨hP, hD, hS⟩ (lv_sub hl [0, 1, 2, 4, 5] rfl)
              · have hf := qob_f hf c11
                refine lv_lload hx hb dX4_shortestWays_91 (lv_at hl 5 rfl) ?_
                refine lv_iload hx hb dX4_shortestWays_93 (lv_at hl 6 rfl) ?_
                refine ctS_i0 (r := (fX1_has x8_1 x10_1)) (wc := []) (As := [.long x8_1, .int x10_1]) (rest := []) X hK hP hD hS [] rfl rfl rfl (KX1_has rfl _) (va_cwS 2 hts gX4_shortestWays_X1_has rfl rfl rfl hdX1_has ⟨Nat.le_of_ble_eq_true rfl, Nat.le_of_ble_eq_true rfl⟩) rfl hl rfl (Nat.le_of_ble_eq_true rfl) dX4_shortestWays_95 (Nat.zero_le _) (Nat.zero_le _) (fun H locs hP hS => ?_)
                refine lv_if_eq (tgt := 116) hx hb dX4_shortestWays_98 (by decide) (fun c12 => ?_) (fun c12 => ?_)
                · have hf := qob_t hf c12
                  refine lv_iinc (v := (x10_1 + 1)) (lv' := [(10, .int (x10_1 + 1)), (0, .ref ro), (2, .int p2), (3, .long x3_1), (5, .long x5_1), (7, .int x7_1), (8, .long x8_1)]) hx hb dX4_shortestWays_116 hl (k := 6) rfl rfl (by decide) rfl (fun ls hl => ?_)
                  refine lv_goto (tgt := 84) hx hb dX4_shortestWays_119 (by decide) ?_
                  exact hL10 (x10_1 + 1) ro_counts_4 hf _ _ _ ⟨hP, hD, hS⟩ (lv_sub hl [1, 2, 3, 4, 5, 6, 0] rfl)
                · have hf := qob_f hf c12
                  refine lv_aload_n hx hb dX4_shortestWays_101 rfl (lv_at hl 0 rfl) ?_
                  refine va_get (D := D) (ci := 4) (v := .ref q_ro_counts) (C := RX4) (T := TX4) (N := 3) hx hb hts inwX4_shortestWays_X4 hown hK hP 0 rfl rfl 2 (by decide) (hts (.fieldLink RX4 19 "HedgeWays$Routes" "counts" "[J") (List.mem_of_getElem? (i := 3) rfl)) (fun _ h9 => h9) rfl dX4_shortestWays_102 ?_
                  refine lv_iload hx hb dX4_shortestWays_105 (lv_at hl 6 rfl) ?_
                  refine lv_aload_n hx hb dX4_shortestWays_107 rfl (lv_at hl 0 rfl) ?_
                  refine lv_iload hx hb dX4_shortestWays_108 (lv_at hl 6 rfl) ?_
                  refine lv_lload hx hb dX4_shortestWays_110 (lv_at hl 3 rfl) ?_
                  obtain ⟨r_1, q13, hf⟩ := qcall1 hf
                  refine ctV_l0 (r := r_1) (wc := [oX4 ro g q_ro_within q_ro_counts, aJ cy q_ro_within 36 ro_within, aJ cy q_ro_counts 48 ro_counts_4, oX1 g g_rows g_columns g_a g_b g_cells g_right g_down]) (As := [.int x10_1, .long x5_1]) (rest := [.int x10_1, .ref q_ro_counts]) (q0 := 0) X hK hP hD hS [0, 1, 2, 3] rfl rfl rfl (KX4_waysInto q13 _) (cwV 2 hts gX4_shortestWays_X4_waysInto rfl rfl rfl hdX4_waysInto ⟨Nat.le_of_ble_eq_true rfl, Nat.le_of_ble_eq_true rfl⟩) rfl rfl rfl hl rfl (Nat.le_of_ble_eq_true rfl) dX4_shortestWays_112 (Nat.zero_le _) (Nat.zero_le _) (fun H locs hP hS => ?_)
                  obtain ⟨i14, hf⟩ := qob_gd hf
                  refine va_last hx hb hK hP hD hS 2 1 rfl rfl i14 dX4_shortestWays_115 (fun H locs hP hD hS => ?_)
                  have hP : va_P D vwCl ([oX4 ro g q_ro_within q_ro_counts, aJ cy q_ro_within 36 ro_within, aJ cy q_ro_counts 48 (vp_updL ro_counts_4 x10_1.toNatClampNeg r_1), oX1 g g_rows g_columns g_a g_b g_cells g_right g_down]) H := hP
                  have hD : va_D A ([oX4 ro g q_ro_within q_ro_counts, aJ cy q_ro_within 36 ro_within, aJ cy q_ro_counts 48 (vp_updL ro_counts_4 x10_1.toNatClampNeg r_1), oX1 g g_rows g_columns g_a g_b g_cells g_right g_down]) := hD
                  refine lv_iinc (v := (x10_1 + 1)) (lv' := [(10, .int (x10_1 + 1)), (0, .ref ro), (2, .int p2), (3, .long x3_1), (5, .long x5_1), (7, .int x7_1), (8, .long x8_1)]) hx hb dX4_shortestWays_116 hl (k := 6) rfl rfl (by decide) rfl (fun ls hl => ?_)
                  refine lv_goto (tgt := 84) hx hb dX4_shortestWays_119 (by decide) ?_
                  exact hL10 (x10_1 + 1) (vp_updL ro_counts_4 x10_1.toNatClampNeg r_1) hf _ _ _ ⟨hP, hD, hS⟩ (lv_sub hl [1, 2, 3, 4, 5, 6, 0] rfl)
          · have hf := qob_f hf c7
            refine lv_aload_n hx hb dX4_shortestWays_57 rfl (lv_at hl 0 rfl) ?_
            refine va_get (D := D) (ci := 4) (v := .ref q_ro_counts) (C := RX4) (T := TX4) (N := 3) hx hb hts inwX4_shortestWays_X4 hown hK hP 0 rfl rfl 2 (by decide) (hts (.fieldLink RX4 19 "HedgeWays$Routes" "counts" "[J") (List.mem_of_getElem? (i := 3) rfl)) (fun _ h9 => h9) rfl dX4_shortestWays_58 ?_
            refine lv_iload_n hx hb dX4_shortestWays_61 rfl (lv_at hl 1 rfl) ?_
            obtain ⟨i15, hf⟩ := qob_gd hf
            refine va_lald hx hb hK hP 2 1 rfl rfl i15 dX4_shortestWays_62 ?_
            have hf := qob_esc hf
            have hf := qob_esc hf
            cases qob_ret hf
            exact ct_lret X hQ hK hP hD hS rfl dX4_shortestWays_63
  · have hf := qob_t hf c1
    refine lv_lconst (v := 0) hx hb dX4_shortestWays_14 (by decide) ?_
    cases qob_ret hf
    exact ct_lret X hQ hK hP hD hS rfl dX4_shortestWays_15

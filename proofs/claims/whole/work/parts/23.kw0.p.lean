theorem inwX9_write_X5 : ∀ w ∈ wsX50, w ∈ wsX9_write := fun _ h => List.mem_cons_of_mem _ (List.mem_append_right _ h)
theorem inwX9_write_X9 : ∀ w ∈ wsX90, w ∈ wsX9_write := fun _ h => List.mem_cons_of_mem _ (List.mem_append_left _ (List.mem_append_right _ h))
abbrev rmX9_write : Room := { frames := 1, cells := 0, slots := 0, locals := 24 }
theorem hdX9_write : yX9_write.cls = RX9 ∧ yX9_write.cls ≠ "java/lang/invoke/MethodHandle" ∧ yX9_write.cls ≠ "java/lang/invoke/VarHandle" ∧ (parseMethodDescriptor yX9_write.desc).map (fun d => d.parameters.length) = some 2 := by decide +kernel
set_option maxHeartbeats 4000000 in
set_option maxRecDepth 100000 in
theorem KX9_write {l : Launch} {D : va_G} {cy : Nat → ClassId} {hw sc g tn sl mk sv ro wk su ch hu q_sc_bytes : Nat} {sc_length : Int32} {sc_bytes : Nat → Int32} {p1 : Int32} {p2 : Int64} {r : Int32} {sc_length' : Int32} {sc_bytes' : Nat → Int32} (hf : fX9_write sc_length sc_bytes p1 p2 = some (r, sc_length', sc_bytes')) : CtI l yX9_write wsX9_write rmX9_write D cy [.ref hw, .int p1, .long p2] ([oX9 hw sc g tn sl mk sv ro wk su ch hu, oX5 sc q_sc_bytes sc_length, aI cy q_sc_bytes 41 sc_bytes]) ([oX9 hw sc g tn sl mk sv ro wk su ch hu, oX5 sc q_sc_bytes sc_length', aI cy q_sc_bytes 41 sc_bytes']) r := by
  refine CtI.of (cc := cX9_write) (maxL := 4) (ret := some .int) (own := RX9) (by decide) rfl rfl (Nat.le_of_ble_eq_true rfl) ?_
  intro p e s m args below meth c A Q X hQ hK hP hD hS ls hl
  obtain ⟨hx, hb, hml, hown, hts, hr, hlocks, hA, hZ⟩ := id X
  have hl : lv_has ls 4 [(0, .ref hw), (1, .int p1), (2, .long p2)] := hl
  unfold fX9_write at hf
  have hf := qob_top hf
  refine lv_iload_n hx hb dX9_write_0 rfl (lv_at hl 1 rfl) ?_
  refine lv_iconst (v := 1) hx hb dX9_write_1 (by decide) ?_
  refine lv_icmp_lt (tgt := 11) hx hb dX9_write_2 (by decide) (fun c1 => ?_) (fun c1 => ?_)
  · have hf := qob_t hf c1
    refine lv_bipush (v := (-2)) hx hb dX9_write_11 (by decide) ?_
    cases qob_ret hf
    exact ct_iret X hQ hK hP hD hS rfl dX9_write_13
  · have hf := qob_f hf c1
    refine lv_iload_n hx hb dX9_write_5 rfl (lv_at hl 1 rfl) ?_
    refine lv_bipush (v := 8) hx hb dX9_write_6 (by decide) ?_
    refine lv_icmp_le (tgt := 14) hx hb dX9_write_8 (by decide) (fun c2 => ?_) (fun c2 => ?_)
    · have hf := qob_t hf c2
      refine lv_aload_n hx hb dX9_write_14 rfl (lv_at hl 0 rfl) ?_
      refine va_get (D := D) (ci := 9) (v := .ref sc) (C := RX9) (T := TX9) (N := 11) hx hb hts inwX9_write_X9 hown hK hP 0 rfl rfl 0 (by decide) (hts (.fieldLink RX9 12 "HedgeWays" "scroll" "LHedgeWays$Scroll;") (List.mem_of_getElem? (i := 1) rfl)) (fun _ h9 => h9) rfl dX9_write_15 ?_
      refine va_get (D := D) (ci := 5) (v := .int sc_length) (C := RX5) (T := TX5) (N := 2) hx hb hts inwX9_write_X5 hown hK hP 1 rfl rfl 1 (by decide) (hts (.fieldLink RX9 81 "HedgeWays$Scroll" "length" "I") (List.mem_of_getElem? (i := 2) rfl)) (fun _ h9 => h9) rfl dX9_write_18 ?_
      refine lv_iload_n hx hb dX9_write_21 rfl (lv_at hl 1 rfl) ?_
      refine lv_iadd hx hb dX9_write_22 ?_
      refine lv_bipush (v := 41) hx hb dX9_write_23 (by decide) ?_
      refine lv_icmp_le (tgt := 31) hx hb dX9_write_25 (by decide) (fun c3 => ?_) (fun c3 => ?_)
      · have hf := qob_t hf c3
        refine lv_aload_n hx hb dX9_write_31 rfl (lv_at hl 0 rfl) ?_
        refine va_get (D := D) (ci := 9) (v := .ref sc) (C := RX9) (T := TX9) (N := 11) hx hb hts inwX9_write_X9 hown hK hP 0 rfl rfl 0 (by decide) (hts (.fieldLink RX9 12 "HedgeWays" "scroll" "LHedgeWays$Scroll;") (List.mem_of_getElem? (i := 1) rfl)) (fun _ h9 => h9) rfl dX9_write_32 ?_
        refine lv_iload_n hx hb dX9_write_35 rfl (lv_at hl 1 rfl) ?_
        refine lv_lload_n hx hb dX9_write_36 rfl (lv_at hl 2 rfl) ?_
        obtain ⟨sc_length_1, sc_bytes_1, q4, hf⟩ := qcall2 hf
        refine ctV_v (wc := [oX5 sc q_sc_bytes sc_length, aI cy q_sc_bytes 41 sc_bytes]) (w1 := [oX5 sc q_sc_bytes sc_length_1, aI cy q_sc_bytes 41 sc_bytes_1]) (wr := [oX9 hw sc g tn sl mk sv ro wk su ch hu]) (wn := [oX9 hw sc g tn sl mk sv ro wk su ch hu, oX5 sc q_sc_bytes sc_length_1, aI cy q_sc_bytes 41 sc_bytes_1]) (As := [.int p1, .long p2]) (rest := []) (q0 := 1) X hK hP hD hS [1, 2] [0] [0, 1, 2] rfl rfl rfl rfl rfl (by decide) rfl rfl rfl (KX5_append q4 _) (cwV 2 hts gX9_write_X5_append rfl rfl rfl hdX5_append ⟨Nat.le_of_ble_eq_true rfl, Nat.le_of_ble_eq_true rfl⟩) rfl rfl rfl hl rfl (Nat.le_of_ble_eq_true rfl) dX9_write_37 (Nat.zero_le _) (Nat.zero_le _) (fun H locs hP hD hS => ?_)
        refine lv_aload_n hx hb dX9_write_40 rfl (lv_at hl 0 rfl) ?_
        refine va_get (D := D) (ci := 9) (v := .ref sc) (C := RX9) (T := TX9) (N := 11) hx hb hts inwX9_write_X9 hown hK hP 0 rfl rfl 0 (by decide) (hts (.fieldLink RX9 12 "HedgeWays" "scroll" "LHedgeWays$Scroll;") (List.mem_of_getElem? (i := 1) rfl)) (fun _ h9 => h9) rfl dX9_write_41 ?_
        refine va_get (D := D) (ci := 5) (v := .int sc_length_1) (C := RX5) (T := TX5) (N := 2) hx hb hts inwX9_write_X5 hown hK hP 1 rfl rfl 1 (by decide) (hts (.fieldLink RX9 81 "HedgeWays$Scroll" "length" "I") (List.mem_of_getElem? (i := 2) rfl)) (fun _ h9 => h9) rfl dX9_write_44 ?_
        cases qob_ret hf
        exact ct_iret X hQ hK hP hD hS rfl dX9_write_47
      · have hf := qob_f hf c3
        refine lv_bipush (v := (-4)) hx hb dX9_write_28 (by decide) ?_
        cases qob_ret hf
        exact ct_iret X hQ hK hP hD hS rfl dX9_write_30
    · have hf := qob_f hf c2
      refine lv_bipush (v := (-2)) hx hb dX9_write_11 (by decide) ?_
      cases qob_ret hf
      exact ct_iret X hQ hK hP hD hS rfl dX9_write_13
theorem inwX9_wipe_X5 : ∀ w ∈ wsX50, w ∈ wsX9_wipe := fun _ h => List.mem_cons_of_mem _ (List.mem_append_right _ h)
theorem inwX9_wipe_X9 : ∀ w ∈ wsX90, w ∈ wsX9_wipe := fun _ h => List.mem_cons_of_mem _ (List.mem_append_left _ (List.mem_append_right _ h))
abbrev rmX9_wipe : Room := { frames := 0, cells := 0, slots := 0, locals := 0 }
theorem hdX9_wipe : yX9_wipe.cls = RX9 ∧ yX9_wipe.cls ≠ "java/lang/invoke/MethodHandle" ∧ yX9_wipe.cls ≠ "java/lang/invoke/VarHandle" ∧ (parseMethodDescriptor yX9_wipe.desc).map (fun d => d.parameters.length) = some 0 := by decide +kernel
set_option maxHeartbeats 4000000 in
set_option maxRecDepth 100000 in
theorem KX9_wipe {l : Launch} {D : va_G} {cy : Nat → ClassId} {hw sc g tn sl mk sv ro wk su ch hu q_sc_bytes : Nat} {sc_length : Int32} {sc_bytes : Nat → Int32}  {r : Int32} {sc_length' : Int32} (hf : fX9_wipe sc_length = (r, sc_length')) : CtI l yX9_wipe wsX9_wipe rmX9_wipe D cy [.ref hw] ([oX9 hw sc g tn sl mk sv ro wk su ch hu, oX5 sc q_sc_bytes sc_length, aI cy q_sc_bytes 41 sc_bytes]) ([oX9 hw sc g tn sl mk sv ro wk su ch hu, oX5 sc q_sc_bytes sc_length', aI cy q_sc_bytes 41 sc_bytes]) r := by
  refine CtI.of (cc := cX9_wipe) (maxL := 2) (ret := some .int) (own := RX9) (by decide) rfl rfl (Nat.le_of_ble_eq_true rfl) ?_
  intro p e s m args below meth c A Q X hQ hK hP hD hS ls hl
  obtain ⟨hx, hb, hml, hown, hts, hr, hlocks, hA, hZ⟩ := id X
  have hl : lv_has ls 2 [(0, .ref hw)] := hl
  unfold fX9_wipe at hf
  have hf := qbb_top hf
  refine lv_aload_n hx hb dX9_wipe_0 rfl (lv_at hl 0 rfl) ?_
  refine va_get (D := D) (ci := 9) (v := .ref sc) (C := RX9) (T := TX9) (N := 11) hx hb hts inwX9_wipe_X9 hown hK hP 0 rfl rfl 0 (by decide) (hts (.fieldLink RX9 12 "HedgeWays" "scroll" "LHedgeWays$Scroll;") (List.mem_of_getElem? (i := 1) rfl)) (fun _ h9 => h9) rfl dX9_wipe_1 ?_
  refine va_get (D := D) (ci := 5) (v := .int sc_length) (C := RX5) (T := TX5) (N := 2) hx hb hts inwX9_wipe_X5 hown hK hP 1 rfl rfl 1 (by decide) (hts (.fieldLink RX9 81 "HedgeWays$Scroll" "length" "I") (List.mem_of_getElem? (i := 2) rfl)) (fun _ h9 => h9) rfl dX9_wipe_4 ?_
  refine lv_istore_n (lv' := [(1, .int sc_length), (0, .ref hw)]) hx hb dX9_wipe_7 rfl hl (by decide) rfl (fun ls hl => ?_)
  refine lv_aload_n hx hb dX9_wipe_8 rfl (lv_at hl 1 rfl) ?_
  refine va_get (D := D) (ci := 9) (v := .ref sc) (C := RX9) (T := TX9) (N := 11) hx hb hts inwX9_wipe_X9 hown hK hP 0 rfl rfl 0 (by decide) (hts (.fieldLink RX9 12 "HedgeWays" "scroll" "LHedgeWays$Scroll;") (List.mem_of_getElem? (i := 1) rfl)) (fun _ h9 => h9) rfl dX9_wipe_9 ?_
  refine lv_iconst (v := 0) hx hb dX9_wipe_12 (by decide) ?_
  refine va_put (D := D) (ci := 5) (v := .int 0) (ty := .int) (C := RX5) (T := TX5) (N := 2) hx hb hts inwX9_wipe_X5 tyX5 tyX5_ok nmX5 hown hK hP hD hS 1 rfl rfl 1 (by decide) (hts (.fieldLink RX9 81 "HedgeWays$Scroll" "length" "I") (List.mem_of_getElem? (i := 2) rfl)) (fun _ h9 => h9) rfl (tyX5_ok 1 (by decide)) rfl rfl (Nat.le_of_ble_eq_true rfl) dX9_wipe_13 (fun H locs hP hD hS => ?_)
  have hP : va_P D vwCl ([oX9 hw sc g tn sl mk sv ro wk su ch hu, oX5 sc q_sc_bytes 0, aI cy q_sc_bytes 41 sc_bytes]) H := hP
  have hD : va_D A ([oX9 hw sc g tn sl mk sv ro wk su ch hu, oX5 sc q_sc_bytes 0, aI cy q_sc_bytes 41 sc_bytes]) := hD
  refine lv_iload_n hx hb dX9_wipe_16 rfl (lv_at hl 0 rfl) ?_
  cases qbb_ret hf
  exact ct_iret X hQ hK hP hD hS rfl dX9_wipe_17
theorem inwX9_fault_X9 : ∀ w ∈ wsX90, w ∈ wsX9_fault := fun _ h => List.mem_cons_of_mem _ (List.mem_append_left _ (List.mem_append_right _ h))
abbrev rmX9_fault : Room := { frames := 3, cells := 0, slots := 0, locals := 70 }
theorem hdX9_fault : yX9_fault.cls = RX9 ∧ yX9_fault.cls ≠ "java/lang/invoke/MethodHandle" ∧ yX9_fault.cls ≠ "java/lang/invoke/VarHandle" ∧ (parseMethodDescriptor yX9_fault.desc).map (fun d => d.parameters.length) = some 0 := by decide +kernel
set_option maxHeartbeats 4000000 in
set_option maxRecDepth 100000 in
theorem KX9_fault {l : Launch} {D : va_G} {cy : Nat → ClassId} {hw sc g tn sl mk sv ro wk su ch hu q_sc_bytes : Nat} {sc_length : Int32} {sc_bytes : Nat → Int32}  {r : Int32} (hf : fX9_fault sc_length sc_bytes = some r) : CtI l yX9_fault wsX9_fault rmX9_fault D cy [.ref hw] ([oX9 hw sc g tn sl mk sv ro wk su ch hu, oX5 sc q_sc_bytes sc_length, aI cy q_sc_bytes 41 sc_bytes]) ([oX9 hw sc g tn sl mk sv ro wk su ch hu, oX5 sc q_sc_bytes sc_length, aI cy q_sc_bytes 41 sc_bytes]) r := by
  refine CtI.of (cc := cX9_fault) (maxL := 1) (ret := some .int) (own := RX9) (by decide) rfl rfl (Nat.le_of_ble_eq_true rfl) ?_
  intro p e s m args below meth c A Q X hQ hK hP hD hS ls hl
  obtain ⟨hx, hb, hml, hown, hts, hr, hlocks, hA, hZ⟩ := id X
  have hl : lv_has ls 1 [(0, .ref hw)] := hl
  unfold fX9_fault at hf
  have hf := qob_top hf
  refine lv_aload_n hx hb dX9_fault_0 rfl (lv_at hl 0 rfl) ?_
  refine va_get (D := D) (ci := 9) (v := .ref sc) (C := RX9) (T := TX9) (N := 11) hx hb hts inwX9_fault_X9 hown hK hP 0 rfl rfl 0 (by decide) (hts (.fieldLink RX9 12 "HedgeWays" "scroll" "LHedgeWays$Scroll;") (List.mem_of_getElem? (i := 1) rfl)) (fun _ h9 => h9) rfl dX9_fault_1 ?_
  obtain ⟨r_1, q1, hf⟩ := qcall1 hf
  refine ctV_i0 (r := r_1) (wc := [oX5 sc q_sc_bytes sc_length, aI cy q_sc_bytes 41 sc_bytes]) (As := []) (rest := []) (q0 := 1) X hK hP hD hS [1, 2] rfl rfl rfl (KX5_firstFault q1 _) (cwV 0 hts gX9_fault_X5_firstFault rfl rfl rfl hdX5_firstFault ⟨Nat.le_of_ble_eq_true rfl, Nat.le_of_ble_eq_true rfl⟩) rfl rfl rfl hl rfl (Nat.le_of_ble_eq_true rfl) dX9_fault_4 (Nat.zero_le _) (Nat.zero_le _) (fun H locs hP hS => ?_)
  cases qob_ret hf
  exact ct_iret X hQ hK hP hD hS rfl dX9_fault_7
theorem inwX9_maze_X9 : ∀ w ∈ wsX90, w ∈ wsX9_maze := fun _ h => List.mem_cons_of_mem _ (List.mem_append_left _ (List.mem_append_left _ (List.mem_append_right _ h)))
abbrev rmX9_maze : Room := { frames := 4, cells := 0, slots := 0, locals := 97 }
theorem hdX9_maze : yX9_maze.cls = RX9 ∧ yX9_maze.cls ≠ "java/lang/invoke/MethodHandle" ∧ yX9_maze.cls ≠ "java/lang/invoke/VarHandle" ∧ (parseMethodDescriptor yX9_maze.desc).map (fun d => d.parameters.length) = some 0 := by decide +kernel
set_option maxHeartbeats 4000000 in
set_option maxRecDepth 100000 in
theorem KX9_maze {l : Launch} {D : va_G} {cy : Nat → ClassId} {hw sc g tn sl mk sv ro wk su ch hu q_sc_bytes : Nat} {sc_length : Int32} {sc_bytes : Nat → Int32} {g_rows : Int32} {g_columns : Int32} {g_a : Int32} {g_b : Int32} {g_cells : Int64} {g_right : Int64} {g_down : Int64}  {r : Int32} {g_rows' : Int32} {g_columns' : Int32} {g_a' : Int32} {g_b' : Int32} {g_cells' : Int64} {g_right' : Int64} {g_down' : Int64} (hf : fX9_maze sc_length sc_bytes g_rows g_columns g_a g_b g_cells g_right g_down = some (r, g_rows', g_columns', g_a', g_b', g_cells', g_right', g_down')) : CtI l yX9_maze wsX9_maze rmX9_maze D cy [.ref hw] ([oX9 hw sc g tn sl mk sv ro wk su ch hu, oX5 sc q_sc_bytes sc_length, aI cy q_sc_bytes 41 sc_bytes, oX1 g g_rows g_columns g_a g_b g_cells g_right g_down]) ([oX9 hw sc g tn sl mk sv ro wk su ch hu, oX5 sc q_sc_bytes sc_length, aI cy q_sc_bytes 41 sc_bytes, oX1 g g_rows' g_columns' g_a' g_b' g_cells' g_right' g_down']) r := by
  refine CtI.of (cc := cX9_maze) (maxL := 1) (ret := some .int) (own := RX9) (by decide) rfl rfl (Nat.le_of_ble_eq_true rfl) ?_
  intro p e s m args below meth c A Q X hQ hK hP hD hS ls hl
  obtain ⟨hx, hb, hml, hown, hts, hr, hlocks, hA, hZ⟩ := id X
  have hl : lv_has ls 1 [(0, .ref hw)] := hl
  unfold fX9_maze at hf
  have hf := qob_top hf
  refine lv_aload_n hx hb dX9_maze_0 rfl (lv_at hl 0 rfl) ?_
  refine va_get (D := D) (ci := 9) (v := .ref sc) (C := RX9) (T := TX9) (N := 11) hx hb hts inwX9_maze_X9 hown hK hP 0 rfl rfl 0 (by decide) (hts (.fieldLink RX9 12 "HedgeWays" "scroll" "LHedgeWays$Scroll;") (List.mem_of_getElem? (i := 1) rfl)) (fun _ h9 => h9) rfl dX9_maze_1 ?_
  obtain ⟨r_1, q1, hf⟩ := qcall1 hf
  refine ctV_i0 (r := r_1) (wc := [oX5 sc q_sc_bytes sc_length, aI cy q_sc_bytes 41 sc_bytes]) (As := []) (rest := []) (q0 := 1) X hK hP hD hS [1, 2] rfl rfl rfl (KX5_firstFault q1 _) (cwV 0 hts gX9_maze_X5_firstFault rfl rfl rfl hdX5_firstFault ⟨Nat.le_of_ble_eq_true rfl, Nat.le_of_ble_eq_true rfl⟩) rfl rfl rfl hl rfl (Nat.le_of_ble_eq_true rfl) dX9_maze_4 (Nat.zero_le _) (Nat.zero_le _) (fun H locs hP hS => ?_)
  refine lv_bipush (v := (-9)) hx hb dX9_maze_7 (by decide) ?_
  refine lv_icmp_eq (tgt := 15) hx hb dX9_maze_9 (by decide) (fun c2 => ?_) (fun c2 => ?_)
  · have hf := qob_t hf c2
    refine lv_aload_n hx hb dX9_maze_15 rfl (lv_at hl 0 rfl) ?_
    refine va_get (D := D) (ci := 9) (v := .ref sc) (C := RX9) (T := TX9) (N := 11) hx hb hts inwX9_maze_X9 hown hK hP 0 rfl rfl 0 (by decide) (hts (.fieldLink RX9 12 "HedgeWays" "scroll" "LHedgeWays$Scroll;") (List.mem_of_getElem? (i := 1) rfl)) (fun _ h9 => h9) rfl dX9_maze_16 ?_
    refine lv_aload_n hx hb dX9_maze_19 rfl (lv_at hl 0 rfl) ?_
    refine va_get (D := D) (ci := 9) (v := .ref g) (C := RX9) (T := TX9) (N := 11) hx hb hts inwX9_maze_X9 hown hK hP 0 rfl rfl 1 (by decide) (hts (.fieldLink RX9 19 "HedgeWays" "grid" "LHedgeWays$Grid;") (List.mem_of_getElem? (i := 2) rfl)) (fun _ h9 => h9) rfl dX9_maze_20 ?_
    obtain ⟨g_rows_1, g_columns_1, g_a_1, g_b_1, g_cells_1, g_right_1, g_down_1, q3, hf⟩ := qcall7 hf
    refine ctV_v (wc := [oX5 sc q_sc_bytes sc_length, aI cy q_sc_bytes 41 sc_bytes, oX1 g g_rows g_columns g_a g_b g_cells g_right g_down]) (w1 := [oX5 sc q_sc_bytes sc_length, aI cy q_sc_bytes 41 sc_bytes, oX1 g g_rows_1 g_columns_1 g_a_1 g_b_1 g_cells_1 g_right_1 g_down_1]) (wr := [oX9 hw sc g tn sl mk sv ro wk su ch hu]) (wn := [oX9 hw sc g tn sl mk sv ro wk su ch hu, oX5 sc q_sc_bytes sc_length, aI cy q_sc_bytes 41 sc_bytes, oX1 g g_rows_1 g_columns_1 g_a_1 g_b_1 g_cells_1 g_right_1 g_down_1]) (As := [.ref g]) (rest := []) (q0 := 1) X hK hP hD hS [1, 2, 3] [0] [0, 1, 2, 3] rfl rfl rfl rfl rfl (by decide) rfl rfl rfl (KX5_copyTo q3 _) (cwV 1 hts gX9_maze_X5_copyTo rfl rfl rfl hdX5_copyTo ⟨Nat.le_of_ble_eq_true rfl, Nat.le_of_ble_eq_true rfl⟩) rfl rfl rfl hl rfl (Nat.le_of_ble_eq_true rfl) dX9_maze_23 (Nat.zero_le _) (Nat.zero_le _) (fun H locs hP hD hS => ?_)
    refine lv_aload_n hx hb dX9_maze_26 rfl (lv_at hl 0 rfl) ?_
    refine va_get (D := D) (ci := 9) (v := .ref g) (C := RX9) (T := TX9) (N := 11) hx hb hts inwX9_maze_X9 hown hK hP 0 rfl rfl 1 (by decide) (hts (.fieldLink RX9 19 "HedgeWays" "grid" "LHedgeWays$Grid;") (List.mem_of_getElem? (i := 2) rfl)) (fun _ h9 => h9) rfl dX9_maze_27 ?_
    refine ctV_i0 (r := (fX1_size g_rows_1 g_columns_1)) (wc := [oX1 g g_rows_1 g_columns_1 g_a_1 g_b_1 g_cells_1 g_right_1 g_down_1]) (As := []) (rest := []) (q0 := 3) X hK hP hD hS [3] rfl rfl rfl (KX1_size rfl _) (cwV 0 hts gX9_maze_X1_size rfl rfl rfl hdX1_size ⟨Nat.le_of_ble_eq_true rfl, Nat.le_of_ble_eq_true rfl⟩) rfl rfl rfl hl rfl (Nat.le_of_ble_eq_true rfl) dX9_maze_30 (Nat.zero_le _) (Nat.zero_le _) (fun H locs hP hS => ?_)
    cases qob_ret hf
    exact ct_iret X hQ hK hP hD hS rfl dX9_maze_33
  · have hf := qob_f hf c2
    refine lv_bipush (v := (-3)) hx hb dX9_maze_12 (by decide) ?_
    cases qob_ret hf
    exact ct_iret X hQ hK hP hD hS rfl dX9_maze_14
theorem inwX9_make_X9 : ∀ w ∈ wsX90, w ∈ wsX9_make := fun _ h => List.mem_cons_of_mem _ (List.mem_append_left _ (List.mem_append_left _ (List.mem_append_right _ h)))
abbrev rmX9_make : Room := { frames := 5, cells := 0, slots := 0, locals := 124 }
theorem hdX9_make : yX9_make.cls = RX9 ∧ yX9_make.cls ≠ "java/lang/invoke/MethodHandle" ∧ yX9_make.cls ≠ "java/lang/invoke/VarHandle" ∧ (parseMethodDescriptor yX9_make.desc).map (fun d => d.parameters.length) = some 4 := by decide +kernel
set_option maxHeartbeats 4000000 in
set_option maxRecDepth 100000 in
theorem KX9_make {l : Launch} {D : va_G} {cy : Nat → ClassId} {hw sc g tn sl mk sv ro wk su ch hu q_mk_hedges q_mk_cameFrom : Nat} {g_rows : Int32} {g_columns : Int32} {g_a : Int32} {g_b : Int32} {g_cells : Int64} {g_right : Int64} {g_down : Int64} {mk_x : Int64} {mk_hedges : Nat → Int32} {mk_cameFrom : Nat → Int32} {p1 : Int32} {p2 : Int32} {p3 : Int64} {p4 : Int32} {r : Int32} {g_rows' : Int32} {g_columns' : Int32} {g_a' : Int32} {g_b' : Int32} {g_cells' : Int64} {g_right' : Int64} {g_down' : Int64} {mk_x' : Int64} {mk_hedges' : Nat → Int32} {mk_cameFrom' : Nat → Int32} (hf : fX9_make g_rows g_columns g_a g_b g_cells g_right g_down mk_x mk_hedges mk_cameFrom p1 p2 p3 p4 = some (r, g_rows', g_columns', g_a', g_b', g_cells', g_right', g_down', mk_x', mk_hedges', mk_cameFrom')) : CtI l yX9_make wsX9_make rmX9_make D cy [.ref hw, .int p1, .int p2, .long p3, .int p4] ([oX9 hw sc g tn sl mk sv ro wk su ch hu, oX1 g g_rows g_columns g_a g_b g_cells g_right g_down, oX3 mk g q_mk_hedges q_mk_cameFrom mk_x, aI cy q_mk_hedges 60 mk_hedges, aI cy q_mk_cameFrom 48 mk_cameFrom]) ([oX9 hw sc g tn sl mk sv ro wk su ch hu, oX1 g g_rows' g_columns' g_a' g_b' g_cells' g_right' g_down', oX3 mk g q_mk_hedges q_mk_cameFrom mk_x', aI cy q_mk_hedges 60 mk_hedges', aI cy q_mk_cameFrom 48 mk_cameFrom']) r := by
  refine CtI.of (cc := cX9_make) (maxL := 6) (ret := some .int) (own := RX9) (by decide) rfl rfl (Nat.le_of_ble_eq_true rfl) ?_
  intro p e s m args below meth c A Q X hQ hK hP hD hS ls hl
  obtain ⟨hx, hb, hml, hown, hts, hr, hlocks, hA, hZ⟩ := id X
  have hl : lv_has ls 6 [(0, .ref hw), (1, .int p1), (2, .int p2), (3, .long p3), (5, .int p4)] := hl
  unfold fX9_make at hf
  have hf := qob_top hf
  refine lv_iload_n hx hb dX9_make_0 rfl (lv_at hl 1 rfl) ?_
  refine lv_iconst (v := 1) hx hb dX9_make_1 (by decide) ?_
  refine lv_icmp_lt (tgt := 33) hx hb dX9_make_2 (by decide) (fun c1 => ?_) (fun c1 => ?_)
  · have hf := qob_t hf c1
    refine lv_bipush (v := (-2)) hx hb dX9_make_33 (by decide) ?_
    cases qob_ret hf
    exact ct_iret X hQ hK hP hD hS rfl dX9_make_35
  · have hf := qob_f hf c1
    refine lv_iload_n hx hb dX9_make_5 rfl (lv_at hl 1 rfl) ?_
    refine lv_bipush (v := 6) hx hb dX9_make_6 (by decide) ?_
    refine lv_icmp_gt (tgt := 33) hx hb dX9_make_8 (by decide) (fun c2 => ?_) (fun c2 => ?_)
    · have hf := qob_t hf c2
      refine lv_bipush (v := (-2)) hx hb dX9_make_33 (by decide) ?_
      cases qob_ret hf
      exact ct_iret X hQ hK hP hD hS rfl dX9_make_35
    · have hf := qob_f hf c2
      refine lv_iload_n hx hb dX9_make_11 rfl (lv_at hl 2 rfl) ?_
      refine lv_iconst (v := 1) hx hb dX9_make_12 (by decide) ?_
      refine lv_icmp_lt (tgt := 33) hx hb dX9_make_13 (by decide) (fun c3 => ?_) (fun c3 => ?_)
      · have hf := qob_t hf c3
        refine lv_bipush (v := (-2)) hx hb dX9_make_33 (by decide) ?_
        cases qob_ret hf
        exact ct_iret X hQ hK hP hD hS rfl dX9_make_35
      · have hf := qob_f hf c3
        refine lv_iload_n hx hb dX9_make_16 rfl (lv_at hl 2 rfl) ?_
        refine lv_bipush (v := 6) hx hb dX9_make_17 (by decide) ?_
        refine lv_icmp_gt (tgt := 33) hx hb dX9_make_19 (by decide) (fun c4 => ?_) (fun c4 => ?_)
        · have hf := qob_t hf c4
          refine lv_bipush (v := (-2)) hx hb dX9_make_33 (by decide) ?_
          cases qob_ret hf
          exact ct_iret X hQ hK hP hD hS rfl dX9_make_35
        · have hf := qob_f hf c4
          refine lv_iload hx hb dX9_make_22 (lv_at hl 4 rfl) ?_
          refine lv_if_lt (tgt := 33) hx hb dX9_make_24 (by decide) (fun c5 => ?_) (fun c5 => ?_)
          · have hf := qob_t hf c5
            refine lv_bipush (v := (-2)) hx hb dX9_make_33 (by decide) ?_
            cases qob_ret hf
            exact ct_iret X hQ hK hP hD hS rfl dX9_make_35
          · have hf := qob_f hf c5
            refine lv_iload hx hb dX9_make_27 (lv_at hl 4 rfl) ?_
            refine lv_iconst (v := 1) hx hb dX9_make_29 (by decide) ?_
            refine lv_icmp_le (tgt := 36) hx hb dX9_make_30 (by decide) (fun c6 => ?_) (fun c6 => ?_)
            · have hf := qob_t hf c6
              refine lv_aload_n hx hb dX9_make_36 rfl (lv_at hl 0 rfl) ?_
              refine va_get (D := D) (ci := 9) (v := .ref g) (C := RX9) (T := TX9) (N := 11) hx hb hts inwX9_make_X9 hown hK hP 0 rfl rfl 1 (by decide) (hts (.fieldLink RX9 19 "HedgeWays" "grid" "LHedgeWays$Grid;") (List.mem_of_getElem? (i := 1) rfl)) (fun _ h9 => h9) rfl dX9_make_37 ?_
              refine lv_iload_n hx hb dX9_make_40 rfl (lv_at hl 1 rfl) ?_
              refine lv_iload_n hx hb dX9_make_41 rfl (lv_at hl 2 rfl) ?_
              obtain ⟨g_rows_1, g_columns_1, g_a_1, g_b_1, g_cells_1, g_right_1, g_down_1, q7, hf⟩ := qcall7 hf
              refine ctV_v (wc := [oX1 g g_rows g_columns g_a g_b g_cells g_right g_down]) (w1 := [oX1 g g_rows_1 g_columns_1 g_a_1 g_b_1 g_cells_1 g_right_1 g_down_1]) (wr := [oX9 hw sc g tn sl mk sv ro wk su ch hu, oX3 mk g q_mk_hedges q_mk_cameFrom mk_x, aI cy q_mk_hedges 60 mk_hedges, aI cy q_mk_cameFrom 48 mk_cameFrom]) (wn := [oX9 hw sc g tn sl mk sv ro wk su ch hu, oX1 g g_rows_1 g_columns_1 g_a_1 g_b_1 g_cells_1 g_right_1 g_down_1, oX3 mk g q_mk_hedges q_mk_cameFrom mk_x, aI cy q_mk_hedges 60 mk_hedges, aI cy q_mk_cameFrom 48 mk_cameFrom]) (As := [.int p1, .int p2]) (rest := []) (q0 := 1) X hK hP hD hS [1] [0, 2, 3, 4] [0, 4, 1, 2, 3] rfl rfl rfl rfl rfl (by decide) rfl rfl rfl (KX1_shutAll q7 _) (cwV 2 hts gX9_make_X1_shutAll rfl rfl rfl hdX1_shutAll ⟨Nat.le_of_ble_eq_true rfl, Nat.le_of_ble_eq_true rfl⟩) rfl rfl rfl hl rfl (Nat.le_of_ble_eq_true rfl) dX9_make_42 (Nat.zero_le _) (Nat.zero_le _) (fun H locs hP hD hS => ?_)
              refine lv_iload hx hb dX9_make_45 (lv_at hl 4 rfl) ?_
              refine qjoin5 hf (fun (g_right_2 : Int64) (g_down_2 : Int64) (mk_x_1 : Int64) (mk_hedges_1 : Nat → Int32) (mk_cameFrom_1 : Nat → Int32) => ∀ (H : Heap) (locs : List Loc) (ls : Array Slot), ctW D A s ([oX9 hw sc g tn sl mk sv ro wk su ch hu, oX1 g g_rows_1 g_columns_1 g_a_1 g_b_1 g_cells_1 g_right_2 g_down_2, oX3 mk g q_mk_hedges q_mk_cameFrom mk_x_1, aI cy q_mk_hedges 60 mk_hedges_1, aI cy q_mk_cameFrom 48 mk_cameFrom_1]) H locs → lv_has ls 6 [(0, .ref hw)] → W p l e rmX9_make s m args below meth c H locs 0 0 Q (F0 m 69 ls [])) ?_ ?_
              · intro g_right_2 g_down_2 mk_x_1 mk_hedges_1 mk_cameFrom_1 hf H locs ls ⟨hP, hD, hS⟩ hl
                refine lv_aload_n hx hb dX9_make_69 rfl (lv_at hl 0 rfl) ?_
                refine va_get (D := D) (ci := 9) (v := .ref g) (C := RX9) (T := TX9) (N := 11) hx hb hts inwX9_make_X9 hown hK hP 0 rfl rfl 1 (by decide) (hts (.fieldLink RX9 19 "HedgeWays" "grid" "LHedgeWays$Grid;") (List.mem_of_getElem? (i := 1) rfl)) (fun _ h9 => h9) rfl dX9_make_70 ?_
                refine ctV_i0 (r := (fX1_size g_rows_1 g_columns_1)) (wc := [oX1 g g_rows_1 g_columns_1 g_a_1 g_b_1 g_cells_1 g_right_2 g_down_2]) (As := []) (rest := []) (q0 := 1) X hK hP hD hS [1] rfl rfl rfl (KX1_size rfl _) (cwV 0 hts gX9_make_X1_size rfl rfl rfl hdX1_size ⟨Nat.le_of_ble_eq_true rfl, Nat.le_of_ble_eq_true rfl⟩) rfl rfl rfl hl rfl (Nat.le_of_ble_eq_true rfl) dX9_make_73 (Nat.zero_le _) (Nat.zero_le _) (fun H locs hP hS => ?_)
                cases qob_ret hf
                exact ct_iret X hQ hK hP hD hS rfl dX9_make_76
              · intro J8 hJ8 hf
                refine lv_if_ne (tgt := 61) hx hb dX9_make_47 (by decide) (fun c9 => ?_) (fun c9 => ?_)
                · have hf := qob_f hf c9
                  refine lv_aload_n hx hb dX9_make_61 rfl (lv_at hl 0 rfl) ?_
                  refine va_get (D := D) (ci := 9) (v := .ref mk) (C := RX9) (T := TX9) (N := 11) hx hb hts inwX9_make_X9 hown hK hP 0 rfl rfl 4 (by decide) (hts (.fieldLink RX9 35 "HedgeWays" "maker" "LHedgeWays$Maker;") (List.mem_of_getElem? (i := 2) rfl)) (fun _ h9 => h9) rfl dX9_make_62 ?_
                  refine lv_lload_n hx hb dX9_make_65 rfl (lv_at hl 3 rfl) ?_
                  obtain ⟨mk_x_2, mk_cameFrom_2, g_right_3, g_down_3, q10, hf⟩ := qcall4 hf
                  refine ctV_v (wc := [oX3 mk g q_mk_hedges q_mk_cameFrom mk_x, aI cy q_mk_hedges 60 mk_hedges, aI cy q_mk_cameFrom 48 mk_cameFrom, oX1 g g_rows_1 g_columns_1 g_a_1 g_b_1 g_cells_1 g_right_1 g_down_1]) (w1 := [oX3 mk g q_mk_hedges q_mk_cameFrom mk_x_2, aI cy q_mk_hedges 60 mk_hedges, aI cy q_mk_cameFrom 48 mk_cameFrom_2, oX1 g g_rows_1 g_columns_1 g_a_1 g_b_1 g_cells_1 g_right_3 g_down_3]) (wr := [oX9 hw sc g tn sl mk sv ro wk su ch hu]) (wn := [oX9 hw sc g tn sl mk sv ro wk su ch hu, oX1 g g_rows_1 g_columns_1 g_a_1 g_b_1 g_cells_1 g_right_3 g_down_3, oX3 mk g q_mk_hedges q_mk_cameFrom mk_x_2, aI cy q_mk_hedges 60 mk_hedges, aI cy q_mk_cameFrom 48 mk_cameFrom_2]) (As := [.long p3]) (rest := []) (q0 := 2) X hK hP hD hS [2, 3, 4, 1] [0] [0, 4, 1, 2, 3] rfl rfl rfl rfl rfl (by decide) rfl rfl rfl (KX3_wander q10 _) (cwV 1 hts gX9_make_X3_wander rfl rfl rfl hdX3_wander ⟨Nat.le_of_ble_eq_true rfl, Nat.le_of_ble_eq_true rfl⟩) rfl rfl rfl hl rfl (Nat.le_of_ble_eq_true rfl) dX9_make_66 (Nat.zero_le _) (Nat.zero_le _) (fun H locs hP hD hS => ?_)
                  exact hJ8 g_right_3 g_down_3 mk_x_2 mk_hedges mk_cameFrom_2 hf _ _ _ ⟨hP, hD, hS⟩ (lv_sub hl [0] rfl)
                · have hf := qob_t hf c9
                  refine lv_aload_n hx hb dX9_make_50 rfl (lv_at hl 0 rfl) ?_
                  refine va_get (D := D) (ci := 9) (v := .ref mk) (C := RX9) (T := TX9) (N := 11) hx hb hts inwX9_make_X9 hown hK hP 0 rfl rfl 4 (by decide) (hts (.fieldLink RX9 35 "HedgeWays" "maker" "LHedgeWays$Maker;") (List.mem_of_getElem? (i := 2) rfl)) (fun _ h9 => h9) rfl dX9_make_51 ?_
                  refine lv_lload_n hx hb dX9_make_54 rfl (lv_at hl 3 rfl) ?_
                  obtain ⟨mk_x_3, mk_hedges_2, g_right_4, g_down_4, q11, hf⟩ := qcall4 hf
                  refine ctV_v (wc := [oX3 mk g q_mk_hedges q_mk_cameFrom mk_x, aI cy q_mk_hedges 60 mk_hedges, aI cy q_mk_cameFrom 48 mk_cameFrom, oX1 g g_rows_1 g_columns_1 g_a_1 g_b_1 g_cells_1 g_right_1 g_down_1]) (w1 := [oX3 mk g q_mk_hedges q_mk_cameFrom mk_x_3, aI cy q_mk_hedges 60 mk_hedges_2, aI cy q_mk_cameFrom 48 mk_cameFrom, oX1 g g_rows_1 g_columns_1 g_a_1 g_b_1 g_cells_1 g_right_4 g_down_4]) (wr := [oX9 hw sc g tn sl mk sv ro wk su ch hu]) (wn := [oX9 hw sc g tn sl mk sv ro wk su ch hu, oX1 g g_rows_1 g_columns_1 g_a_1 g_b_1 g_cells_1 g_right_4 g_down_4, oX3 mk g q_mk_hedges q_mk_cameFrom mk_x_3, aI cy q_mk_hedges 60 mk_hedges_2, aI cy q_mk_cameFrom 48 mk_cameFrom]) (As := [.long p3]) (rest := []) (q0 := 2) X hK hP hD hS [2, 3, 4, 1] [0] [0, 4, 1, 2, 3] rfl rfl rfl rfl rfl (by decide) rfl rfl rfl (KX3_joinParts q11 _) (cwV 1 hts gX9_make_X3_joinParts rfl rfl rfl hdX3_joinParts ⟨Nat.le_of_ble_eq_true rfl, Nat.le_of_ble_eq_true rfl⟩) rfl rfl rfl hl rfl (Nat.le_of_ble_eq_true rfl) dX9_make_55 (Nat.zero_le _) (Nat.zero_le _) (fun H locs hP hD hS => ?_)
                  refine lv_goto (tgt := 69) hx hb dX9_make_58 (by decide) ?_
                  exact hJ8 g_right_4 g_down_4 mk_x_3 mk_hedges_2 mk_cameFrom hf _ _ _ ⟨hP, hD, hS⟩ (lv_sub hl [0] rfl)
            · have hf := qob_f hf c6
              refine lv_bipush (v := (-2)) hx hb dX9_make_33 (by decide) ?_
              cases qob_ret hf
              exact ct_iret X hQ hK hP hD hS rfl dX9_make_35
abbrev rmX9_isSide : Room := { frames := 0, cells := 0, slots := 0, locals := 0 }
theorem hdX9_isSide : yX9_isSide.cls ≠ "java/lang/invoke/MethodHandle" ∧ yX9_isSide.cls ≠ "java/lang/invoke/VarHandle" ∧ (parseMethodDescriptor yX9_isSide.desc).map (fun d => d.parameters.length) = some 1 := by decide +kernel
set_option maxHeartbeats 4000000 in
set_option maxRecDepth 100000 in
theorem KX9_isSide {l : Launch} {D : va_G} {cy : Nat → ClassId}  {p1 : Int32} {r : Int32} (hf : fX9_isSide p1 = r) : CtI l yX9_isSide wsX9_isSide rmX9_isSide D cy [.int p1] ([]) ([]) r := by
  refine CtI.of (cc := cX9_isSide) (maxL := 1) (ret := some .boolean) (own := RX9) (by decide) rfl rfl (Nat.le_of_ble_eq_true rfl) ?_
  intro p e s m args below meth c A Q X hQ hK hP hD hS ls hl
  obtain ⟨hx, hb, hml, hown, hts, hr, hlocks, hA, hZ⟩ := id X
  have hl : lv_has ls 1 [(0, .int p1)] := hl
  unfold fX9_isSide at hf
  have hf := qbb_top hf
  refine lv_iload_n hx hb dX9_isSide_0 rfl (lv_at hl 0 rfl) ?_
  refine lv_if_lt (tgt := 13) hx hb dX9_isSide_1 (by decide) (fun c1 => ?_) (fun c1 => ?_)
  · have hf := qbb_t hf c1
    refine lv_iconst (v := 0) hx hb dX9_isSide_13 (by decide) ?_
    cases qbb_ret hf
    exact ct_zret X hQ hK hP hD hS qnb0 dX9_isSide_14
  · have hf := qbb_f hf c1
    refine lv_iload_n hx hb dX9_isSide_4 rfl (lv_at hl 0 rfl) ?_
    refine lv_iconst (v := 4) hx hb dX9_isSide_5 (by decide) ?_
    refine lv_icmp_ge (tgt := 13) hx hb dX9_isSide_6 (by decide) (fun c2 => ?_) (fun c2 => ?_)
    · have hf := qbb_t hf c2
      refine lv_iconst (v := 0) hx hb dX9_isSide_13 (by decide) ?_
      cases qbb_ret hf
      exact ct_zret X hQ hK hP hD hS qnb0 dX9_isSide_14
    · have hf := qbb_f hf c2
      refine lv_iconst (v := 1) hx hb dX9_isSide_9 (by decide) ?_
      refine lv_goto (tgt := 14) hx hb dX9_isSide_10 (by decide) ?_
      cases qbb_ret hf
      exact ct_zret X hQ hK hP hD hS qnb1 dX9_isSide_14
abbrev rmX9_oneIf : Room := { frames := 0, cells := 0, slots := 0, locals := 0 }
theorem hdX9_oneIf : yX9_oneIf.cls ≠ "java/lang/invoke/MethodHandle" ∧ yX9_oneIf.cls ≠ "java/lang/invoke/VarHandle" ∧ (parseMethodDescriptor yX9_oneIf.desc).map (fun d => d.parameters.length) = some 1 := by decide +kernel
set_option maxHeartbeats 4000000 in
set_option maxRecDepth 100000 in
theorem KX9_oneIf {l : Launch} {D : va_G} {cy : Nat → ClassId}  {p1 : Int32} {r : Int32} (hf : fX9_oneIf p1 = r) : CtI l yX9_oneIf wsX9_oneIf rmX9_oneIf D cy [.int p1] ([]) ([]) r := by
  refine CtI.of (cc := cX9_oneIf) (maxL := 1) (ret := some .int) (own := RX9) (by decide) rfl rfl (Nat.le_of_ble_eq_true rfl) ?_
  intro p e s m args below meth c A Q X hQ hK hP hD hS ls hl
  obtain ⟨hx, hb, hml, hown, hts, hr, hlocks, hA, hZ⟩ := id X
  have hl : lv_has ls 1 [(0, .int p1)] := hl
  unfold fX9_oneIf at hf
  have hf := qbb_top hf
  refine lv_iload_n hx hb dX9_oneIf_0 rfl (lv_at hl 0 rfl) ?_
  refine lv_if_eq (tgt := 8) hx hb dX9_oneIf_1 (by decide) (fun c1 => ?_) (fun c1 => ?_)
  · have hf := qbb_t hf c1
    refine lv_iconst (v := 0) hx hb dX9_oneIf_8 (by decide) ?_
    cases qbb_ret hf
    exact ct_iret X hQ hK hP hD hS rfl dX9_oneIf_9
  · have hf := qbb_f hf c1
    refine lv_iconst (v := 1) hx hb dX9_oneIf_4 (by decide) ?_
    refine lv_goto (tgt := 9) hx hb dX9_oneIf_5 (by decide) ?_
    cases qbb_ret hf
    exact ct_iret X hQ hK hP hD hS rfl dX9_oneIf_9
theorem inwX9_open_X9 : ∀ w ∈ wsX90, w ∈ wsX9_open := fun _ h => List.mem_cons_of_mem _ (List.mem_append_left _ (List.mem_append_right _ h))
abbrev rmX9_open : Room := { frames := 2, cells := 0, slots := 0, locals := 44 }
theorem hdX9_open : yX9_open.cls = RX9 ∧ yX9_open.cls ≠ "java/lang/invoke/MethodHandle" ∧ yX9_open.cls ≠ "java/lang/invoke/VarHandle" ∧ (parseMethodDescriptor yX9_open.desc).map (fun d => d.parameters.length) = some 2 := by decide +kernel
set_option maxHeartbeats 4000000 in
set_option maxRecDepth 100000 in
theorem KX9_open {l : Launch} {D : va_G} {cy : Nat → ClassId} {hw sc g tn sl mk sv ro wk su ch hu : Nat} {g_rows : Int32} {g_columns : Int32} {g_a : Int32} {g_b : Int32} {g_cells : Int64} {g_right : Int64} {g_down : Int64} {p1 : Int32} {p2 : Int32} {r : Int32} (hf : fX9_open g_rows g_columns g_right g_down p1 p2 = r) : CtI l yX9_open wsX9_open rmX9_open D cy [.ref hw, .int p1, .int p2] ([oX9 hw sc g tn sl mk sv ro wk su ch hu, oX1 g g_rows g_columns g_a g_b g_cells g_right g_down]) ([oX9 hw sc g tn sl mk sv ro wk su ch hu, oX1 g g_rows g_columns g_a g_b g_cells g_right g_down]) r := by
  refine CtI.of (cc := cX9_open) (maxL := 4) (ret := some .int) (own := RX9) (by decide) rfl rfl (Nat.le_of_ble_eq_true rfl) ?_
  intro p e s m args below meth c A Q X hQ hK hP hD hS ls hl
  obtain ⟨hx, hb, hml, hown, hts, hr, hlocks, hA, hZ⟩ := id X
  have hl : lv_has ls 4 [(0, .ref hw), (1, .int p1), (2, .int p2)] := hl
  unfold fX9_open at hf
  have hf := qbb_top hf
  refine lv_aload_n hx hb dX9_open_0 rfl (lv_at hl 0 rfl) ?_
  refine va_get (D := D) (ci := 9) (v := .ref g) (C := RX9) (T := TX9) (N := 11) hx hb hts inwX9_open_X9 hown hK hP 0 rfl rfl 1 (by decide) (hts (.fieldLink RX9 19 "HedgeWays" "grid" "LHedgeWays$Grid;") (List.mem_of_getElem? (i := 1) rfl)) (fun _ h9 => h9) rfl dX9_open_1 ?_
  refine lv_iload_n hx hb dX9_open_4 rfl (lv_at hl 1 rfl) ?_
  refine ctV_i0 (r := (fX1_placeOf g_rows g_columns p1)) (wc := [oX1 g g_rows g_columns g_a g_b g_cells g_right g_down]) (As := [.int p1]) (rest := []) (q0 := 1) X hK hP hD hS [1] rfl rfl rfl (KX1_placeOf rfl _) (cwV 1 hts gX9_open_X1_placeOf rfl rfl rfl hdX1_placeOf ⟨Nat.le_of_ble_eq_true rfl, Nat.le_of_ble_eq_true rfl⟩) rfl rfl rfl hl rfl (Nat.le_of_ble_eq_true rfl) dX9_open_5 (Nat.zero_le _) (Nat.zero_le _) (fun H locs hP hS => ?_)
  refine lv_istore_n (lv' := [(3, .int (fX1_placeOf g_rows g_columns p1)), (0, .ref hw), (1, .int p1), (2, .int p2)]) hx hb dX9_open_8 rfl hl (by decide) rfl (fun ls hl => ?_)
  refine lv_iload_n hx hb dX9_open_9 rfl (lv_at hl 0 rfl) ?_
  refine lv_iconst (v := (-1)) hx hb dX9_open_10 (by decide) ?_
  refine lv_icmp_eq (tgt := 21) hx hb dX9_open_11 (by decide) (fun c1 => ?_) (fun c1 => ?_)
  · have hf := qbb_t hf c1
    refine lv_iconst (v := (-1)) hx hb dX9_open_21 (by decide) ?_
    cases qbb_ret hf
    exact ct_iret X hQ hK hP hD hS rfl dX9_open_22
  · have hf := qbb_f hf c1
    refine lv_iload_n hx hb dX9_open_14 rfl (lv_at hl 3 rfl) ?_
    refine ctS_i0 (r := (fX9_isSide p2)) (wc := []) (As := [.int p2]) (rest := []) X hK hP hD hS [] rfl rfl rfl (KX9_isSide rfl _) (va_cwS 1 hts gX9_open_X9_isSide rfl rfl rfl hdX9_isSide ⟨Nat.le_of_ble_eq_true rfl, Nat.le_of_ble_eq_true rfl⟩) rfl hl rfl (Nat.le_of_ble_eq_true rfl) dX9_open_15 (Nat.zero_le _) (Nat.zero_le _) (fun H locs hP hS => ?_)
    refine lv_if_ne (tgt := 23) hx hb dX9_open_18 (by decide) (fun c2 => ?_) (fun c2 => ?_)
    · have hf := qbb_f hf c2
      refine lv_aload_n hx hb dX9_open_23 rfl (lv_at hl 1 rfl) ?_
      refine va_get (D := D) (ci := 9) (v := .ref g) (C := RX9) (T := TX9) (N := 11) hx hb hts inwX9_open_X9 hown hK hP 0 rfl rfl 1 (by decide) (hts (.fieldLink RX9 19 "HedgeWays" "grid" "LHedgeWays$Grid;") (List.mem_of_getElem? (i := 1) rfl)) (fun _ h9 => h9) rfl dX9_open_24 ?_
      refine lv_iload_n hx hb dX9_open_27 rfl (lv_at hl 0 rfl) ?_
      refine lv_iload_n hx hb dX9_open_28 rfl (lv_at hl 3 rfl) ?_
      refine ctV_i0 (r := (fX1_isOpen g_right g_down (fX1_placeOf g_rows g_columns p1) p2)) (wc := [oX1 g g_rows g_columns g_a g_b g_cells g_right g_down]) (As := [.int (fX1_placeOf g_rows g_columns p1), .int p2]) (rest := []) (q0 := 1) X hK hP hD hS [1] rfl rfl rfl (KX1_isOpen rfl _) (cwV 2 hts gX9_open_X1_isOpen rfl rfl rfl hdX1_isOpen ⟨Nat.le_of_ble_eq_true rfl, Nat.le_of_ble_eq_true rfl⟩) rfl rfl rfl hl rfl (Nat.le_of_ble_eq_true rfl) dX9_open_29 (Nat.zero_le _) (Nat.zero_le _) (fun H locs hP hS => ?_)
      refine ctS_i0 (r := (fX9_oneIf (fX1_isOpen g_right g_down (fX1_placeOf g_rows g_columns p1) p2))) (wc := []) (As := [.int (fX1_isOpen g_right g_down (fX1_placeOf g_rows g_columns p1) p2)]) (rest := []) X hK hP hD hS [] rfl rfl rfl (KX9_oneIf rfl _) (va_cwS 1 hts gX9_open_X9_oneIf rfl rfl rfl hdX9_oneIf ⟨Nat.le_of_ble_eq_true rfl, Nat.le_of_ble_eq_true rfl⟩) rfl hl rfl (Nat.le_of_ble_eq_true rfl) dX9_open_32 (Nat.zero_le _) (Nat.zero_le _) (fun H locs hP hS => ?_)
      cases qbb_ret hf
      exact ct_iret X hQ hK hP hD hS rfl dX9_open_35
    · have hf := qbb_t hf c2
      refine lv_iconst (v := (-1)) hx hb dX9_open_21 (by decide) ?_
      cases qbb_ret hf
      exact ct_iret X hQ hK hP hD hS rfl dX9_open_22
theorem inwX9_hedge_X9 : ∀ w ∈ wsX90, w ∈ wsX9_hedge := fun _ h => List.mem_cons_of_mem _ (List.mem_append_left _ (List.mem_append_right _ h))
abbrev rmX9_hedge : Room := { frames := 3, cells := 0, slots := 0, locals := 71 }
theorem hdX9_hedge : yX9_hedge.cls = RX9 ∧ yX9_hedge.cls ≠ "java/lang/invoke/MethodHandle" ∧ yX9_hedge.cls ≠ "java/lang/invoke/VarHandle" ∧ (parseMethodDescriptor yX9_hedge.desc).map (fun d => d.parameters.length) = some 3 := by decide +kernel
set_option maxHeartbeats 4000000 in
set_option maxRecDepth 100000 in
theorem KX9_hedge {l : Launch} {D : va_G} {cy : Nat → ClassId} {hw sc g tn sl mk sv ro wk su ch hu : Nat} {g_rows : Int32} {g_columns : Int32} {g_a : Int32} {g_b : Int32} {g_cells : Int64} {g_right : Int64} {g_down : Int64} {p1 : Int32} {p2 : Int32} {p3 : Int32} {r : Int32} {g_right' : Int64} {g_down' : Int64} (hf : fX9_hedge g_rows g_columns g_cells g_right g_down p1 p2 p3 = (r, g_right', g_down')) : CtI l yX9_hedge wsX9_hedge rmX9_hedge D cy [.ref hw, .int p1, .int p2, .int p3] ([oX9 hw sc g tn sl mk sv ro wk su ch hu, oX1 g g_rows g_columns g_a g_b g_cells g_right g_down]) ([oX9 hw sc g tn sl mk sv ro wk su ch hu, oX1 g g_rows g_columns g_a g_b g_cells g_right' g_down']) r := by
  refine CtI.of (cc := cX9_hedge) (maxL := 6) (ret := some .int) (own := RX9) (by decide) rfl rfl (Nat.le_of_ble_eq_true rfl) ?_
  intro p e s m args below meth c A Q X hQ hK hP hD hS ls hl
  obtain ⟨hx, hb, hml, hown, hts, hr, hlocks, hA, hZ⟩ := id X
  have hl : lv_has ls 6 [(0, .ref hw), (1, .int p1), (2, .int p2), (3, .int p3)] := hl
  unfold fX9_hedge at hf
  have hf := qbb_top hf
  refine lv_aload_n hx hb dX9_hedge_0 rfl (lv_at hl 0 rfl) ?_
  refine va_get (D := D) (ci := 9) (v := .ref g) (C := RX9) (T := TX9) (N := 11) hx hb hts inwX9_hedge_X9 hown hK hP 0 rfl rfl 1 (by decide) (hts (.fieldLink RX9 19 "HedgeWays" "grid" "LHedgeWays$Grid;") (List.mem_of_getElem? (i := 1) rfl)) (fun _ h9 => h9) rfl dX9_hedge_1 ?_
  refine lv_iload_n hx hb dX9_hedge_4 rfl (lv_at hl 1 rfl) ?_
  refine ctV_i0 (r := (fX1_placeOf g_rows g_columns p1)) (wc := [oX1 g g_rows g_columns g_a g_b g_cells g_right g_down]) (As := [.int p1]) (rest := []) (q0 := 1) X hK hP hD hS [1] rfl rfl rfl (KX1_placeOf rfl _) (cwV 1 hts gX9_hedge_X1_placeOf rfl rfl rfl hdX1_placeOf ⟨Nat.le_of_ble_eq_true rfl, Nat.le_of_ble_eq_true rfl⟩) rfl rfl rfl hl rfl (Nat.le_of_ble_eq_true rfl) dX9_hedge_5 (Nat.zero_le _) (Nat.zero_le _) (fun H locs hP hS => ?_)
  refine lv_istore (lv' := [(4, .int (fX1_placeOf g_rows g_columns p1)), (0, .ref hw), (1, .int p1), (2, .int p2), (3, .int p3)]) hx hb dX9_hedge_8 hl (by decide) rfl (fun ls hl => ?_)
  refine lv_iload hx hb dX9_hedge_10 (lv_at hl 0 rfl) ?_
  refine lv_iconst (v := (-1)) hx hb dX9_hedge_12 (by decide) ?_
  refine lv_icmp_eq (tgt := 23) hx hb dX9_hedge_13 (by decide) (fun c1 => ?_) (fun c1 => ?_)
  · have hf := qbb_t hf c1
    refine lv_iconst (v := (-1)) hx hb dX9_hedge_23 (by decide) ?_
    cases qbb_ret hf
    exact ct_iret X hQ hK hP hD hS rfl dX9_hedge_24
  · have hf := qbb_f hf c1
    refine lv_iload_n hx hb dX9_hedge_16 rfl (lv_at hl 3 rfl) ?_
    refine ctS_i0 (r := (fX9_isSide p2)) (wc := []) (As := [.int p2]) (rest := []) X hK hP hD hS [] rfl rfl rfl (KX9_isSide rfl _) (va_cwS 1 hts gX9_hedge_X9_isSide rfl rfl rfl hdX9_isSide ⟨Nat.le_of_ble_eq_true rfl, Nat.le_of_ble_eq_true rfl⟩) rfl hl rfl (Nat.le_of_ble_eq_true rfl) dX9_hedge_17 (Nat.zero_le _) (Nat.zero_le _) (fun H locs hP hS => ?_)
    refine lv_if_ne (tgt := 25) hx hb dX9_hedge_20 (by decide) (fun c2 => ?_) (fun c2 => ?_)
    · have hf := qbb_f hf c2
      refine lv_aload_n hx hb dX9_hedge_25 rfl (lv_at hl 1 rfl) ?_
      refine va_get (D := D) (ci := 9) (v := .ref g) (C := RX9) (T := TX9) (N := 11) hx hb hts inwX9_hedge_X9 hown hK hP 0 rfl rfl 1 (by decide) (hts (.fieldLink RX9 19 "HedgeWays" "grid" "LHedgeWays$Grid;") (List.mem_of_getElem? (i := 1) rfl)) (fun _ h9 => h9) rfl dX9_hedge_26 ?_
      refine lv_iload hx hb dX9_hedge_29 (lv_at hl 0 rfl) ?_
      refine lv_iload_n hx hb dX9_hedge_31 rfl (lv_at hl 3 rfl) ?_
      refine ctV_i0 (r := (fX1_beside g_cells (fX1_placeOf g_rows g_columns p1) p2)) (wc := [oX1 g g_rows g_columns g_a g_b g_cells g_right g_down]) (As := [.int (fX1_placeOf g_rows g_columns p1), .int p2]) (rest := []) (q0 := 1) X hK hP hD hS [1] rfl rfl rfl (KX1_beside rfl _) (cwV 2 hts gX9_hedge_X1_beside rfl rfl rfl hdX1_beside ⟨Nat.le_of_ble_eq_true rfl, Nat.le_of_ble_eq_true rfl⟩) rfl rfl rfl hl rfl (Nat.le_of_ble_eq_true rfl) dX9_hedge_32 (Nat.zero_le _) (Nat.zero_le _) (fun H locs hP hS => ?_)
      refine lv_iconst (v := (-1)) hx hb dX9_hedge_35 (by decide) ?_
      refine lv_icmp_ne (tgt := 42) hx hb dX9_hedge_36 (by decide) (fun c3 => ?_) (fun c3 => ?_)
      · have hf := qbb_f hf c3
        refine lv_aload_n hx hb dX9_hedge_42 rfl (lv_at hl 1 rfl) ?_
        refine va_get (D := D) (ci := 9) (v := .ref g) (C := RX9) (T := TX9) (N := 11) hx hb hts inwX9_hedge_X9 hown hK hP 0 rfl rfl 1 (by decide) (hts (.fieldLink RX9 19 "HedgeWays" "grid" "LHedgeWays$Grid;") (List.mem_of_getElem? (i := 1) rfl)) (fun _ h9 => h9) rfl dX9_hedge_43 ?_
        refine lv_iload hx hb dX9_hedge_46 (lv_at hl 0 rfl) ?_
        refine lv_iload_n hx hb dX9_hedge_48 rfl (lv_at hl 3 rfl) ?_
        refine ctV_i0 (r := (fX1_isOpen g_right g_down (fX1_placeOf g_rows g_columns p1) p2)) (wc := [oX1 g g_rows g_columns g_a g_b g_cells g_right g_down]) (As := [.int (fX1_placeOf g_rows g_columns p1), .int p2]) (rest := []) (q0 := 1) X hK hP hD hS [1] rfl rfl rfl (KX1_isOpen rfl _) (cwV 2 hts gX9_hedge_X1_isOpen rfl rfl rfl hdX1_isOpen ⟨Nat.le_of_ble_eq_true rfl, Nat.le_of_ble_eq_true rfl⟩) rfl rfl rfl hl rfl (Nat.le_of_ble_eq_true rfl) dX9_hedge_49 (Nat.zero_le _) (Nat.zero_le _) (fun H locs hP hS => ?_)
        refine ctS_i0 (r := (fX9_oneIf (fX1_isOpen g_right g_down (fX1_placeOf g_rows g_columns p1) p2))) (wc := []) (As := [.int (fX1_isOpen g_right g_down (fX1_placeOf g_rows g_columns p1) p2)]) (rest := []) X hK hP hD hS [] rfl rfl rfl (KX9_oneIf rfl _) (va_cwS 1 hts gX9_hedge_X9_oneIf rfl rfl rfl hdX9_oneIf ⟨Nat.le_of_ble_eq_true rfl, Nat.le_of_ble_eq_true rfl⟩) rfl hl rfl (Nat.le_of_ble_eq_true rfl) dX9_hedge_52 (Nat.zero_le _) (Nat.zero_le _) (fun H locs hP hS => ?_)
        refine lv_topi (fun x5_1 e4 => ?_)
        have hf := qbb_bd hf e4
        refine lv_istore (lv' := [(5, .int x5_1), (4, .int (fX1_placeOf g_rows g_columns p1)), (0, .ref hw), (1, .int p1), (2, .int p2), (3, .int p3)]) hx hb dX9_hedge_55 hl (by decide) rfl (fun ls hl => ?_)
        refine lv_aload_n hx hb dX9_hedge_57 rfl (lv_at hl 2 rfl) ?_
        refine va_get (D := D) (ci := 9) (v := .ref g) (C := RX9) (T := TX9) (N := 11) hx hb hts inwX9_hedge_X9 hown hK hP 0 rfl rfl 1 (by decide) (hts (.fieldLink RX9 19 "HedgeWays" "grid" "LHedgeWays$Grid;") (List.mem_of_getElem? (i := 1) rfl)) (fun _ h9 => h9) rfl dX9_hedge_58 ?_
        refine lv_iload hx hb dX9_hedge_61 (lv_at hl 1 rfl) ?_
        refine lv_iload_n hx hb dX9_hedge_63 rfl (lv_at hl 4 rfl) ?_
        refine lv_iload_n hx hb dX9_hedge_64 rfl (lv_at hl 5 rfl) ?_
        obtain ⟨g_right_1, g_down_1, q5, hf⟩ := qcallB2 hf
        refine ctV_v (wc := [oX1 g g_rows g_columns g_a g_b g_cells g_right g_down]) (w1 := [oX1 g g_rows g_columns g_a g_b g_cells g_right_1 g_down_1]) (wr := [oX9 hw sc g tn sl mk sv ro wk su ch hu]) (wn := [oX9 hw sc g tn sl mk sv ro wk su ch hu, oX1 g g_rows g_columns g_a g_b g_cells g_right_1 g_down_1]) (As := [.int (fX1_placeOf g_rows g_columns p1), .int p2, .int p3]) (rest := []) (q0 := 1) X hK hP hD hS [1] [0] [0, 1] rfl rfl rfl rfl rfl (by decide) rfl rfl rfl (KX1_setOpen q5 _) (cwV 3 hts gX9_hedge_X1_setOpen rfl rfl rfl hdX1_setOpen ⟨Nat.le_of_ble_eq_true rfl, Nat.le_of_ble_eq_true rfl⟩) rfl rfl rfl hl rfl (Nat.le_of_ble_eq_true rfl) dX9_hedge_65 (Nat.zero_le _) (Nat.zero_le _) (fun H locs hP hD hS => ?_)
        refine lv_iload hx hb dX9_hedge_68 (lv_at hl 0 rfl) ?_
        cases qbb_ret hf
        exact ct_iret X hQ hK hP hD hS rfl dX9_hedge_70
      · have hf := qbb_t hf c3
        refine lv_bipush (v := (-3)) hx hb dX9_hedge_39 (by decide) ?_
        cases qbb_ret hf
        exact ct_iret X hQ hK hP hD hS rfl dX9_hedge_41
    · have hf := qbb_t hf c2
      refine lv_iconst (v := (-1)) hx hb dX9_hedge_23 (by decide) ?_
      cases qbb_ret hf
      exact ct_iret X hQ hK hP hD hS rfl dX9_hedge_24
theorem inwX9_gates_X1 : ∀ w ∈ wsX10, w ∈ wsX9_gates := fun _ h => List.mem_cons_of_mem _ (List.mem_append_right _ h)
theorem inwX9_gates_X9 : ∀ w ∈ wsX90, w ∈ wsX9_gates := fun _ h => List.mem_cons_of_mem _ (List.mem_append_left _ (List.mem_append_right _ h))
abbrev rmX9_gates : Room := { frames := 1, cells := 0, slots := 0, locals := 23 }
theorem hdX9_gates : yX9_gates.cls = RX9 ∧ yX9_gates.cls ≠ "java/lang/invoke/MethodHandle" ∧ yX9_gates.cls ≠ "java/lang/invoke/VarHandle" ∧ (parseMethodDescriptor yX9_gates.desc).map (fun d => d.parameters.length) = some 2 := by decide +kernel
set_option maxHeartbeats 4000000 in
set_option maxRecDepth 100000 in
theorem KX9_gates {l : Launch} {D : va_G} {cy : Nat → ClassId} {hw sc g tn sl mk sv ro wk su ch hu : Nat} {g_rows : Int32} {g_columns : Int32} {g_a : Int32} {g_b : Int32} {g_cells : Int64} {g_right : Int64} {g_down : Int64} {p1 : Int32} {p2 : Int32} {r : Int32} {g_a' : Int32} {g_b' : Int32} (hf : fX9_gates g_rows g_columns g_a g_b p1 p2 = (r, g_a', g_b')) : CtI l yX9_gates wsX9_gates rmX9_gates D cy [.ref hw, .int p1, .int p2] ([oX9 hw sc g tn sl mk sv ro wk su ch hu, oX1 g g_rows g_columns g_a g_b g_cells g_right g_down]) ([oX9 hw sc g tn sl mk sv ro wk su ch hu, oX1 g g_rows g_columns g_a' g_b' g_cells g_right g_down]) r := by
  refine CtI.of (cc := cX9_gates) (maxL := 6) (ret := some .int) (own := RX9) (by decide) rfl rfl (Nat.le_of_ble_eq_true rfl) ?_
  intro p e s m args below meth c A Q X hQ hK hP hD hS ls hl
  obtain ⟨hx, hb, hml, hown, hts, hr, hlocks, hA, hZ⟩ := id X
  have hl : lv_has ls 6 [(0, .ref hw), (1, .int p1), (2, .int p2)] := hl
  unfold fX9_gates at hf
  have hf := qbb_top hf
  refine lv_aload_n hx hb dX9_gates_0 rfl (lv_at hl 0 rfl) ?_
  refine va_get (D := D) (ci := 9) (v := .ref g) (C := RX9) (T := TX9) (N := 11) hx hb hts inwX9_gates_X9 hown hK hP 0 rfl rfl 1 (by decide) (hts (.fieldLink RX9 19 "HedgeWays" "grid" "LHedgeWays$Grid;") (List.mem_of_getElem? (i := 1) rfl)) (fun _ h9 => h9) rfl dX9_gates_1 ?_
  refine lv_iload_n hx hb dX9_gates_4 rfl (lv_at hl 1 rfl) ?_
  refine ctV_i0 (r := (fX1_placeOf g_rows g_columns p1)) (wc := [oX1 g g_rows g_columns g_a g_b g_cells g_right g_down]) (As := [.int p1]) (rest := []) (q0 := 1) X hK hP hD hS [1] rfl rfl rfl (KX1_placeOf rfl _) (cwV 1 hts gX9_gates_X1_placeOf rfl rfl rfl hdX1_placeOf ⟨Nat.le_of_ble_eq_true rfl, Nat.le_of_ble_eq_true rfl⟩) rfl rfl rfl hl rfl (Nat.le_of_ble_eq_true rfl) dX9_gates_5 (Nat.zero_le _) (Nat.zero_le _) (fun H locs hP hS => ?_)
  refine lv_istore_n (lv' := [(3, .int (fX1_placeOf g_rows g_columns p1)), (0, .ref hw), (1, .int p1), (2, .int p2)]) hx hb dX9_gates_8 rfl hl (by decide) rfl (fun ls hl => ?_)
  refine lv_aload_n hx hb dX9_gates_9 rfl (lv_at hl 1 rfl) ?_
  refine va_get (D := D) (ci := 9) (v := .ref g) (C := RX9) (T := TX9) (N := 11) hx hb hts inwX9_gates_X9 hown hK hP 0 rfl rfl 1 (by decide) (hts (.fieldLink RX9 19 "HedgeWays" "grid" "LHedgeWays$Grid;") (List.mem_of_getElem? (i := 1) rfl)) (fun _ h9 => h9) rfl dX9_gates_10 ?_
  refine lv_iload_n hx hb dX9_gates_13 rfl (lv_at hl 3 rfl) ?_
  refine ctV_i0 (r := (fX1_placeOf g_rows g_columns p2)) (wc := [oX1 g g_rows g_columns g_a g_b g_cells g_right g_down]) (As := [.int p2]) (rest := []) (q0 := 1) X hK hP hD hS [1] rfl rfl rfl (KX1_placeOf rfl _) (cwV 1 hts gX9_gates_X1_placeOf rfl rfl rfl hdX1_placeOf ⟨Nat.le_of_ble_eq_true rfl, Nat.le_of_ble_eq_true rfl⟩) rfl rfl rfl hl rfl (Nat.le_of_ble_eq_true rfl) dX9_gates_14 (Nat.zero_le _) (Nat.zero_le _) (fun H locs hP hS => ?_)
  refine lv_istore (lv' := [(4, .int (fX1_placeOf g_rows g_columns p2)), (3, .int (fX1_placeOf g_rows g_columns p1)), (0, .ref hw), (1, .int p1), (2, .int p2)]) hx hb dX9_gates_17 hl (by decide) rfl (fun ls hl => ?_)
  refine lv_iload_n hx hb dX9_gates_19 rfl (lv_at hl 1 rfl) ?_
  refine lv_iconst (v := (-1)) hx hb dX9_gates_20 (by decide) ?_
  refine lv_icmp_eq (tgt := 30) hx hb dX9_gates_21 (by decide) (fun c1 => ?_) (fun c1 => ?_)
  · have hf := qbb_t hf c1
    refine lv_iconst (v := (-1)) hx hb dX9_gates_30 (by decide) ?_
    cases qbb_ret hf
    exact ct_iret X hQ hK hP hD hS rfl dX9_gates_31
  · have hf := qbb_f hf c1
    refine lv_iload hx hb dX9_gates_24 (lv_at hl 0 rfl) ?_
    refine lv_iconst (v := (-1)) hx hb dX9_gates_26 (by decide) ?_
    refine lv_icmp_ne (tgt := 32) hx hb dX9_gates_27 (by decide) (fun c2 => ?_) (fun c2 => ?_)
    · have hf := qbb_f hf c2
      refine lv_bipush (v := 100) hx hb dX9_gates_32 (by decide) ?_
      refine lv_aload_n hx hb dX9_gates_34 rfl (lv_at hl 2 rfl) ?_
      refine va_get (D := D) (ci := 9) (v := .ref g) (C := RX9) (T := TX9) (N := 11) hx hb hts inwX9_gates_X9 hown hK hP 0 rfl rfl 1 (by decide) (hts (.fieldLink RX9 19 "HedgeWays" "grid" "LHedgeWays$Grid;") (List.mem_of_getElem? (i := 1) rfl)) (fun _ h9 => h9) rfl dX9_gates_35 ?_
      refine va_get (D := D) (ci := 1) (v := .int g_a) (C := RX1) (T := TX1) (N := 7) hx hb hts inwX9_gates_X1 hown hK hP 1 rfl rfl 2 (by decide) (hts (.fieldLink RX9 134 "HedgeWays$Grid" "a" "I") (List.mem_of_getElem? (i := 2) rfl)) (fun _ h9 => h9) rfl dX9_gates_38 ?_
      refine ctS_i0 (r := (fX1_told g_a)) (wc := []) (As := [.int g_a]) (rest := [.int 100]) X hK hP hD hS [] rfl rfl rfl (KX1_told rfl _) (va_cwS 1 hts gX9_gates_X1_told rfl rfl rfl hdX1_told ⟨Nat.le_of_ble_eq_true rfl, Nat.le_of_ble_eq_true rfl⟩) rfl hl rfl (Nat.le_of_ble_eq_true rfl) dX9_gates_41 (Nat.zero_le _) (Nat.zero_le _) (fun H locs hP hS => ?_)
      refine lv_imul hx hb dX9_gates_44 ?_
      refine lv_aload_n hx hb dX9_gates_45 rfl (lv_at hl 2 rfl) ?_
      refine va_get (D := D) (ci := 9) (v := .ref g) (C := RX9) (T := TX9) (N := 11) hx hb hts inwX9_gates_X9 hown hK hP 0 rfl rfl 1 (by decide) (hts (.fieldLink RX9 19 "HedgeWays" "grid" "LHedgeWays$Grid;") (List.mem_of_getElem? (i := 1) rfl)) (fun _ h9 => h9) rfl dX9_gates_46 ?_
      refine va_get (D := D) (ci := 1) (v := .int g_b) (C := RX1) (T := TX1) (N := 7) hx hb hts inwX9_gates_X1 hown hK hP 1 rfl rfl 3 (by decide) (hts (.fieldLink RX9 140 "HedgeWays$Grid" "b" "I") (List.mem_of_getElem? (i := 3) rfl)) (fun _ h9 => h9) rfl dX9_gates_49 ?_
      refine ctS_i0 (r := (fX1_told g_b)) (wc := []) (As := [.int g_b]) (rest := [.int (100 * (fX1_told g_a))]) X hK hP hD hS [] rfl rfl rfl (KX1_told rfl _) (va_cwS 1 hts gX9_gates_X1_told rfl rfl rfl hdX1_told ⟨Nat.le_of_ble_eq_true rfl, Nat.le_of_ble_eq_true rfl⟩) rfl hl rfl (Nat.le_of_ble_eq_true rfl) dX9_gates_52 (Nat.zero_le _) (Nat.zero_le _) (fun H locs hP hS => ?_)
      refine lv_iadd hx hb dX9_gates_55 ?_
      refine lv_istore (lv' := [(5, .int ((100 * (fX1_told g_a)) + (fX1_told g_b))), (4, .int (fX1_placeOf g_rows g_columns p2)), (3, .int (fX1_placeOf g_rows g_columns p1)), (0, .ref hw), (1, .int p1), (2, .int p2)]) hx hb dX9_gates_56 hl (by decide) rfl (fun ls hl => ?_)
      refine lv_aload_n hx hb dX9_gates_58 rfl (lv_at hl 3 rfl) ?_
      refine va_get (D := D) (ci := 9) (v := .ref g) (C := RX9) (T := TX9) (N := 11) hx hb hts inwX9_gates_X9 hown hK hP 0 rfl rfl 1 (by decide) (hts (.fieldLink RX9 19 "HedgeWays" "grid" "LHedgeWays$Grid;") (List.mem_of_getElem? (i := 1) rfl)) (fun _ h9 => h9) rfl dX9_gates_59 ?_
      refine lv_iload_n hx hb dX9_gates_62 rfl (lv_at hl 2 rfl) ?_
      refine lv_topi (fun g_a_1 e3 => ?_)
      have hf := qbb_bd hf e3
      refine va_put (D := D) (ci := 1) (v := .int g_a_1) (ty := .int) (C := RX1) (T := TX1) (N := 7) hx hb hts inwX9_gates_X1 tyX1 tyX1_ok nmX1 hown hK hP hD hS 1 rfl rfl 2 (by decide) (hts (.fieldLink RX9 134 "HedgeWays$Grid" "a" "I") (List.mem_of_getElem? (i := 2) rfl)) (fun _ h9 => h9) rfl (tyX1_ok 2 (by decide)) rfl rfl (Nat.le_of_ble_eq_true rfl) dX9_gates_63 (fun H locs hP hD hS => ?_)
      have hP : va_P D vwCl ([oX9 hw sc g tn sl mk sv ro wk su ch hu, oX1 g g_rows g_columns g_a_1 g_b g_cells g_right g_down]) H := hP
      have hD : va_D A ([oX9 hw sc g tn sl mk sv ro wk su ch hu, oX1 g g_rows g_columns g_a_1 g_b g_cells g_right g_down]) := hD
      refine lv_aload_n hx hb dX9_gates_66 rfl (lv_at hl 3 rfl) ?_
      refine va_get (D := D) (ci := 9) (v := .ref g) (C := RX9) (T := TX9) (N := 11) hx hb hts inwX9_gates_X9 hown hK hP 0 rfl rfl 1 (by decide) (hts (.fieldLink RX9 19 "HedgeWays" "grid" "LHedgeWays$Grid;") (List.mem_of_getElem? (i := 1) rfl)) (fun _ h9 => h9) rfl dX9_gates_67 ?_
      refine lv_iload hx hb dX9_gates_70 (lv_at hl 1 rfl) ?_
      refine lv_topi (fun g_b_1 e4 => ?_)
      have hf := qbb_bd hf e4
      refine va_put (D := D) (ci := 1) (v := .int g_b_1) (ty := .int) (C := RX1) (T := TX1) (N := 7) hx hb hts inwX9_gates_X1 tyX1 tyX1_ok nmX1 hown hK hP hD hS 1 rfl rfl 3 (by decide) (hts (.fieldLink RX9 140 "HedgeWays$Grid" "b" "I") (List.mem_of_getElem? (i := 3) rfl)) (fun _ h9 => h9) rfl (tyX1_ok 3 (by decide)) rfl rfl (Nat.le_of_ble_eq_true rfl) dX9_gates_72 (fun H locs hP hD hS => ?_)
      have hP : va_P D vwCl ([oX9 hw sc g tn sl mk sv ro wk su ch hu, oX1 g g_rows g_columns g_a_1 g_b_1 g_cells g_right g_down]) H := hP
      have hD : va_D A ([oX9 hw sc g tn sl mk sv ro wk su ch hu, oX1 g g_rows g_columns g_a_1 g_b_1 g_cells g_right g_down]) := hD
      refine lv_iload hx hb dX9_gates_75 (lv_at hl 0 rfl) ?_
      cases qbb_ret hf
      exact ct_iret X hQ hK hP hD hS rfl dX9_gates_77
    · have hf := qbb_t hf c2
      refine lv_iconst (v := (-1)) hx hb dX9_gates_30 (by decide) ?_
      cases qbb_ret hf
      exact ct_iret X hQ hK hP hD hS rfl dX9_gates_31
theorem inwX9_figure_X9 : ∀ w ∈ wsX90, w ∈ wsX9_figure := fun _ h => List.mem_cons_of_mem _ (List.mem_append_left _ (List.mem_append_right _ h))
abbrev rmX9_figure : Room := { frames := 2, cells := 0, slots := 0, locals := 44 }
theorem hdX9_figure : yX9_figure.cls = RX9 ∧ yX9_figure.cls ≠ "java/lang/invoke/MethodHandle" ∧ yX9_figure.cls ≠ "java/lang/invoke/VarHandle" ∧ (parseMethodDescriptor yX9_figure.desc).map (fun d => d.parameters.length) = some 1 := by decide +kernel
set_option maxHeartbeats 4000000 in
set_option maxRecDepth 100000 in
theorem KX9_figure {l : Launch} {D : va_G} {cy : Nat → ClassId} {hw sc g tn sl mk sv ro wk su ch hu : Nat} {g_rows : Int32} {g_columns : Int32} {g_a : Int32} {g_b : Int32} {g_cells : Int64} {g_right : Int64} {g_down : Int64} {p1 : Int32} {r : Int32} (hf : fX9_figure g_rows g_columns g_right g_down p1 = r) : CtI l yX9_figure wsX9_figure rmX9_figure D cy [.ref hw, .int p1] ([oX9 hw sc g tn sl mk sv ro wk su ch hu, oX1 g g_rows g_columns g_a g_b g_cells g_right g_down]) ([oX9 hw sc g tn sl mk sv ro wk su ch hu, oX1 g g_rows g_columns g_a g_b g_cells g_right g_down]) r := by
  refine CtI.of (cc := cX9_figure) (maxL := 3) (ret := some .int) (own := RX9) (by decide) rfl rfl (Nat.le_of_ble_eq_true rfl) ?_
  intro p e s m args below meth c A Q X hQ hK hP hD hS ls hl
  obtain ⟨hx, hb, hml, hown, hts, hr, hlocks, hA, hZ⟩ := id X
  have hl : lv_has ls 3 [(0, .ref hw), (1, .int p1)] := hl
  unfold fX9_figure at hf
  have hf := qbb_top hf
  refine lv_aload_n hx hb dX9_figure_0 rfl (lv_at hl 0 rfl) ?_
  refine va_get (D := D) (ci := 9) (v := .ref g) (C := RX9) (T := TX9) (N := 11) hx hb hts inwX9_figure_X9 hown hK hP 0 rfl rfl 1 (by decide) (hts (.fieldLink RX9 19 "HedgeWays" "grid" "LHedgeWays$Grid;") (List.mem_of_getElem? (i := 1) rfl)) (fun _ h9 => h9) rfl dX9_figure_1 ?_
  refine lv_iload_n hx hb dX9_figure_4 rfl (lv_at hl 1 rfl) ?_
  refine ctV_i0 (r := (fX1_placeOf g_rows g_columns p1)) (wc := [oX1 g g_rows g_columns g_a g_b g_cells g_right g_down]) (As := [.int p1]) (rest := []) (q0 := 1) X hK hP hD hS [1] rfl rfl rfl (KX1_placeOf rfl _) (cwV 1 hts gX9_figure_X1_placeOf rfl rfl rfl hdX1_placeOf ⟨Nat.le_of_ble_eq_true rfl, Nat.le_of_ble_eq_true rfl⟩) rfl rfl rfl hl rfl (Nat.le_of_ble_eq_true rfl) dX9_figure_5 (Nat.zero_le _) (Nat.zero_le _) (fun H locs hP hS => ?_)
  refine lv_istore_n (lv' := [(2, .int (fX1_placeOf g_rows g_columns p1)), (0, .ref hw), (1, .int p1)]) hx hb dX9_figure_8 rfl hl (by decide) rfl (fun ls hl => ?_)
  refine lv_iload_n hx hb dX9_figure_9 rfl (lv_at hl 0 rfl) ?_
  refine lv_iconst (v := (-1)) hx hb dX9_figure_10 (by decide) ?_
  refine lv_icmp_ne (tgt := 16) hx hb dX9_figure_11 (by decide) (fun c1 => ?_) (fun c1 => ?_)
  · have hf := qbb_f hf c1
    refine lv_aload_n hx hb dX9_figure_16 rfl (lv_at hl 1 rfl) ?_
    refine va_get (D := D) (ci := 9) (v := .ref g) (C := RX9) (T := TX9) (N := 11) hx hb hts inwX9_figure_X9 hown hK hP 0 rfl rfl 1 (by decide) (hts (.fieldLink RX9 19 "HedgeWays" "grid" "LHedgeWays$Grid;") (List.mem_of_getElem? (i := 1) rfl)) (fun _ h9 => h9) rfl dX9_figure_17 ?_
    refine lv_iload_n hx hb dX9_figure_20 rfl (lv_at hl 0 rfl) ?_
    refine lv_iconst (v := 1) hx hb dX9_figure_21 (by decide) ?_
    refine ctV_i0 (r := (fX1_isOpen g_right g_down (fX1_placeOf g_rows g_columns p1) 1)) (wc := [oX1 g g_rows g_columns g_a g_b g_cells g_right g_down]) (As := [.int (fX1_placeOf g_rows g_columns p1), .int 1]) (rest := []) (q0 := 1) X hK hP hD hS [1] rfl rfl rfl (KX1_isOpen rfl _) (cwV 2 hts gX9_figure_X1_isOpen rfl rfl rfl hdX1_isOpen ⟨Nat.le_of_ble_eq_true rfl, Nat.le_of_ble_eq_true rfl⟩) rfl rfl rfl hl rfl (Nat.le_of_ble_eq_true rfl) dX9_figure_22 (Nat.zero_le _) (Nat.zero_le _) (fun H locs hP hS => ?_)
    refine ctS_i0 (r := (fX9_oneIf (fX1_isOpen g_right g_down (fX1_placeOf g_rows g_columns p1) 1))) (wc := []) (As := [.int (fX1_isOpen g_right g_down (fX1_placeOf g_rows g_columns p1) 1)]) (rest := []) X hK hP hD hS [] rfl rfl rfl (KX9_oneIf rfl _) (va_cwS 1 hts gX9_figure_X9_oneIf rfl rfl rfl hdX9_oneIf ⟨Nat.le_of_ble_eq_true rfl, Nat.le_of_ble_eq_true rfl⟩) rfl hl rfl (Nat.le_of_ble_eq_true rfl) dX9_figure_25 (Nat.zero_le _) (Nat.zero_le _) (fun H locs hP hS => ?_)
    refine lv_iconst (v := 2) hx hb dX9_figure_28 (by decide) ?_
    refine lv_aload_n hx hb dX9_figure_29 rfl (lv_at hl 1 rfl) ?_
    refine va_get (D := D) (ci := 9) (v := .ref g) (C := RX9) (T := TX9) (N := 11) hx hb hts inwX9_figure_X9 hown hK hP 0 rfl rfl 1 (by decide) (hts (.fieldLink RX9 19 "HedgeWays" "grid" "LHedgeWays$Grid;") (List.mem_of_getElem? (i := 1) rfl)) (fun _ h9 => h9) rfl dX9_figure_30 ?_
    refine lv_iload_n hx hb dX9_figure_33 rfl (lv_at hl 0 rfl) ?_
    refine lv_iconst (v := 2) hx hb dX9_figure_34 (by decide) ?_
    refine ctV_i0 (r := (fX1_isOpen g_right g_down (fX1_placeOf g_rows g_columns p1) 2)) (wc := [oX1 g g_rows g_columns g_a g_b g_cells g_right g_down]) (As := [.int (fX1_placeOf g_rows g_columns p1), .int 2]) (rest := [.int 2, .int (fX9_oneIf (fX1_isOpen g_right g_down (fX1_placeOf g_rows g_columns p1) 1))]) (q0 := 1) X hK hP hD hS [1] rfl rfl rfl (KX1_isOpen rfl _) (cwV 2 hts gX9_figure_X1_isOpen rfl rfl rfl hdX1_isOpen ⟨Nat.le_of_ble_eq_true rfl, Nat.le_of_ble_eq_true rfl⟩) rfl rfl rfl hl rfl (Nat.le_of_ble_eq_true rfl) dX9_figure_35 (Nat.zero_le _) (Nat.zero_le _) (fun H locs hP hS => ?_)
    refine ctS_i0 (r := (fX9_oneIf (fX1_isOpen g_right g_down (fX1_placeOf g_rows g_columns p1) 2))) (wc := []) (As := [.int (fX1_isOpen g_right g_down (fX1_placeOf g_rows g_columns p1) 2)]) (rest := [.int 2, .int (fX9_oneIf (fX1_isOpen g_right g_down (fX1_placeOf g_rows g_columns p1) 1))]) X hK hP hD hS [] rfl rfl rfl (KX9_oneIf rfl _) (va_cwS 1 hts gX9_figure_X9_oneIf rfl rfl rfl hdX9_oneIf ⟨Nat.le_of_ble_eq_true rfl, Nat.le_of_ble_eq_true rfl⟩) rfl hl rfl (Nat.le_of_ble_eq_true rfl) dX9_figure_38 (Nat.zero_le _) (Nat.zero_le _) (fun H locs hP hS => ?_)
    refine lv_imul hx hb dX9_figure_41 ?_
    refine lv_iadd hx hb dX9_figure_42 ?_
    cases qbb_ret hf
    exact ct_iret X hQ hK hP hD hS rfl dX9_figure_43
  · have hf := qbb_t hf c1
    refine lv_iconst (v := (-1)) hx hb dX9_figure_14 (by decide) ?_
    cases qbb_ret hf
    exact ct_iret X hQ hK hP hD hS rfl dX9_figure_15
theorem inwX9_about_X1 : ∀ w ∈ wsX10, w ∈ wsX9_about := fun _ h => List.mem_cons_of_mem _ (List.mem_append_left _ (List.mem_append_left _ (List.mem_append_right _ h)))
theorem inwX9_about_X5 : ∀ w ∈ wsX50, w ∈ wsX9_about := fun _ h => List.mem_cons_of_mem _ (List.mem_append_left _ (List.mem_append_right _ h))
theorem inwX9_about_X9 : ∀ w ∈ wsX90, w ∈ wsX9_about := fun _ h => List.mem_cons_of_mem _ (List.mem_append_left _ (List.mem_append_left _ (List.mem_append_left _ (List.mem_append_right _ h))))
abbrev rmX9_about : Room := { frames := 5, cells := 0, slots := 0, locals := 119 }
theorem hdX9_about : yX9_about.cls = RX9 ∧ yX9_about.cls ≠ "java/lang/invoke/MethodHandle" ∧ yX9_about.cls ≠ "java/lang/invoke/VarHandle" ∧ (parseMethodDescriptor yX9_about.desc).map (fun d => d.parameters.length) = some 1 := by decide +kernel
set_option maxHeartbeats 4000000 in
set_option maxRecDepth 100000 in
theorem KX9_about {l : Launch} {D : va_G} {cy : Nat → ClassId} {hw sc g tn sl mk sv ro wk su ch hu q_sc_bytes : Nat} {sc_length : Int32} {sc_bytes : Nat → Int32} {g_rows : Int32} {g_columns : Int32} {g_a : Int32} {g_b : Int32} {g_cells : Int64} {g_right : Int64} {g_down : Int64} {p1 : Int32} {r : Int32} {g_right' : Int64} {g_down' : Int64} (hf : fX9_about sc_length g_rows g_columns g_a g_b g_cells g_right g_down p1 = some (r, g_right', g_down')) : CtI l yX9_about wsX9_about rmX9_about D cy [.ref hw, .int p1] ([oX9 hw sc g tn sl mk sv ro wk su ch hu, oX5 sc q_sc_bytes sc_length, aI cy q_sc_bytes 41 sc_bytes, oX1 g g_rows g_columns g_a g_b g_cells g_right g_down, oX7 sv g]) ([oX9 hw sc g tn sl mk sv ro wk su ch hu, oX5 sc q_sc_bytes sc_length, aI cy q_sc_bytes 41 sc_bytes, oX1 g g_rows g_columns g_a g_b g_cells g_right' g_down', oX7 sv g]) r := by
  refine CtI.of (cc := cX9_about) (maxL := 2) (ret := some .int) (own := RX9) (by decide) rfl rfl (Nat.le_of_ble_eq_true rfl) ?_
  intro p e s m args below meth c A Q X hQ hK hP hD hS ls hl
  obtain ⟨hx, hb, hml, hown, hts, hr, hlocks, hA, hZ⟩ := id X
  have hl : lv_has ls 2 [(0, .ref hw), (1, .int p1)] := hl
  unfold fX9_about at hf
  have hf := qob_top hf
  refine lv_iload_n hx hb dX9_about_0 rfl (lv_at hl 1 rfl) ?_
  by_cases c1_0 : p1 = 0
  · have hf := qob_t hf c1_0
    refine lv_tableIn (off := 71) (tgt := 72) hx hb dX9_about_1 (by rw [c1_0]; decide) (by rw [c1_0]; decide) (by rw [c1_0]; rfl) (by decide) ?_
    refine lv_aload_n hx hb dX9_about_72 rfl (lv_at hl 0 rfl) ?_
    refine va_get (D := D) (ci := 9) (v := .ref g) (C := RX9) (T := TX9) (N := 11) hx hb hts inwX9_about_X9 hown hK hP 0 rfl rfl 1 (by decide) (hts (.fieldLink RX9 19 "HedgeWays" "grid" "LHedgeWays$Grid;") (List.mem_of_getElem? (i := 1) rfl)) (fun _ h9 => h9) rfl dX9_about_73 ?_
    refine ctV_i0 (r := (fX1_size g_rows g_columns)) (wc := [oX1 g g_rows g_columns g_a g_b g_cells g_right g_down]) (As := []) (rest := []) (q0 := 3) X hK hP hD hS [3] rfl rfl rfl (KX1_size rfl _) (cwV 0 hts gX9_about_X1_size rfl rfl rfl hdX1_size ⟨Nat.le_of_ble_eq_true rfl, Nat.le_of_ble_eq_true rfl⟩) rfl rfl rfl hl rfl (Nat.le_of_ble_eq_true rfl) dX9_about_76 (Nat.zero_le _) (Nat.zero_le _) (fun H locs hP hS => ?_)
    cases qob_ret hf
    exact ct_iret X hQ hK hP hD hS rfl dX9_about_79
  · have hf := qob_f hf c1_0
    by_cases c1_1 : p1 = 1
    · have hf := qob_t hf c1_1
      refine lv_tableIn (off := 79) (tgt := 80) hx hb dX9_about_1 (by rw [c1_1]; decide) (by rw [c1_1]; decide) (by rw [c1_1]; rfl) (by decide) ?_
      refine lv_aload_n hx hb dX9_about_80 rfl (lv_at hl 0 rfl) ?_
      refine va_get (D := D) (ci := 9) (v := .ref g) (C := RX9) (T := TX9) (N := 11) hx hb hts inwX9_about_X9 hown hK hP 0 rfl rfl 1 (by decide) (hts (.fieldLink RX9 19 "HedgeWays" "grid" "LHedgeWays$Grid;") (List.mem_of_getElem? (i := 1) rfl)) (fun _ h9 => h9) rfl dX9_about_81 ?_
      refine va_get (D := D) (ci := 1) (v := .int g_rows) (C := RX1) (T := TX1) (N := 7) hx hb hts inwX9_about_X1 hown hK hP 3 rfl rfl 0 (by decide) (hts (.fieldLink RX9 143 "HedgeWays$Grid" "rows" "I") (List.mem_of_getElem? (i := 2) rfl)) (fun _ h9 => h9) rfl dX9_about_84 ?_
      cases qob_ret hf
      exact ct_iret X hQ hK hP hD hS rfl dX9_about_87
    · have hf := qob_f hf c1_1
      by_cases c1_2 : p1 = 2
      · have hf := qob_t hf c1_2
        refine lv_tableIn (off := 87) (tgt := 88) hx hb dX9_about_1 (by rw [c1_2]; decide) (by rw [c1_2]; decide) (by rw [c1_2]; rfl) (by decide) ?_
        refine lv_aload_n hx hb dX9_about_88 rfl (lv_at hl 0 rfl) ?_
        refine va_get (D := D) (ci := 9) (v := .ref g) (C := RX9) (T := TX9) (N := 11) hx hb hts inwX9_about_X9 hown hK hP 0 rfl rfl 1 (by decide) (hts (.fieldLink RX9 19 "HedgeWays" "grid" "LHedgeWays$Grid;") (List.mem_of_getElem? (i := 1) rfl)) (fun _ h9 => h9) rfl dX9_about_89 ?_
        refine va_get (D := D) (ci := 1) (v := .int g_columns) (C := RX1) (T := TX1) (N := 7) hx hb hts inwX9_about_X1 hown hK hP 3 rfl rfl 1 (by decide) (hts (.fieldLink RX9 146 "HedgeWays$Grid" "columns" "I") (List.mem_of_getElem? (i := 3) rfl)) (fun _ h9 => h9) rfl dX9_about_92 ?_
        cases qob_ret hf
        exact ct_iret X hQ hK hP hD hS rfl dX9_about_95
      · have hf := qob_f hf c1_2
        by_cases c1_3 : p1 = 3
        · have hf := qob_t hf c1_3
          refine lv_tableIn (off := 95) (tgt := 96) hx hb dX9_about_1 (by rw [c1_3]; decide) (by rw [c1_3]; decide) (by rw [c1_3]; rfl) (by decide) ?_
          refine lv_aload_n hx hb dX9_about_96 rfl (lv_at hl 0 rfl) ?_
          refine va_get (D := D) (ci := 9) (v := .ref g) (C := RX9) (T := TX9) (N := 11) hx hb hts inwX9_about_X9 hown hK hP 0 rfl rfl 1 (by decide) (hts (.fieldLink RX9 19 "HedgeWays" "grid" "LHedgeWays$Grid;") (List.mem_of_getElem? (i := 1) rfl)) (fun _ h9 => h9) rfl dX9_about_97 ?_
          refine ctV_i0 (r := (fX1_openings g_right g_down)) (wc := [oX1 g g_rows g_columns g_a g_b g_cells g_right g_down]) (As := []) (rest := []) (q0 := 3) X hK hP hD hS [3] rfl rfl rfl (KX1_openings rfl _) (cwV 0 hts gX9_about_X1_openings rfl rfl rfl hdX1_openings ⟨Nat.le_of_ble_eq_true rfl, Nat.le_of_ble_eq_true rfl⟩) rfl rfl rfl hl rfl (Nat.le_of_ble_eq_true rfl) dX9_about_100 (Nat.zero_le _) (Nat.zero_le _) (fun H locs hP hS => ?_)
          cases qob_ret hf
          exact ct_iret X hQ hK hP hD hS rfl dX9_about_103
        · have hf := qob_f hf c1_3
          by_cases c1_4 : p1 = 4
          · have hf := qob_t hf c1_4
            refine lv_tableIn (off := 103) (tgt := 104) hx hb dX9_about_1 (by rw [c1_4]; decide) (by rw [c1_4]; decide) (by rw [c1_4]; rfl) (by decide) ?_
            refine lv_aload_n hx hb dX9_about_104 rfl (lv_at hl 0 rfl) ?_
            refine va_get (D := D) (ci := 9) (v := .ref sv) (C := RX9) (T := TX9) (N := 11) hx hb hts inwX9_about_X9 hown hK hP 0 rfl rfl 5 (by decide) (hts (.fieldLink RX9 42 "HedgeWays" "survey" "LHedgeWays$Survey;") (List.mem_of_getElem? (i := 4) rfl)) (fun _ h9 => h9) rfl dX9_about_105 ?_
            obtain ⟨r_1, q2, hf⟩ := qcall1 hf
            refine ctV_i0 (r := r_1) (wc := [oX7 sv g, oX1 g g_rows g_columns g_a g_b g_cells g_right g_down]) (As := []) (rest := []) (q0 := 4) X hK hP hD hS [4, 3] rfl rfl rfl (KX7_parts q2 _) (cwV 0 hts gX9_about_X7_parts rfl rfl rfl hdX7_parts ⟨Nat.le_of_ble_eq_true rfl, Nat.le_of_ble_eq_true rfl⟩) rfl rfl rfl hl rfl (Nat.le_of_ble_eq_true rfl) dX9_about_108 (Nat.zero_le _) (Nat.zero_le _) (fun H locs hP hS => ?_)
            cases qob_ret hf
            exact ct_iret X hQ hK hP hD hS rfl dX9_about_111
          · have hf := qob_f hf c1_4
            by_cases c1_5 : p1 = 5
            · have hf := qob_t hf c1_5
              refine lv_tableIn (off := 111) (tgt := 112) hx hb dX9_about_1 (by rw [c1_5]; decide) (by rw [c1_5]; decide) (by rw [c1_5]; rfl) (by decide) ?_
              refine lv_aload_n hx hb dX9_about_112 rfl (lv_at hl 0 rfl) ?_
              refine va_get (D := D) (ci := 9) (v := .ref g) (C := RX9) (T := TX9) (N := 11) hx hb hts inwX9_about_X9 hown hK hP 0 rfl rfl 1 (by decide) (hts (.fieldLink RX9 19 "HedgeWays" "grid" "LHedgeWays$Grid;") (List.mem_of_getElem? (i := 1) rfl)) (fun _ h9 => h9) rfl dX9_about_113 ?_
              refine ctV_i0 (r := (fX1_openings g_right g_down)) (wc := [oX1 g g_rows g_columns g_a g_b g_cells g_right g_down]) (As := []) (rest := []) (q0 := 3) X hK hP hD hS [3] rfl rfl rfl (KX1_openings rfl _) (cwV 0 hts gX9_about_X1_openings rfl rfl rfl hdX1_openings ⟨Nat.le_of_ble_eq_true rfl, Nat.le_of_ble_eq_true rfl⟩) rfl rfl rfl hl rfl (Nat.le_of_ble_eq_true rfl) dX9_about_116 (Nat.zero_le _) (Nat.zero_le _) (fun H locs hP hS => ?_)
              refine lv_aload_n hx hb dX9_about_119 rfl (lv_at hl 0 rfl) ?_
              refine va_get (D := D) (ci := 9) (v := .ref sv) (C := RX9) (T := TX9) (N := 11) hx hb hts inwX9_about_X9 hown hK hP 0 rfl rfl 5 (by decide) (hts (.fieldLink RX9 42 "HedgeWays" "survey" "LHedgeWays$Survey;") (List.mem_of_getElem? (i := 4) rfl)) (fun _ h9 => h9) rfl dX9_about_120 ?_
              obtain ⟨r_2, q3, hf⟩ := qcall1 hf
              refine ctV_i0 (r := r_2) (wc := [oX7 sv g, oX1 g g_rows g_columns g_a g_b g_cells g_right g_down]) (As := []) (rest := [.int (fX1_openings g_right g_down)]) (q0 := 4) X hK hP hD hS [4, 3] rfl rfl rfl (KX7_parts q3 _) (cwV 0 hts gX9_about_X7_parts rfl rfl rfl hdX7_parts ⟨Nat.le_of_ble_eq_true rfl, Nat.le_of_ble_eq_true rfl⟩) rfl rfl rfl hl rfl (Nat.le_of_ble_eq_true rfl) dX9_about_123 (Nat.zero_le _) (Nat.zero_le _) (fun H locs hP hS => ?_)
              refine lv_iadd hx hb dX9_about_126 ?_
              refine lv_aload_n hx hb dX9_about_127 rfl (lv_at hl 0 rfl) ?_
              refine va_get (D := D) (ci := 9) (v := .ref g) (C := RX9) (T := TX9) (N := 11) hx hb hts inwX9_about_X9 hown hK hP 0 rfl rfl 1 (by decide) (hts (.fieldLink RX9 19 "HedgeWays" "grid" "LHedgeWays$Grid;") (List.mem_of_getElem? (i := 1) rfl)) (fun _ h9 => h9) rfl dX9_about_128 ?_
              refine ctV_i0 (r := (fX1_size g_rows g_columns)) (wc := [oX1 g g_rows g_columns g_a g_b g_cells g_right g_down]) (As := []) (rest := [.int ((fX1_openings g_right g_down) + r_2)]) (q0 := 3) X hK hP hD hS [3] rfl rfl rfl (KX1_size rfl _) (cwV 0 hts gX9_about_X1_size rfl rfl rfl hdX1_size ⟨Nat.le_of_ble_eq_true rfl, Nat.le_of_ble_eq_true rfl⟩) rfl rfl rfl hl rfl (Nat.le_of_ble_eq_true rfl) dX9_about_131 (Nat.zero_le _) (Nat.zero_le _) (fun H locs hP hS => ?_)
              refine lv_isub hx hb dX9_about_134 ?_
              cases qob_ret hf
              exact ct_iret X hQ hK hP hD hS rfl dX9_about_135
            · have hf := qob_f hf c1_5
              by_cases c1_6 : p1 = 6
              · have hf := qob_t hf c1_6
                refine lv_tableIn (off := 135) (tgt := 136) hx hb dX9_about_1 (by rw [c1_6]; decide) (by rw [c1_6]; decide) (by rw [c1_6]; rfl) (by decide) ?_
                refine lv_aload_n hx hb dX9_about_136 rfl (lv_at hl 0 rfl) ?_
                refine va_get (D := D) (ci := 9) (v := .ref sv) (C := RX9) (T := TX9) (N := 11) hx hb hts inwX9_about_X9 hown hK hP 0 rfl rfl 5 (by decide) (hts (.fieldLink RX9 42 "HedgeWays" "survey" "LHedgeWays$Survey;") (List.mem_of_getElem? (i := 4) rfl)) (fun _ h9 => h9) rfl dX9_about_137 ?_
                refine lv_iconst (v := 1) hx hb dX9_about_140 (by decide) ?_
                refine lv_iconst (v := 1) hx hb dX9_about_141 (by decide) ?_
                obtain ⟨r_3, q4, hf⟩ := qcall1 hf
                refine ctV_i0 (r := r_3) (wc := [oX7 sv g, oX1 g g_rows g_columns g_a g_b g_cells g_right g_down]) (As := [.int 1, .int 1]) (rest := []) (q0 := 4) X hK hP hD hS [4, 3] rfl rfl rfl (KX7_cellsWithNeighbours q4 _) (cwV 2 hts gX9_about_X7_cellsWithNeighbours rfl rfl rfl hdX7_cellsWithNeighbours ⟨Nat.le_of_ble_eq_true rfl, Nat.le_of_ble_eq_true rfl⟩) rfl rfl rfl hl rfl (Nat.le_of_ble_eq_true rfl) dX9_about_142 (Nat.zero_le _) (Nat.zero_le _) (fun H locs hP hS => ?_)
                cases qob_ret hf
                exact ct_iret X hQ hK hP hD hS rfl dX9_about_145
              · have hf := qob_f hf c1_6
                by_cases c1_7 : p1 = 7
                · have hf := qob_t hf c1_7
                  refine lv_tableIn (off := 145) (tgt := 146) hx hb dX9_about_1 (by rw [c1_7]; decide) (by rw [c1_7]; decide) (by rw [c1_7]; rfl) (by decide) ?_
                  refine lv_aload_n hx hb dX9_about_146 rfl (lv_at hl 0 rfl) ?_
                  refine va_get (D := D) (ci := 9) (v := .ref sv) (C := RX9) (T := TX9) (N := 11) hx hb hts inwX9_about_X9 hown hK hP 0 rfl rfl 5 (by decide) (hts (.fieldLink RX9 42 "HedgeWays" "survey" "LHedgeWays$Survey;") (List.mem_of_getElem? (i := 4) rfl)) (fun _ h9 => h9) rfl dX9_about_147 ?_
                  refine lv_iconst (v := 3) hx hb dX9_about_150 (by decide) ?_
                  refine lv_iconst (v := 4) hx hb dX9_about_151 (by decide) ?_
                  obtain ⟨r_4, q5, hf⟩ := qcall1 hf
                  refine ctV_i0 (r := r_4) (wc := [oX7 sv g, oX1 g g_rows g_columns g_a g_b g_cells g_right g_down]) (As := [.int 3, .int 4]) (rest := []) (q0 := 4) X hK hP hD hS [4, 3] rfl rfl rfl (KX7_cellsWithNeighbours q5 _) (cwV 2 hts gX9_about_X7_cellsWithNeighbours rfl rfl rfl hdX7_cellsWithNeighbours ⟨Nat.le_of_ble_eq_true rfl, Nat.le_of_ble_eq_true rfl⟩) rfl rfl rfl hl rfl (Nat.le_of_ble_eq_true rfl) dX9_about_152 (Nat.zero_le _) (Nat.zero_le _) (fun H locs hP hS => ?_)
                  cases qob_ret hf
                  exact ct_iret X hQ hK hP hD hS rfl dX9_about_155
                · have hf := qob_f hf c1_7
                  by_cases c1_8 : p1 = 8
                  · have hf := qob_t hf c1_8
                    refine lv_tableIn (off := 155) (tgt := 156) hx hb dX9_about_1 (by rw [c1_8]; decide) (by rw [c1_8]; decide) (by rw [c1_8]; rfl) (by decide) ?_
                    refine lv_aload_n hx hb dX9_about_156 rfl (lv_at hl 0 rfl) ?_
                    refine va_get (D := D) (ci := 9) (v := .ref sv) (C := RX9) (T := TX9) (N := 11) hx hb hts inwX9_about_X9 hown hK hP 0 rfl rfl 5 (by decide) (hts (.fieldLink RX9 42 "HedgeWays" "survey" "LHedgeWays$Survey;") (List.mem_of_getElem? (i := 4) rfl)) (fun _ h9 => h9) rfl dX9_about_157 ?_
                    obtain ⟨r_5, g_right_1, g_down_1, q6, hf⟩ := qcall3 hf
                    refine ctV_i (r := r_5) (wc := [oX7 sv g, oX1 g g_rows g_columns g_a g_b g_cells g_right g_down]) (w1 := [oX7 sv g, oX1 g g_rows g_columns g_a g_b g_cells g_right_1 g_down_1]) (wr := [oX9 hw sc g tn sl mk sv ro wk su ch hu, oX5 sc q_sc_bytes sc_length, aI cy q_sc_bytes 41 sc_bytes]) (wn := [oX9 hw sc g tn sl mk sv ro wk su ch hu, oX5 sc q_sc_bytes sc_length, aI cy q_sc_bytes 41 sc_bytes, oX1 g g_rows g_columns g_a g_b g_cells g_right_1 g_down_1, oX7 sv g]) (As := []) (rest := []) (q0 := 4) X hK hP hD hS [4, 3] [0, 1, 2] [0, 1, 2, 4, 3] rfl rfl rfl rfl rfl (by decide) rfl rfl rfl (KX7_bridges q6 _) (cwV 0 hts gX9_about_X7_bridges rfl rfl rfl hdX7_bridges ⟨Nat.le_of_ble_eq_true rfl, Nat.le_of_ble_eq_true rfl⟩) rfl rfl rfl hl rfl (Nat.le_of_ble_eq_true rfl) dX9_about_160 (Nat.zero_le _) (Nat.zero_le _) (fun H locs hP hD hS => ?_)
                    cases qob_ret hf
                    exact ct_iret X hQ hK hP hD hS rfl dX9_about_163
                  · have hf := qob_f hf c1_8
                    by_cases c1_9 : p1 = 9
                    · have hf := qob_t hf c1_9
                      refine lv_tableIn (off := 163) (tgt := 164) hx hb dX9_about_1 (by rw [c1_9]; decide) (by rw [c1_9]; decide) (by rw [c1_9]; rfl) (by decide) ?_
                      refine lv_aload_n hx hb dX9_about_164 rfl (lv_at hl 0 rfl) ?_
                      refine va_get (D := D) (ci := 9) (v := .ref sv) (C := RX9) (T := TX9) (N := 11) hx hb hts inwX9_about_X9 hown hK hP 0 rfl rfl 5 (by decide) (hts (.fieldLink RX9 42 "HedgeWays" "survey" "LHedgeWays$Survey;") (List.mem_of_getElem? (i := 4) rfl)) (fun _ h9 => h9) rfl dX9_about_165 ?_
                      obtain ⟨r_6, q7, hf⟩ := qcall1 hf
                      refine ctV_l0 (r := r_6) (wc := [oX7 sv g, oX1 g g_rows g_columns g_a g_b g_cells g_right g_down]) (As := []) (rest := []) (q0 := 4) X hK hP hD hS [4, 3] rfl rfl rfl (KX7_mustCells q7 _) (cwV 0 hts gX9_about_X7_mustCells rfl rfl rfl hdX7_mustCells ⟨Nat.le_of_ble_eq_true rfl, Nat.le_of_ble_eq_true rfl⟩) rfl rfl rfl hl rfl (Nat.le_of_ble_eq_true rfl) dX9_about_168 (Nat.zero_le _) (Nat.zero_le _) (fun H locs hP hS => ?_)
                      refine ctS_i0 (r := (fJ13_bitCount_95d88 r_6)) (wc := []) (As := [.long r_6]) (rest := []) X hK hP hD hS [] rfl rfl rfl (KJ13_bitCount_95d88 rfl _) (va_cwS 1 hts gX9_about_J13_bitCount_95d88 rfl rfl rfl hdJ13_bitCount_95d88 ⟨Nat.le_of_ble_eq_true rfl, Nat.le_of_ble_eq_true rfl⟩) rfl hl rfl (Nat.le_of_ble_eq_true rfl) dX9_about_171 (Nat.zero_le _) (Nat.zero_le _) (fun H locs hP hS => ?_)
                      cases qob_ret hf
                      exact ct_iret X hQ hK hP hD hS rfl dX9_about_174
                    · have hf := qob_f hf c1_9
                      by_cases c1_10 : p1 = 10
                      · have hf := qob_t hf c1_10
                        refine lv_tableIn (off := 174) (tgt := 175) hx hb dX9_about_1 (by rw [c1_10]; decide) (by rw [c1_10]; decide) (by rw [c1_10]; rfl) (by decide) ?_
                        refine lv_aload_n hx hb dX9_about_175 rfl (lv_at hl 0 rfl) ?_
                        refine va_get (D := D) (ci := 9) (v := .ref sv) (C := RX9) (T := TX9) (N := 11) hx hb hts inwX9_about_X9 hown hK hP 0 rfl rfl 5 (by decide) (hts (.fieldLink RX9 42 "HedgeWays" "survey" "LHedgeWays$Survey;") (List.mem_of_getElem? (i := 4) rfl)) (fun _ h9 => h9) rfl dX9_about_176 ?_
                        obtain ⟨r_7, q8, hf⟩ := qcall1 hf
                        refine ctV_l0 (r := r_7) (wc := [oX7 sv g, oX1 g g_rows g_columns g_a g_b g_cells g_right g_down]) (As := []) (rest := []) (q0 := 4) X hK hP hD hS [4, 3] rfl rfl rfl (KX7_leftCells q8 _) (cwV 0 hts gX9_about_X7_leftCells rfl rfl rfl hdX7_leftCells ⟨Nat.le_of_ble_eq_true rfl, Nat.le_of_ble_eq_true rfl⟩) rfl rfl rfl hl rfl (Nat.le_of_ble_eq_true rfl) dX9_about_179 (Nat.zero_le _) (Nat.zero_le _) (fun H locs hP hS => ?_)
                        refine ctS_i0 (r := (fJ13_bitCount_95d88 r_7)) (wc := []) (As := [.long r_7]) (rest := []) X hK hP hD hS [] rfl rfl rfl (KJ13_bitCount_95d88 rfl _) (va_cwS 1 hts gX9_about_J13_bitCount_95d88 rfl rfl rfl hdJ13_bitCount_95d88 ⟨Nat.le_of_ble_eq_true rfl, Nat.le_of_ble_eq_true rfl⟩) rfl hl rfl (Nat.le_of_ble_eq_true rfl) dX9_about_182 (Nat.zero_le _) (Nat.zero_le _) (fun H locs hP hS => ?_)
                        cases qob_ret hf
                        exact ct_iret X hQ hK hP hD hS rfl dX9_about_185
                      · have hf := qob_f hf c1_10
                        by_cases c1_11 : p1 = 11
                        · have hf := qob_t hf c1_11
                          refine lv_tableIn (off := 185) (tgt := 186) hx hb dX9_about_1 (by rw [c1_11]; decide) (by rw [c1_11]; decide) (by rw [c1_11]; rfl) (by decide) ?_
                          refine lv_aload_n hx hb dX9_about_186 rfl (lv_at hl 0 rfl) ?_
                          refine va_get (D := D) (ci := 9) (v := .ref g) (C := RX9) (T := TX9) (N := 11) hx hb hts inwX9_about_X9 hown hK hP 0 rfl rfl 1 (by decide) (hts (.fieldLink RX9 19 "HedgeWays" "grid" "LHedgeWays$Grid;") (List.mem_of_getElem? (i := 1) rfl)) (fun _ h9 => h9) rfl dX9_about_187 ?_
                          refine va_get (D := D) (ci := 1) (v := .int g_a) (C := RX1) (T := TX1) (N := 7) hx hb hts inwX9_about_X1 hown hK hP 3 rfl rfl 2 (by decide) (hts (.fieldLink RX9 134 "HedgeWays$Grid" "a" "I") (List.mem_of_getElem? (i := 5) rfl)) (fun _ h9 => h9) rfl dX9_about_190 ?_
                          refine ctS_i0 (r := (fX1_told g_a)) (wc := []) (As := [.int g_a]) (rest := []) X hK hP hD hS [] rfl rfl rfl (KX1_told rfl _) (va_cwS 1 hts gX9_about_X1_told rfl rfl rfl hdX1_told ⟨Nat.le_of_ble_eq_true rfl, Nat.le_of_ble_eq_true rfl⟩) rfl hl rfl (Nat.le_of_ble_eq_true rfl) dX9_about_193 (Nat.zero_le _) (Nat.zero_le _) (fun H locs hP hS => ?_)
                          cases qob_ret hf
                          exact ct_iret X hQ hK hP hD hS rfl dX9_about_196
                        · have hf := qob_f hf c1_11
                          by_cases c1_12 : p1 = 12
                          · have hf := qob_t hf c1_12
                            refine lv_tableIn (off := 196) (tgt := 197) hx hb dX9_about_1 (by rw [c1_12]; decide) (by rw [c1_12]; decide) (by rw [c1_12]; rfl) (by decide) ?_
                            refine lv_aload_n hx hb dX9_about_197 rfl (lv_at hl 0 rfl) ?_
                            refine va_get (D := D) (ci := 9) (v := .ref g) (C := RX9) (T := TX9) (N := 11) hx hb hts inwX9_about_X9 hown hK hP 0 rfl rfl 1 (by decide) (hts (.fieldLink RX9 19 "HedgeWays" "grid" "LHedgeWays$Grid;") (List.mem_of_getElem? (i := 1) rfl)) (fun _ h9 => h9) rfl dX9_about_198 ?_
                            refine va_get (D := D) (ci := 1) (v := .int g_b) (C := RX1) (T := TX1) (N := 7) hx hb hts inwX9_about_X1 hown hK hP 3 rfl rfl 3 (by decide) (hts (.fieldLink RX9 140 "HedgeWays$Grid" "b" "I") (List.mem_of_getElem? (i := 6) rfl)) (fun _ h9 => h9) rfl dX9_about_201 ?_
                            refine ctS_i0 (r := (fX1_told g_b)) (wc := []) (As := [.int g_b]) (rest := []) X hK hP hD hS [] rfl rfl rfl (KX1_told rfl _) (va_cwS 1 hts gX9_about_X1_told rfl rfl rfl hdX1_told ⟨Nat.le_of_ble_eq_true rfl, Nat.le_of_ble_eq_true rfl⟩) rfl hl rfl (Nat.le_of_ble_eq_true rfl) dX9_about_204 (Nat.zero_le _) (Nat.zero_le _) (fun H locs hP hS => ?_)
                            cases qob_ret hf
                            exact ct_iret X hQ hK hP hD hS rfl dX9_about_207
                          · have hf := qob_f hf c1_12
                            by_cases c1_13 : p1 = 13
                            · have hf := qob_t hf c1_13
                              refine lv_tableIn (off := 207) (tgt := 208) hx hb dX9_about_1 (by rw [c1_13]; decide) (by rw [c1_13]; decide) (by rw [c1_13]; rfl) (by decide) ?_
                              refine lv_aload_n hx hb dX9_about_208 rfl (lv_at hl 0 rfl) ?_
                              refine va_get (D := D) (ci := 9) (v := .ref sc) (C := RX9) (T := TX9) (N := 11) hx hb hts inwX9_about_X9 hown hK hP 0 rfl rfl 0 (by decide) (hts (.fieldLink RX9 12 "HedgeWays" "scroll" "LHedgeWays$Scroll;") (List.mem_of_getElem? (i := 7) rfl)) (fun _ h9 => h9) rfl dX9_about_209 ?_
                              refine va_get (D := D) (ci := 5) (v := .int sc_length) (C := RX5) (T := TX5) (N := 2) hx hb hts inwX9_about_X5 hown hK hP 1 rfl rfl 1 (by decide) (hts (.fieldLink RX9 81 "HedgeWays$Scroll" "length" "I") (List.mem_of_getElem? (i := 8) rfl)) (fun _ h9 => h9) rfl dX9_about_212 ?_
                              cases qob_ret hf
                              exact ct_iret X hQ hK hP hD hS rfl dX9_about_215
                            · have hf := qob_f hf c1_13
                              refine lv_tableOut (tgt := 216) hx hb dX9_about_1 (by have g0 := lv_neT c1_0 (a := 0) rfl; have g1 := lv_neT c1_1 (a := 1) rfl; have g2 := lv_neT c1_2 (a := 2) rfl; have g3 := lv_neT c1_3 (a := 3) rfl; have g4 := lv_neT c1_4 (a := 4) rfl; have g5 := lv_neT c1_5 (a := 5) rfl; have g6 := lv_neT c1_6 (a := 6) rfl; have g7 := lv_neT c1_7 (a := 7) rfl; have g8 := lv_neT c1_8 (a := 8) rfl; have g9 := lv_neT c1_9 (a := 9) rfl; have g10 := lv_neT c1_10 (a := 10) rfl; have g11 := lv_neT c1_11 (a := 11) rfl; have g12 := lv_neT c1_12 (a := 12) rfl; have g13 := lv_neT c1_13 (a := 13) rfl; omega) (by decide) ?_
                              refine lv_bipush (v := (-2)) hx hb dX9_about_216 (by decide) ?_
                              cases qob_ret hf
                              exact ct_iret X hQ hK hP hD hS rfl dX9_about_218
theorem inwX9_part_X9 : ∀ w ∈ wsX90, w ∈ wsX9_part := fun _ h => List.mem_cons_of_mem _ (List.mem_append_left _ (List.mem_append_right _ h))
abbrev rmX9_part : Room := { frames := 3, cells := 0, slots := 0, locals := 72 }
theorem hdX9_part : yX9_part.cls = RX9 ∧ yX9_part.cls ≠ "java/lang/invoke/MethodHandle" ∧ yX9_part.cls ≠ "java/lang/invoke/VarHandle" ∧ (parseMethodDescriptor yX9_part.desc).map (fun d => d.parameters.length) = some 1 := by decide +kernel
set_option maxHeartbeats 4000000 in
set_option maxRecDepth 100000 in
theorem KX9_part {l : Launch} {D : va_G} {cy : Nat → ClassId} {hw sc g tn sl mk sv ro wk su ch hu : Nat} {g_rows : Int32} {g_columns : Int32} {g_a : Int32} {g_b : Int32} {g_cells : Int64} {g_right : Int64} {g_down : Int64} {p1 : Int32} {r : Int32} (hf : fX9_part g_rows g_columns g_cells g_right g_down p1 = some r) : CtI l yX9_part wsX9_part rmX9_part D cy [.ref hw, .int p1] ([oX9 hw sc g tn sl mk sv ro wk su ch hu, oX1 g g_rows g_columns g_a g_b g_cells g_right g_down]) ([oX9 hw sc g tn sl mk sv ro wk su ch hu, oX1 g g_rows g_columns g_a g_b g_cells g_right g_down]) r := by
  refine CtI.of (cc := cX9_part) (maxL := 3) (ret := some .int) (own := RX9) (by decide) rfl rfl (Nat.le_of_ble_eq_true rfl) ?_
  intro p e s m args below meth c A Q X hQ hK hP hD hS ls hl
  obtain ⟨hx, hb, hml, hown, hts, hr, hlocks, hA, hZ⟩ := id X
  have hl : lv_has ls 3 [(0, .ref hw), (1, .int p1)] := hl
  unfold fX9_part at hf
  have hf := qob_top hf
  refine lv_aload_n hx hb dX9_part_0 rfl (lv_at hl 0 rfl) ?_
  refine va_get (D := D) (ci := 9) (v := .ref g) (C := RX9) (T := TX9) (N := 11) hx hb hts inwX9_part_X9 hown hK hP 0 rfl rfl 1 (by decide) (hts (.fieldLink RX9 19 "HedgeWays" "grid" "LHedgeWays$Grid;") (List.mem_of_getElem? (i := 1) rfl)) (fun _ h9 => h9) rfl dX9_part_1 ?_
  refine lv_iload_n hx hb dX9_part_4 rfl (lv_at hl 1 rfl) ?_
  refine ctV_i0 (r := (fX1_placeOf g_rows g_columns p1)) (wc := [oX1 g g_rows g_columns g_a g_b g_cells g_right g_down]) (As := [.int p1]) (rest := []) (q0 := 1) X hK hP hD hS [1] rfl rfl rfl (KX1_placeOf rfl _) (cwV 1 hts gX9_part_X1_placeOf rfl rfl rfl hdX1_placeOf ⟨Nat.le_of_ble_eq_true rfl, Nat.le_of_ble_eq_true rfl⟩) rfl rfl rfl hl rfl (Nat.le_of_ble_eq_true rfl) dX9_part_5 (Nat.zero_le _) (Nat.zero_le _) (fun H locs hP hS => ?_)
  refine lv_istore_n (lv' := [(2, .int (fX1_placeOf g_rows g_columns p1)), (0, .ref hw), (1, .int p1)]) hx hb dX9_part_8 rfl hl (by decide) rfl (fun ls hl => ?_)
  refine lv_iload_n hx hb dX9_part_9 rfl (lv_at hl 0 rfl) ?_
  refine lv_iconst (v := (-1)) hx hb dX9_part_10 (by decide) ?_
  refine lv_icmp_ne (tgt := 16) hx hb dX9_part_11 (by decide) (fun c1 => ?_) (fun c1 => ?_)
  · have hf := qob_f hf c1
    refine lv_aload_n hx hb dX9_part_16 rfl (lv_at hl 1 rfl) ?_
    refine va_get (D := D) (ci := 9) (v := .ref g) (C := RX9) (T := TX9) (N := 11) hx hb hts inwX9_part_X9 hown hK hP 0 rfl rfl 1 (by decide) (hts (.fieldLink RX9 19 "HedgeWays" "grid" "LHedgeWays$Grid;") (List.mem_of_getElem? (i := 1) rfl)) (fun _ h9 => h9) rfl dX9_part_17 ?_
    refine lv_iload_n hx hb dX9_part_20 rfl (lv_at hl 0 rfl) ?_
    obtain ⟨r_1, q2, hf⟩ := qcall1 hf
    refine ctV_l0 (r := r_1) (wc := [oX1 g g_rows g_columns g_a g_b g_cells g_right g_down]) (As := [.int (fX1_placeOf g_rows g_columns p1)]) (rest := []) (q0 := 1) X hK hP hD hS [1] rfl rfl rfl (KX1_partOf q2 _) (cwV 1 hts gX9_part_X1_partOf rfl rfl rfl hdX1_partOf ⟨Nat.le_of_ble_eq_true rfl, Nat.le_of_ble_eq_true rfl⟩) rfl rfl rfl hl rfl (Nat.le_of_ble_eq_true rfl) dX9_part_21 (Nat.zero_le _) (Nat.zero_le _) (fun H locs hP hS => ?_)
    refine ctS_i0 (r := (fX1_least r_1)) (wc := []) (As := [.long r_1]) (rest := []) X hK hP hD hS [] rfl rfl rfl (KX1_least rfl _) (va_cwS 1 hts gX9_part_X1_least rfl rfl rfl hdX1_least ⟨Nat.le_of_ble_eq_true rfl, Nat.le_of_ble_eq_true rfl⟩) rfl hl rfl (Nat.le_of_ble_eq_true rfl) dX9_part_24 (Nat.zero_le _) (Nat.zero_le _) (fun H locs hP hS => ?_)
    refine ctS_i0 (r := (fX1_told (fX1_least r_1))) (wc := []) (As := [.int (fX1_least r_1)]) (rest := []) X hK hP hD hS [] rfl rfl rfl (KX1_told rfl _) (va_cwS 1 hts gX9_part_X1_told rfl rfl rfl hdX1_told ⟨Nat.le_of_ble_eq_true rfl, Nat.le_of_ble_eq_true rfl⟩) rfl hl rfl (Nat.le_of_ble_eq_true rfl) dX9_part_27 (Nat.zero_le _) (Nat.zero_le _) (fun H locs hP hS => ?_)
    cases qob_ret hf
    exact ct_iret X hQ hK hP hD hS rfl dX9_part_30
  · have hf := qob_t hf c1
    refine lv_iconst (v := (-1)) hx hb dX9_part_14 (by decide) ?_
    cases qob_ret hf
    exact ct_iret X hQ hK hP hD hS rfl dX9_part_15
theorem inwX9_bridge_X9 : ∀ w ∈ wsX90, w ∈ wsX9_bridge := fun _ h => List.mem_cons_of_mem _ (List.mem_append_left _ (List.mem_append_left _ (List.mem_append_right _ h)))
abbrev rmX9_bridge : Room := { frames := 4, cells := 0, slots := 0, locals := 96 }
theorem hdX9_bridge : yX9_bridge.cls = RX9 ∧ yX9_bridge.cls ≠ "java/lang/invoke/MethodHandle" ∧ yX9_bridge.cls ≠ "java/lang/invoke/VarHandle" ∧ (parseMethodDescriptor yX9_bridge.desc).map (fun d => d.parameters.length) = some 2 := by decide +kernel
set_option maxHeartbeats 4000000 in
set_option maxRecDepth 100000 in
theorem KX9_bridge {l : Launch} {D : va_G} {cy : Nat → ClassId} {hw sc g tn sl mk sv ro wk su ch hu : Nat} {g_rows : Int32} {g_columns : Int32} {g_a : Int32} {g_b : Int32} {g_cells : Int64} {g_right : Int64} {g_down : Int64} {p1 : Int32} {p2 : Int32} {r : Int32} {g_right' : Int64} {g_down' : Int64} (hf : fX9_bridge g_rows g_columns g_cells g_right g_down p1 p2 = some (r, g_right', g_down')) : CtI l yX9_bridge wsX9_bridge rmX9_bridge D cy [.ref hw, .int p1, .int p2] ([oX9 hw sc g tn sl mk sv ro wk su ch hu, oX1 g g_rows g_columns g_a g_b g_cells g_right g_down, oX7 sv g]) ([oX9 hw sc g tn sl mk sv ro wk su ch hu, oX1 g g_rows g_columns g_a g_b g_cells g_right' g_down', oX7 sv g]) r := by
  refine CtI.of (cc := cX9_bridge) (maxL := 4) (ret := some .int) (own := RX9) (by decide) rfl rfl (Nat.le_of_ble_eq_true rfl) ?_
  intro p e s m args below meth c A Q X hQ hK hP hD hS ls hl
  obtain ⟨hx, hb, hml, hown, hts, hr, hlocks, hA, hZ⟩ := id X
  have hl : lv_has ls 4 [(0, .ref hw), (1, .int p1), (2, .int p2)] := hl
  unfold fX9_bridge at hf
  have hf := qob_top hf
  refine lv_aload_n hx hb dX9_bridge_0 rfl (lv_at hl 0 rfl) ?_
  refine va_get (D := D) (ci := 9) (v := .ref g) (C := RX9) (T := TX9) (N := 11) hx hb hts inwX9_bridge_X9 hown hK hP 0 rfl rfl 1 (by decide) (hts (.fieldLink RX9 19 "HedgeWays" "grid" "LHedgeWays$Grid;") (List.mem_of_getElem? (i := 1) rfl)) (fun _ h9 => h9) rfl dX9_bridge_1 ?_
  refine lv_iload_n hx hb dX9_bridge_4 rfl (lv_at hl 1 rfl) ?_
  refine ctV_i0 (r := (fX1_placeOf g_rows g_columns p1)) (wc := [oX1 g g_rows g_columns g_a g_b g_cells g_right g_down]) (As := [.int p1]) (rest := []) (q0 := 1) X hK hP hD hS [1] rfl rfl rfl (KX1_placeOf rfl _) (cwV 1 hts gX9_bridge_X1_placeOf rfl rfl rfl hdX1_placeOf ⟨Nat.le_of_ble_eq_true rfl, Nat.le_of_ble_eq_true rfl⟩) rfl rfl rfl hl rfl (Nat.le_of_ble_eq_true rfl) dX9_bridge_5 (Nat.zero_le _) (Nat.zero_le _) (fun H locs hP hS => ?_)
  refine lv_istore_n (lv' := [(3, .int (fX1_placeOf g_rows g_columns p1)), (0, .ref hw), (1, .int p1), (2, .int p2)]) hx hb dX9_bridge_8 rfl hl (by decide) rfl (fun ls hl => ?_)
  refine lv_iload_n hx hb dX9_bridge_9 rfl (lv_at hl 0 rfl) ?_
  refine lv_iconst (v := (-1)) hx hb dX9_bridge_10 (by decide) ?_
  refine lv_icmp_eq (tgt := 21) hx hb dX9_bridge_11 (by decide) (fun c1 => ?_) (fun c1 => ?_)
  · have hf := qob_t hf c1
    refine lv_iconst (v := (-1)) hx hb dX9_bridge_21 (by decide) ?_
    cases qob_ret hf
    exact ct_iret X hQ hK hP hD hS rfl dX9_bridge_22
  · have hf := qob_f hf c1
    refine lv_iload_n hx hb dX9_bridge_14 rfl (lv_at hl 3 rfl) ?_
    refine ctS_i0 (r := (fX9_isSide p2)) (wc := []) (As := [.int p2]) (rest := []) X hK hP hD hS [] rfl rfl rfl (KX9_isSide rfl _) (va_cwS 1 hts gX9_bridge_X9_isSide rfl rfl rfl hdX9_isSide ⟨Nat.le_of_ble_eq_true rfl, Nat.le_of_ble_eq_true rfl⟩) rfl hl rfl (Nat.le_of_ble_eq_true rfl) dX9_bridge_15 (Nat.zero_le _) (Nat.zero_le _) (fun H locs hP hS => ?_)
    refine lv_if_ne (tgt := 23) hx hb dX9_bridge_18 (by decide) (fun c2 => ?_) (fun c2 => ?_)
    · have hf := qob_f hf c2
      refine lv_aload_n hx hb dX9_bridge_23 rfl (lv_at hl 1 rfl) ?_
      refine va_get (D := D) (ci := 9) (v := .ref g) (C := RX9) (T := TX9) (N := 11) hx hb hts inwX9_bridge_X9 hown hK hP 0 rfl rfl 1 (by decide) (hts (.fieldLink RX9 19 "HedgeWays" "grid" "LHedgeWays$Grid;") (List.mem_of_getElem? (i := 1) rfl)) (fun _ h9 => h9) rfl dX9_bridge_24 ?_
      refine lv_iload_n hx hb dX9_bridge_27 rfl (lv_at hl 0 rfl) ?_
      refine lv_iload_n hx hb dX9_bridge_28 rfl (lv_at hl 3 rfl) ?_
      refine ctV_i0 (r := (fX1_isOpen g_right g_down (fX1_placeOf g_rows g_columns p1) p2)) (wc := [oX1 g g_rows g_columns g_a g_b g_cells g_right g_down]) (As := [.int (fX1_placeOf g_rows g_columns p1), .int p2]) (rest := []) (q0 := 1) X hK hP hD hS [1] rfl rfl rfl (KX1_isOpen rfl _) (cwV 2 hts gX9_bridge_X1_isOpen rfl rfl rfl hdX1_isOpen ⟨Nat.le_of_ble_eq_true rfl, Nat.le_of_ble_eq_true rfl⟩) rfl rfl rfl hl rfl (Nat.le_of_ble_eq_true rfl) dX9_bridge_29 (Nat.zero_le _) (Nat.zero_le _) (fun H locs hP hS => ?_)
      refine lv_if_ne (tgt := 38) hx hb dX9_bridge_32 (by decide) (fun c3 => ?_) (fun c3 => ?_)
      · have hf := qob_f hf c3
        refine lv_aload_n hx hb dX9_bridge_38 rfl (lv_at hl 1 rfl) ?_
        refine va_get (D := D) (ci := 9) (v := .ref sv) (C := RX9) (T := TX9) (N := 11) hx hb hts inwX9_bridge_X9 hown hK hP 0 rfl rfl 5 (by decide) (hts (.fieldLink RX9 42 "HedgeWays" "survey" "LHedgeWays$Survey;") (List.mem_of_getElem? (i := 2) rfl)) (fun _ h9 => h9) rfl dX9_bridge_39 ?_
        refine lv_iload_n hx hb dX9_bridge_42 rfl (lv_at hl 0 rfl) ?_
        refine lv_iload_n hx hb dX9_bridge_43 rfl (lv_at hl 3 rfl) ?_
        obtain ⟨r_1, g_right_1, g_down_1, q4, hf⟩ := qcall3 hf
        refine ctV_i (r := r_1) (wc := [oX7 sv g, oX1 g g_rows g_columns g_a g_b g_cells g_right g_down]) (w1 := [oX7 sv g, oX1 g g_rows g_columns g_a g_b g_cells g_right_1 g_down_1]) (wr := [oX9 hw sc g tn sl mk sv ro wk su ch hu]) (wn := [oX9 hw sc g tn sl mk sv ro wk su ch hu, oX1 g g_rows g_columns g_a g_b g_cells g_right_1 g_down_1, oX7 sv g]) (As := [.int (fX1_placeOf g_rows g_columns p1), .int p2]) (rest := []) (q0 := 2) X hK hP hD hS [2, 1] [0] [0, 2, 1] rfl rfl rfl rfl rfl (by decide) rfl rfl rfl (KX7_isBridge q4 _) (cwV 2 hts gX9_bridge_X7_isBridge rfl rfl rfl hdX7_isBridge ⟨Nat.le_of_ble_eq_true rfl, Nat.le_of_ble_eq_true rfl⟩) rfl rfl rfl hl rfl (Nat.le_of_ble_eq_true rfl) dX9_bridge_44 (Nat.zero_le _) (Nat.zero_le _) (fun H locs hP hD hS => ?_)
        refine ctS_i0 (r := (fX9_oneIf r_1)) (wc := []) (As := [.int r_1]) (rest := []) X hK hP hD hS [] rfl rfl rfl (KX9_oneIf rfl _) (va_cwS 1 hts gX9_bridge_X9_oneIf rfl rfl rfl hdX9_oneIf ⟨Nat.le_of_ble_eq_true rfl, Nat.le_of_ble_eq_true rfl⟩) rfl hl rfl (Nat.le_of_ble_eq_true rfl) dX9_bridge_47 (Nat.zero_le _) (Nat.zero_le _) (fun H locs hP hS => ?_)
        cases qob_ret hf
        exact ct_iret X hQ hK hP hD hS rfl dX9_bridge_50
      · have hf := qob_t hf c3
        refine lv_bipush (v := (-3)) hx hb dX9_bridge_35 (by decide) ?_
        cases qob_ret hf
        exact ct_iret X hQ hK hP hD hS rfl dX9_bridge_37
    · have hf := qob_t hf c2
      refine lv_iconst (v := (-1)) hx hb dX9_bridge_21 (by decide) ?_
      cases qob_ret hf
      exact ct_iret X hQ hK hP hD hS rfl dX9_bridge_22
theorem inwX9_must_X9 : ∀ w ∈ wsX90, w ∈ wsX9_must := fun _ h => List.mem_cons_of_mem _ (List.mem_append_left _ (List.mem_append_left _ (List.mem_append_right _ h)))
abbrev rmX9_must : Room := { frames := 3, cells := 0, slots := 0, locals := 80 }
theorem hdX9_must : yX9_must.cls = RX9 ∧ yX9_must.cls ≠ "java/lang/invoke/MethodHandle" ∧ yX9_must.cls ≠ "java/lang/invoke/VarHandle" ∧ (parseMethodDescriptor yX9_must.desc).map (fun d => d.parameters.length) = some 1 := by decide +kernel
set_option maxHeartbeats 4000000 in
set_option maxRecDepth 100000 in
theorem KX9_must {l : Launch} {D : va_G} {cy : Nat → ClassId} {hw sc g tn sl mk sv ro wk su ch hu : Nat} {g_rows : Int32} {g_columns : Int32} {g_a : Int32} {g_b : Int32} {g_cells : Int64} {g_right : Int64} {g_down : Int64} {p1 : Int32} {r : Int32} (hf : fX9_must g_rows g_columns g_a g_b g_cells g_right g_down p1 = some r) : CtI l yX9_must wsX9_must rmX9_must D cy [.ref hw, .int p1] ([oX9 hw sc g tn sl mk sv ro wk su ch hu, oX1 g g_rows g_columns g_a g_b g_cells g_right g_down, oX7 sv g]) ([oX9 hw sc g tn sl mk sv ro wk su ch hu, oX1 g g_rows g_columns g_a g_b g_cells g_right g_down, oX7 sv g]) r := by
  refine CtI.of (cc := cX9_must) (maxL := 3) (ret := some .int) (own := RX9) (by decide) rfl rfl (Nat.le_of_ble_eq_true rfl) ?_
  intro p e s m args below meth c A Q X hQ hK hP hD hS ls hl
  obtain ⟨hx, hb, hml, hown, hts, hr, hlocks, hA, hZ⟩ := id X
  have hl : lv_has ls 3 [(0, .ref hw), (1, .int p1)] := hl
  unfold fX9_must at hf
  have hf := qob_top hf
  refine lv_aload_n hx hb dX9_must_0 rfl (lv_at hl 0 rfl) ?_
  refine va_get (D := D) (ci := 9) (v := .ref g) (C := RX9) (T := TX9) (N := 11) hx hb hts inwX9_must_X9 hown hK hP 0 rfl rfl 1 (by decide) (hts (.fieldLink RX9 19 "HedgeWays" "grid" "LHedgeWays$Grid;") (List.mem_of_getElem? (i := 1) rfl)) (fun _ h9 => h9) rfl dX9_must_1 ?_
  refine lv_iload_n hx hb dX9_must_4 rfl (lv_at hl 1 rfl) ?_
  refine ctV_i0 (r := (fX1_placeOf g_rows g_columns p1)) (wc := [oX1 g g_rows g_columns g_a g_b g_cells g_right g_down]) (As := [.int p1]) (rest := []) (q0 := 1) X hK hP hD hS [1] rfl rfl rfl (KX1_placeOf rfl _) (cwV 1 hts gX9_must_X1_placeOf rfl rfl rfl hdX1_placeOf ⟨Nat.le_of_ble_eq_true rfl, Nat.le_of_ble_eq_true rfl⟩) rfl rfl rfl hl rfl (Nat.le_of_ble_eq_true rfl) dX9_must_5 (Nat.zero_le _) (Nat.zero_le _) (fun H locs hP hS => ?_)
  refine lv_istore_n (lv' := [(2, .int (fX1_placeOf g_rows g_columns p1)), (0, .ref hw), (1, .int p1)]) hx hb dX9_must_8 rfl hl (by decide) rfl (fun ls hl => ?_)
  refine lv_iload_n hx hb dX9_must_9 rfl (lv_at hl 0 rfl) ?_
  refine lv_iconst (v := (-1)) hx hb dX9_must_10 (by decide) ?_
  refine lv_icmp_ne (tgt := 16) hx hb dX9_must_11 (by decide) (fun c1 => ?_) (fun c1 => ?_)
  · have hf := qob_f hf c1
    refine lv_aload_n hx hb dX9_must_16 rfl (lv_at hl 1 rfl) ?_
    refine va_get (D := D) (ci := 9) (v := .ref sv) (C := RX9) (T := TX9) (N := 11) hx hb hts inwX9_must_X9 hown hK hP 0 rfl rfl 5 (by decide) (hts (.fieldLink RX9 42 "HedgeWays" "survey" "LHedgeWays$Survey;") (List.mem_of_getElem? (i := 2) rfl)) (fun _ h9 => h9) rfl dX9_must_17 ?_
    obtain ⟨r_1, q2, hf⟩ := qcall1 hf
    refine ctV_l0 (r := r_1) (wc := [oX7 sv g, oX1 g g_rows g_columns g_a g_b g_cells g_right g_down]) (As := []) (rest := []) (q0 := 2) X hK hP hD hS [2, 1] rfl rfl rfl (KX7_mustCells q2 _) (cwV 0 hts gX9_must_X7_mustCells rfl rfl rfl hdX7_mustCells ⟨Nat.le_of_ble_eq_true rfl, Nat.le_of_ble_eq_true rfl⟩) rfl rfl rfl hl rfl (Nat.le_of_ble_eq_true rfl) dX9_must_20 (Nat.zero_le _) (Nat.zero_le _) (fun H locs hP hS => ?_)
    refine lv_iload_n hx hb dX9_must_23 rfl (lv_at hl 0 rfl) ?_
    refine ctS_i0 (r := (fX1_has r_1 (fX1_placeOf g_rows g_columns p1))) (wc := []) (As := [.long r_1, .int (fX1_placeOf g_rows g_columns p1)]) (rest := []) X hK hP hD hS [] rfl rfl rfl (KX1_has rfl _) (va_cwS 2 hts gX9_must_X1_has rfl rfl rfl hdX1_has ⟨Nat.le_of_ble_eq_true rfl, Nat.le_of_ble_eq_true rfl⟩) rfl hl rfl (Nat.le_of_ble_eq_true rfl) dX9_must_24 (Nat.zero_le _) (Nat.zero_le _) (fun H locs hP hS => ?_)
    refine ctS_i0 (r := (fX9_oneIf (fX1_has r_1 (fX1_placeOf g_rows g_columns p1)))) (wc := []) (As := [.int (fX1_has r_1 (fX1_placeOf g_rows g_columns p1))]) (rest := []) X hK hP hD hS [] rfl rfl rfl (KX9_oneIf rfl _) (va_cwS 1 hts gX9_must_X9_oneIf rfl rfl rfl hdX9_oneIf ⟨Nat.le_of_ble_eq_true rfl, Nat.le_of_ble_eq_true rfl⟩) rfl hl rfl (Nat.le_of_ble_eq_true rfl) dX9_must_27 (Nat.zero_le _) (Nat.zero_le _) (fun H locs hP hS => ?_)
    cases qob_ret hf
    exact ct_iret X hQ hK hP hD hS rfl dX9_must_30
  · have hf := qob_t hf c1
    refine lv_iconst (v := (-1)) hx hb dX9_must_14 (by decide) ?_
    cases qob_ret hf
    exact ct_iret X hQ hK hP hD hS rfl dX9_must_15
theorem inwX9_left_X9 : ∀ w ∈ wsX90, w ∈ wsX9_left := fun _ h => List.mem_cons_of_mem _ (List.mem_append_left _ (List.mem_append_left _ (List.mem_append_right _ h)))
abbrev rmX9_left : Room := { frames := 3, cells := 0, slots := 0, locals := 73 }
theorem hdX9_left : yX9_left.cls = RX9 ∧ yX9_left.cls ≠ "java/lang/invoke/MethodHandle" ∧ yX9_left.cls ≠ "java/lang/invoke/VarHandle" ∧ (parseMethodDescriptor yX9_left.desc).map (fun d => d.parameters.length) = some 1 := by decide +kernel
set_option maxHeartbeats 4000000 in
set_option maxRecDepth 100000 in
theorem KX9_left {l : Launch} {D : va_G} {cy : Nat → ClassId} {hw sc g tn sl mk sv ro wk su ch hu : Nat} {g_rows : Int32} {g_columns : Int32} {g_a : Int32} {g_b : Int32} {g_cells : Int64} {g_right : Int64} {g_down : Int64} {p1 : Int32} {r : Int32} (hf : fX9_left g_rows g_columns g_a g_b g_cells g_right g_down p1 = some r) : CtI l yX9_left wsX9_left rmX9_left D cy [.ref hw, .int p1] ([oX9 hw sc g tn sl mk sv ro wk su ch hu, oX1 g g_rows g_columns g_a g_b g_cells g_right g_down, oX7 sv g]) ([oX9 hw sc g tn sl mk sv ro wk su ch hu, oX1 g g_rows g_columns g_a g_b g_cells g_right g_down, oX7 sv g]) r := by
  refine CtI.of (cc := cX9_left) (maxL := 3) (ret := some .int) (own := RX9) (by decide) rfl rfl (Nat.le_of_ble_eq_true rfl) ?_
  intro p e s m args below meth c A Q X hQ hK hP hD hS ls hl
  obtain ⟨hx, hb, hml, hown, hts, hr, hlocks, hA, hZ⟩ := id X
  have hl : lv_has ls 3 [(0, .ref hw), (1, .int p1)] := hl
  unfold fX9_left at hf
  have hf := qob_top hf
  refine lv_aload_n hx hb dX9_left_0 rfl (lv_at hl 0 rfl) ?_
  refine va_get (D := D) (ci := 9) (v := .ref g) (C := RX9) (T := TX9) (N := 11) hx hb hts inwX9_left_X9 hown hK hP 0 rfl rfl 1 (by decide) (hts (.fieldLink RX9 19 "HedgeWays" "grid" "LHedgeWays$Grid;") (List.mem_of_getElem? (i := 1) rfl)) (fun _ h9 => h9) rfl dX9_left_1 ?_
  refine lv_iload_n hx hb dX9_left_4 rfl (lv_at hl 1 rfl) ?_
  refine ctV_i0 (r := (fX1_placeOf g_rows g_columns p1)) (wc := [oX1 g g_rows g_columns g_a g_b g_cells g_right g_down]) (As := [.int p1]) (rest := []) (q0 := 1) X hK hP hD hS [1] rfl rfl rfl (KX1_placeOf rfl _) (cwV 1 hts gX9_left_X1_placeOf rfl rfl rfl hdX1_placeOf ⟨Nat.le_of_ble_eq_true rfl, Nat.le_of_ble_eq_true rfl⟩) rfl rfl rfl hl rfl (Nat.le_of_ble_eq_true rfl) dX9_left_5 (Nat.zero_le _) (Nat.zero_le _) (fun H locs hP hS => ?_)
  refine lv_istore_n (lv' := [(2, .int (fX1_placeOf g_rows g_columns p1)), (0, .ref hw), (1, .int p1)]) hx hb dX9_left_8 rfl hl (by decide) rfl (fun ls hl => ?_)
  refine lv_iload_n hx hb dX9_left_9 rfl (lv_at hl 0 rfl) ?_
  refine lv_iconst (v := (-1)) hx hb dX9_left_10 (by decide) ?_
  refine lv_icmp_ne (tgt := 16) hx hb dX9_left_11 (by decide) (fun c1 => ?_) (fun c1 => ?_)
  · have hf := qob_f hf c1
    refine lv_aload_n hx hb dX9_left_16 rfl (lv_at hl 1 rfl) ?_
    refine va_get (D := D) (ci := 9) (v := .ref sv) (C := RX9) (T := TX9) (N := 11) hx hb hts inwX9_left_X9 hown hK hP 0 rfl rfl 5 (by decide) (hts (.fieldLink RX9 42 "HedgeWays" "survey" "LHedgeWays$Survey;") (List.mem_of_getElem? (i := 2) rfl)) (fun _ h9 => h9) rfl dX9_left_17 ?_
    obtain ⟨r_1, q2, hf⟩ := qcall1 hf
    refine ctV_l0 (r := r_1) (wc := [oX7 sv g, oX1 g g_rows g_columns g_a g_b g_cells g_right g_down]) (As := []) (rest := []) (q0 := 2) X hK hP hD hS [2, 1] rfl rfl rfl (KX7_leftCells q2 _) (cwV 0 hts gX9_left_X7_leftCells rfl rfl rfl hdX7_leftCells ⟨Nat.le_of_ble_eq_true rfl, Nat.le_of_ble_eq_true rfl⟩) rfl rfl rfl hl rfl (Nat.le_of_ble_eq_true rfl) dX9_left_20 (Nat.zero_le _) (Nat.zero_le _) (fun H locs hP hS => ?_)
    refine lv_iload_n hx hb dX9_left_23 rfl (lv_at hl 0 rfl) ?_
    refine ctS_i0 (r := (fX1_has r_1 (fX1_placeOf g_rows g_columns p1))) (wc := []) (As := [.long r_1, .int (fX1_placeOf g_rows g_columns p1)]) (rest := []) X hK hP hD hS [] rfl rfl rfl (KX1_has rfl _) (va_cwS 2 hts gX9_left_X1_has rfl rfl rfl hdX1_has ⟨Nat.le_of_ble_eq_true rfl, Nat.le_of_ble_eq_true rfl⟩) rfl hl rfl (Nat.le_of_ble_eq_true rfl) dX9_left_24 (Nat.zero_le _) (Nat.zero_le _) (fun H locs hP hS => ?_)
    refine ctS_i0 (r := (fX9_oneIf (fX1_has r_1 (fX1_placeOf g_rows g_columns p1)))) (wc := []) (As := [.int (fX1_has r_1 (fX1_placeOf g_rows g_columns p1))]) (rest := []) X hK hP hD hS [] rfl rfl rfl (KX9_oneIf rfl _) (va_cwS 1 hts gX9_left_X9_oneIf rfl rfl rfl hdX9_oneIf ⟨Nat.le_of_ble_eq_true rfl, Nat.le_of_ble_eq_true rfl⟩) rfl hl rfl (Nat.le_of_ble_eq_true rfl) dX9_left_27 (Nat.zero_le _) (Nat.zero_le _) (fun H locs hP hS => ?_)
    cases qob_ret hf
    exact ct_iret X hQ hK hP hD hS rfl dX9_left_30
  · have hf := qob_t hf c1
    refine lv_iconst (v := (-1)) hx hb dX9_left_14 (by decide) ?_
    cases qob_ret hf
    exact ct_iret X hQ hK hP hD hS rfl dX9_left_15
theorem inwX9_far_X9 : ∀ w ∈ wsX90, w ∈ wsX9_far := fun _ h => List.mem_cons_of_mem _ (List.mem_append_left _ (List.mem_append_right _ h))
abbrev rmX9_far : Room := { frames := 2, cells := 0, slots := 0, locals := 47 }
theorem hdX9_far : yX9_far.cls = RX9 ∧ yX9_far.cls ≠ "java/lang/invoke/MethodHandle" ∧ yX9_far.cls ≠ "java/lang/invoke/VarHandle" ∧ (parseMethodDescriptor yX9_far.desc).map (fun d => d.parameters.length) = some 2 := by decide +kernel
set_option maxHeartbeats 4000000 in
set_option maxRecDepth 100000 in
theorem KX9_far {l : Launch} {D : va_G} {cy : Nat → ClassId} {hw sc g tn sl mk sv ro wk su ch hu : Nat} {g_rows : Int32} {g_columns : Int32} {g_a : Int32} {g_b : Int32} {g_cells : Int64} {g_right : Int64} {g_down : Int64} {p1 : Int32} {p2 : Int32} {r : Int32} (hf : fX9_far g_rows g_columns g_right g_down p1 p2 = some r) : CtI l yX9_far wsX9_far rmX9_far D cy [.ref hw, .int p1, .int p2] ([oX9 hw sc g tn sl mk sv ro wk su ch hu, oX1 g g_rows g_columns g_a g_b g_cells g_right g_down]) ([oX9 hw sc g tn sl mk sv ro wk su ch hu, oX1 g g_rows g_columns g_a g_b g_cells g_right g_down]) r := by
  refine CtI.of (cc := cX9_far) (maxL := 5) (ret := some .int) (own := RX9) (by decide) rfl rfl (Nat.le_of_ble_eq_true rfl) ?_
  intro p e s m args below meth c A Q X hQ hK hP hD hS ls hl
  obtain ⟨hx, hb, hml, hown, hts, hr, hlocks, hA, hZ⟩ := id X
  have hl : lv_has ls 5 [(0, .ref hw), (1, .int p1), (2, .int p2)] := hl
  unfold fX9_far at hf
  have hf := qob_top hf
  refine lv_aload_n hx hb dX9_far_0 rfl (lv_at hl 0 rfl) ?_
  refine va_get (D := D) (ci := 9) (v := .ref g) (C := RX9) (T := TX9) (N := 11) hx hb hts inwX9_far_X9 hown hK hP 0 rfl rfl 1 (by decide) (hts (.fieldLink RX9 19 "HedgeWays" "grid" "LHedgeWays$Grid;") (List.mem_of_getElem? (i := 1) rfl)) (fun _ h9 => h9) rfl dX9_far_1 ?_
  refine lv_iload_n hx hb dX9_far_4 rfl (lv_at hl 1 rfl) ?_
  refine ctV_i0 (r := (fX1_placeOf g_rows g_columns p1)) (wc := [oX1 g g_rows g_columns g_a g_b g_cells g_right g_down]) (As := [.int p1]) (rest := []) (q0 := 1) X hK hP hD hS [1] rfl rfl rfl (KX1_placeOf rfl _) (cwV 1 hts gX9_far_X1_placeOf rfl rfl rfl hdX1_placeOf ⟨Nat.le_of_ble_eq_true rfl, Nat.le_of_ble_eq_true rfl⟩) rfl rfl rfl hl rfl (Nat.le_of_ble_eq_true rfl) dX9_far_5 (Nat.zero_le _) (Nat.zero_le _) (fun H locs hP hS => ?_)
  refine lv_istore_n (lv' := [(3, .int (fX1_placeOf g_rows g_columns p1)), (0, .ref hw), (1, .int p1), (2, .int p2)]) hx hb dX9_far_8 rfl hl (by decide) rfl (fun ls hl => ?_)
  refine lv_aload_n hx hb dX9_far_9 rfl (lv_at hl 1 rfl) ?_
  refine va_get (D := D) (ci := 9) (v := .ref g) (C := RX9) (T := TX9) (N := 11) hx hb hts inwX9_far_X9 hown hK hP 0 rfl rfl 1 (by decide) (hts (.fieldLink RX9 19 "HedgeWays" "grid" "LHedgeWays$Grid;") (List.mem_of_getElem? (i := 1) rfl)) (fun _ h9 => h9) rfl dX9_far_10 ?_
  refine lv_iload_n hx hb dX9_far_13 rfl (lv_at hl 3 rfl) ?_
  refine ctV_i0 (r := (fX1_placeOf g_rows g_columns p2)) (wc := [oX1 g g_rows g_columns g_a g_b g_cells g_right g_down]) (As := [.int p2]) (rest := []) (q0 := 1) X hK hP hD hS [1] rfl rfl rfl (KX1_placeOf rfl _) (cwV 1 hts gX9_far_X1_placeOf rfl rfl rfl hdX1_placeOf ⟨Nat.le_of_ble_eq_true rfl, Nat.le_of_ble_eq_true rfl⟩) rfl rfl rfl hl rfl (Nat.le_of_ble_eq_true rfl) dX9_far_14 (Nat.zero_le _) (Nat.zero_le _) (fun H locs hP hS => ?_)
  refine lv_istore (lv' := [(4, .int (fX1_placeOf g_rows g_columns p2)), (3, .int (fX1_placeOf g_rows g_columns p1)), (0, .ref hw), (1, .int p1), (2, .int p2)]) hx hb dX9_far_17 hl (by decide) rfl (fun ls hl => ?_)
  refine lv_iload_n hx hb dX9_far_19 rfl (lv_at hl 1 rfl) ?_
  refine lv_iconst (v := (-1)) hx hb dX9_far_20 (by decide) ?_
  refine lv_icmp_eq (tgt := 30) hx hb dX9_far_21 (by decide) (fun c1 => ?_) (fun c1 => ?_)
  · have hf := qob_t hf c1
    refine lv_iconst (v := (-1)) hx hb dX9_far_30 (by decide) ?_
    cases qob_ret hf
    exact ct_iret X hQ hK hP hD hS rfl dX9_far_31
  · have hf := qob_f hf c1
    refine lv_iload hx hb dX9_far_24 (lv_at hl 0 rfl) ?_
    refine lv_iconst (v := (-1)) hx hb dX9_far_26 (by decide) ?_
    refine lv_icmp_ne (tgt := 32) hx hb dX9_far_27 (by decide) (fun c2 => ?_) (fun c2 => ?_)
    · have hf := qob_f hf c2
      refine lv_aload_n hx hb dX9_far_32 rfl (lv_at hl 2 rfl) ?_
      refine va_get (D := D) (ci := 9) (v := .ref g) (C := RX9) (T := TX9) (N := 11) hx hb hts inwX9_far_X9 hown hK hP 0 rfl rfl 1 (by decide) (hts (.fieldLink RX9 19 "HedgeWays" "grid" "LHedgeWays$Grid;") (List.mem_of_getElem? (i := 1) rfl)) (fun _ h9 => h9) rfl dX9_far_33 ?_
      refine lv_iload_n hx hb dX9_far_36 rfl (lv_at hl 1 rfl) ?_
      refine lv_iload hx hb dX9_far_37 (lv_at hl 0 rfl) ?_
      obtain ⟨r_1, q3, hf⟩ := qcall1 hf
      refine ctV_i0 (r := r_1) (wc := [oX1 g g_rows g_columns g_a g_b g_cells g_right g_down]) (As := [.int (fX1_placeOf g_rows g_columns p1), .int (fX1_placeOf g_rows g_columns p2)]) (rest := []) (q0 := 1) X hK hP hD hS [1] rfl rfl rfl (KX1_distance q3 _) (cwV 2 hts gX9_far_X1_distance rfl rfl rfl hdX1_distance ⟨Nat.le_of_ble_eq_true rfl, Nat.le_of_ble_eq_true rfl⟩) rfl rfl rfl hl rfl (Nat.le_of_ble_eq_true rfl) dX9_far_39 (Nat.zero_le _) (Nat.zero_le _) (fun H locs hP hS => ?_)
      cases qob_ret hf
      exact ct_iret X hQ hK hP hD hS rfl dX9_far_42
    · have hf := qob_t hf c2
      refine lv_iconst (v := (-1)) hx hb dX9_far_30 (by decide) ?_
      cases qob_ret hf
      exact ct_iret X hQ hK hP hD hS rfl dX9_far_31
theorem inwX9_ways_X9 : ∀ w ∈ wsX90, w ∈ wsX9_ways := fun _ h => List.mem_cons_of_mem _ (List.mem_append_left _ (List.mem_append_left _ (List.mem_append_right _ h)))
abbrev rmX9_ways : Room := { frames := 5, cells := 0, slots := 0, locals := 124 }
theorem hdX9_ways : yX9_ways.cls = RX9 ∧ yX9_ways.cls ≠ "java/lang/invoke/MethodHandle" ∧ yX9_ways.cls ≠ "java/lang/invoke/VarHandle" ∧ (parseMethodDescriptor yX9_ways.desc).map (fun d => d.parameters.length) = some 2 := by decide +kernel
set_option maxHeartbeats 4000000 in
set_option maxRecDepth 100000 in
theorem KX9_ways {l : Launch} {D : va_G} {cy : Nat → ClassId} {hw sc g tn sl mk sv ro wk su ch hu q_ro_within q_ro_counts : Nat} {g_rows : Int32} {g_columns : Int32} {g_a : Int32} {g_b : Int32} {g_cells : Int64} {g_right : Int64} {g_down : Int64} {ro_within : Nat → Int64} {ro_counts : Nat → Int64} {p1 : Int32} {p2 : Int32} {r : Int64} {ro_counts' : Nat → Int64} (hf : fX9_ways g_rows g_columns g_cells g_right g_down ro_counts p1 p2 = some (r, ro_counts')) : CtL l yX9_ways wsX9_ways rmX9_ways D cy [.ref hw, .int p1, .int p2] ([oX9 hw sc g tn sl mk sv ro wk su ch hu, oX1 g g_rows g_columns g_a g_b g_cells g_right g_down, oX4 ro g q_ro_within q_ro_counts, aJ cy q_ro_within 36 ro_within, aJ cy q_ro_counts 48 ro_counts]) ([oX9 hw sc g tn sl mk sv ro wk su ch hu, oX1 g g_rows g_columns g_a g_b g_cells g_right g_down, oX4 ro g q_ro_within q_ro_counts, aJ cy q_ro_within 36 ro_within, aJ cy q_ro_counts 48 ro_counts']) r := by
  refine CtL.of (cc := cX9_ways) (maxL := 5) (ret := some .long) (own := RX9) (by decide) rfl rfl (Nat.le_of_ble_eq_true rfl) ?_
  intro p e s m args below meth c A Q X hQ hK hP hD hS ls hl
  obtain ⟨hx, hb, hml, hown, hts, hr, hlocks, hA, hZ⟩ := id X
  have hl : lv_has ls 5 [(0, .ref hw), (1, .int p1), (2, .int p2)] := hl
  unfold fX9_ways at hf
  have hf := qob_top hf
  refine lv_aload_n hx hb dX9_ways_0 rfl (lv_at hl 0 rfl) ?_
  refine va_get (D := D) (ci := 9) (v := .ref g) (C := RX9) (T := TX9) (N := 11) hx hb hts inwX9_ways_X9 hown hK hP 0 rfl rfl 1 (by decide) (hts (.fieldLink RX9 19 "HedgeWays" "grid" "LHedgeWays$Grid;") (List.mem_of_getElem? (i := 1) rfl)) (fun _ h9 => h9) rfl dX9_ways_1 ?_
  refine lv_iload_n hx hb dX9_ways_4 rfl (lv_at hl 1 rfl) ?_
  refine ctV_i0 (r := (fX1_placeOf g_rows g_columns p1)) (wc := [oX1 g g_rows g_columns g_a g_b g_cells g_right g_down]) (As := [.int p1]) (rest := []) (q0 := 1) X hK hP hD hS [1] rfl rfl rfl (KX1_placeOf rfl _) (cwV 1 hts gX9_ways_X1_placeOf rfl rfl rfl hdX1_placeOf ⟨Nat.le_of_ble_eq_true rfl, Nat.le_of_ble_eq_true rfl⟩) rfl rfl rfl hl rfl (Nat.le_of_ble_eq_true rfl) dX9_ways_5 (Nat.zero_le _) (Nat.zero_le _) (fun H locs hP hS => ?_)
  refine lv_istore_n (lv' := [(3, .int (fX1_placeOf g_rows g_columns p1)), (0, .ref hw), (1, .int p1), (2, .int p2)]) hx hb dX9_ways_8 rfl hl (by decide) rfl (fun ls hl => ?_)
  refine lv_aload_n hx hb dX9_ways_9 rfl (lv_at hl 1 rfl) ?_
  refine va_get (D := D) (ci := 9) (v := .ref g) (C := RX9) (T := TX9) (N := 11) hx hb hts inwX9_ways_X9 hown hK hP 0 rfl rfl 1 (by decide) (hts (.fieldLink RX9 19 "HedgeWays" "grid" "LHedgeWays$Grid;") (List.mem_of_getElem? (i := 1) rfl)) (fun _ h9 => h9) rfl dX9_ways_10 ?_
  refine lv_iload_n hx hb dX9_ways_13 rfl (lv_at hl 3 rfl) ?_
  refine ctV_i0 (r := (fX1_placeOf g_rows g_columns p2)) (wc := [oX1 g g_rows g_columns g_a g_b g_cells g_right g_down]) (As := [.int p2]) (rest := []) (q0 := 1) X hK hP hD hS [1] rfl rfl rfl (KX1_placeOf rfl _) (cwV 1 hts gX9_ways_X1_placeOf rfl rfl rfl hdX1_placeOf ⟨Nat.le_of_ble_eq_true rfl, Nat.le_of_ble_eq_true rfl⟩) rfl rfl rfl hl rfl (Nat.le_of_ble_eq_true rfl) dX9_ways_14 (Nat.zero_le _) (Nat.zero_le _) (fun H locs hP hS => ?_)
  refine lv_istore (lv' := [(4, .int (fX1_placeOf g_rows g_columns p2)), (3, .int (fX1_placeOf g_rows g_columns p1)), (0, .ref hw), (1, .int p1), (2, .int p2)]) hx hb dX9_ways_17 hl (by decide) rfl (fun ls hl => ?_)
  refine lv_iload_n hx hb dX9_ways_19 rfl (lv_at hl 1 rfl) ?_
  refine lv_iconst (v := (-1)) hx hb dX9_ways_20 (by decide) ?_
  refine lv_icmp_eq (tgt := 30) hx hb dX9_ways_21 (by decide) (fun c1 => ?_) (fun c1 => ?_)
  · have hf := qob_t hf c1
    refine lv_ldc2 hx hb hown (hts (.constantLong RX9 191 (-1)) (List.mem_of_getElem? (i := 2) rfl)) dX9_ways_30 ?_
    cases qob_ret hf
    exact ct_lret X hQ hK hP hD hS rfl dX9_ways_33
  · have hf := qob_f hf c1
    refine lv_iload hx hb dX9_ways_24 (lv_at hl 0 rfl) ?_
    refine lv_iconst (v := (-1)) hx hb dX9_ways_26 (by decide) ?_
    refine lv_icmp_ne (tgt := 34) hx hb dX9_ways_27 (by decide) (fun c2 => ?_) (fun c2 => ?_)
    · have hf := qob_f hf c2
      refine lv_aload_n hx hb dX9_ways_34 rfl (lv_at hl 2 rfl) ?_
      refine va_get (D := D) (ci := 9) (v := .ref ro) (C := RX9) (T := TX9) (N := 11) hx hb hts inwX9_ways_X9 hown hK hP 0 rfl rfl 6 (by decide) (hts (.fieldLink RX9 49 "HedgeWays" "routes" "LHedgeWays$Routes;") (List.mem_of_getElem? (i := 3) rfl)) (fun _ h9 => h9) rfl dX9_ways_35 ?_
      refine lv_iload_n hx hb dX9_ways_38 rfl (lv_at hl 1 rfl) ?_
      refine lv_iload hx hb dX9_ways_39 (lv_at hl 0 rfl) ?_
      obtain ⟨r_1, ro_counts_1, q3, hf⟩ := qcall2 hf
      refine ctV_l (r := r_1) (wc := [oX4 ro g q_ro_within q_ro_counts, aJ cy q_ro_within 36 ro_within, aJ cy q_ro_counts 48 ro_counts, oX1 g g_rows g_columns g_a g_b g_cells g_right g_down]) (w1 := [oX4 ro g q_ro_within q_ro_counts, aJ cy q_ro_within 36 ro_within, aJ cy q_ro_counts 48 ro_counts_1, oX1 g g_rows g_columns g_a g_b g_cells g_right g_down]) (wr := [oX9 hw sc g tn sl mk sv ro wk su ch hu]) (wn := [oX9 hw sc g tn sl mk sv ro wk su ch hu, oX1 g g_rows g_columns g_a g_b g_cells g_right g_down, oX4 ro g q_ro_within q_ro_counts, aJ cy q_ro_within 36 ro_within, aJ cy q_ro_counts 48 ro_counts_1]) (As := [.int (fX1_placeOf g_rows g_columns p1), .int (fX1_placeOf g_rows g_columns p2)]) (rest := []) (q0 := 2) X hK hP hD hS [2, 3, 4, 1] [0] [0, 4, 1, 2, 3] rfl rfl rfl rfl rfl (by decide) rfl rfl rfl (KX4_shortestWays q3 _) (cwV 2 hts gX9_ways_X4_shortestWays rfl rfl rfl hdX4_shortestWays ⟨Nat.le_of_ble_eq_true rfl, Nat.le_of_ble_eq_true rfl⟩) rfl rfl rfl hl rfl (Nat.le_of_ble_eq_true rfl) dX9_ways_41 (Nat.zero_le _) (Nat.zero_le _) (fun H locs hP hD hS => ?_)
      cases qob_ret hf
      exact ct_lret X hQ hK hP hD hS rfl dX9_ways_44
    · have hf := qob_t hf c2
      refine lv_ldc2 hx hb hown (hts (.constantLong RX9 191 (-1)) (List.mem_of_getElem? (i := 2) rfl)) dX9_ways_30 ?_
      cases qob_ret hf
      exact ct_lret X hQ hK hP hD hS rfl dX9_ways_33
theorem inwX9_step_X9 : ∀ w ∈ wsX90, w ∈ wsX9_step := fun _ h => List.mem_cons_of_mem _ (List.mem_append_left _ (List.mem_append_left _ (List.mem_append_right _ h)))
abbrev rmX9_step : Room := { frames := 5, cells := 0, slots := 0, locals := 117 }
theorem hdX9_step : yX9_step.cls = RX9 ∧ yX9_step.cls ≠ "java/lang/invoke/MethodHandle" ∧ yX9_step.cls ≠ "java/lang/invoke/VarHandle" ∧ (parseMethodDescriptor yX9_step.desc).map (fun d => d.parameters.length) = some 3 := by decide +kernel
set_option maxHeartbeats 4000000 in
set_option maxRecDepth 100000 in
theorem KX9_step {l : Launch} {D : va_G} {cy : Nat → ClassId} {hw sc g tn sl mk sv ro wk su ch hu q_ro_within q_ro_counts : Nat} {g_rows : Int32} {g_columns : Int32} {g_a : Int32} {g_b : Int32} {g_cells : Int64} {g_right : Int64} {g_down : Int64} {ro_within : Nat → Int64} {ro_counts : Nat → Int64} {p1 : Int32} {p2 : Int32} {p3 : Int32} {r : Int32} {ro_within' : Nat → Int64} (hf : fX9_step g_rows g_columns g_cells g_right g_down ro_within p1 p2 p3 = some (r, ro_within')) : CtI l yX9_step wsX9_step rmX9_step D cy [.ref hw, .int p1, .int p2, .int p3] ([oX9 hw sc g tn sl mk sv ro wk su ch hu, oX1 g g_rows g_columns g_a g_b g_cells g_right g_down, oX4 ro g q_ro_within q_ro_counts, aJ cy q_ro_within 36 ro_within, aJ cy q_ro_counts 48 ro_counts]) ([oX9 hw sc g tn sl mk sv ro wk su ch hu, oX1 g g_rows g_columns g_a g_b g_cells g_right g_down, oX4 ro g q_ro_within q_ro_counts, aJ cy q_ro_within 36 ro_within', aJ cy q_ro_counts 48 ro_counts]) r := by
  refine CtI.of (cc := cX9_step) (maxL := 7) (ret := some .int) (own := RX9) (by decide) rfl rfl (Nat.le_of_ble_eq_true rfl) ?_
  intro p e s m args below meth c A Q X hQ hK hP hD hS ls hl
  obtain ⟨hx, hb, hml, hown, hts, hr, hlocks, hA, hZ⟩ := id X
  have hl : lv_has ls 7 [(0, .ref hw), (1, .int p1), (2, .int p2), (3, .int p3)] := hl
  unfold fX9_step at hf
  have hf := qob_top hf
  refine lv_aload_n hx hb dX9_step_0 rfl (lv_at hl 0 rfl) ?_
  refine va_get (D := D) (ci := 9) (v := .ref g) (C := RX9) (T := TX9) (N := 11) hx hb hts inwX9_step_X9 hown hK hP 0 rfl rfl 1 (by decide) (hts (.fieldLink RX9 19 "HedgeWays" "grid" "LHedgeWays$Grid;") (List.mem_of_getElem? (i := 1) rfl)) (fun _ h9 => h9) rfl dX9_step_1 ?_
  refine lv_iload_n hx hb dX9_step_4 rfl (lv_at hl 1 rfl) ?_
  refine ctV_i0 (r := (fX1_placeOf g_rows g_columns p1)) (wc := [oX1 g g_rows g_columns g_a g_b g_cells g_right g_down]) (As := [.int p1]) (rest := []) (q0 := 1) X hK hP hD hS [1] rfl rfl rfl (KX1_placeOf rfl _) (cwV 1 hts gX9_step_X1_placeOf rfl rfl rfl hdX1_placeOf ⟨Nat.le_of_ble_eq_true rfl, Nat.le_of_ble_eq_true rfl⟩) rfl rfl rfl hl rfl (Nat.le_of_ble_eq_true rfl) dX9_step_5 (Nat.zero_le _) (Nat.zero_le _) (fun H locs hP hS => ?_)
  refine lv_istore (lv' := [(4, .int (fX1_placeOf g_rows g_columns p1)), (0, .ref hw), (1, .int p1), (2, .int p2), (3, .int p3)]) hx hb dX9_step_8 hl (by decide) rfl (fun ls hl => ?_)
  refine lv_aload_n hx hb dX9_step_10 rfl (lv_at hl 1 rfl) ?_
  refine va_get (D := D) (ci := 9) (v := .ref g) (C := RX9) (T := TX9) (N := 11) hx hb hts inwX9_step_X9 hown hK hP 0 rfl rfl 1 (by decide) (hts (.fieldLink RX9 19 "HedgeWays" "grid" "LHedgeWays$Grid;") (List.mem_of_getElem? (i := 1) rfl)) (fun _ h9 => h9) rfl dX9_step_11 ?_
  refine lv_iload_n hx hb dX9_step_14 rfl (lv_at hl 3 rfl) ?_
  refine ctV_i0 (r := (fX1_placeOf g_rows g_columns p2)) (wc := [oX1 g g_rows g_columns g_a g_b g_cells g_right g_down]) (As := [.int p2]) (rest := []) (q0 := 1) X hK hP hD hS [1] rfl rfl rfl (KX1_placeOf rfl _) (cwV 1 hts gX9_step_X1_placeOf rfl rfl rfl hdX1_placeOf ⟨Nat.le_of_ble_eq_true rfl, Nat.le_of_ble_eq_true rfl⟩) rfl rfl rfl hl rfl (Nat.le_of_ble_eq_true rfl) dX9_step_15 (Nat.zero_le _) (Nat.zero_le _) (fun H locs hP hS => ?_)
  refine lv_istore (lv' := [(5, .int (fX1_placeOf g_rows g_columns p2)), (4, .int (fX1_placeOf g_rows g_columns p1)), (0, .ref hw), (1, .int p1), (2, .int p2), (3, .int p3)]) hx hb dX9_step_18 hl (by decide) rfl (fun ls hl => ?_)
  refine lv_iload hx hb dX9_step_20 (lv_at hl 1 rfl) ?_
  refine lv_iconst (v := (-1)) hx hb dX9_step_22 (by decide) ?_
  refine lv_icmp_eq (tgt := 32) hx hb dX9_step_23 (by decide) (fun c1 => ?_) (fun c1 => ?_)
  · have hf := qob_t hf c1
    refine lv_iconst (v := (-1)) hx hb dX9_step_32 (by decide) ?_
    cases qob_ret hf
    exact ct_iret X hQ hK hP hD hS rfl dX9_step_33
  · have hf := qob_f hf c1
    refine lv_iload hx hb dX9_step_26 (lv_at hl 0 rfl) ?_
    refine lv_iconst (v := (-1)) hx hb dX9_step_28 (by decide) ?_
    refine lv_icmp_ne (tgt := 34) hx hb dX9_step_29 (by decide) (fun c2 => ?_) (fun c2 => ?_)
    · have hf := qob_f hf c2
      refine lv_aload_n hx hb dX9_step_34 rfl (lv_at hl 2 rfl) ?_
      refine va_get (D := D) (ci := 9) (v := .ref ro) (C := RX9) (T := TX9) (N := 11) hx hb hts inwX9_step_X9 hown hK hP 0 rfl rfl 6 (by decide) (hts (.fieldLink RX9 49 "HedgeWays" "routes" "LHedgeWays$Routes;") (List.mem_of_getElem? (i := 2) rfl)) (fun _ h9 => h9) rfl dX9_step_35 ?_
      refine lv_iload hx hb dX9_step_38 (lv_at hl 1 rfl) ?_
      refine lv_iload hx hb dX9_step_40 (lv_at hl 0 rfl) ?_
      refine lv_iload_n hx hb dX9_step_42 rfl (lv_at hl 5 rfl) ?_
      obtain ⟨r_1, ro_within_1, q3, hf⟩ := qcall2 hf
      refine ctV_i (r := r_1) (wc := [oX4 ro g q_ro_within q_ro_counts, aJ cy q_ro_within 36 ro_within, aJ cy q_ro_counts 48 ro_counts, oX1 g g_rows g_columns g_a g_b g_cells g_right g_down]) (w1 := [oX4 ro g q_ro_within q_ro_counts, aJ cy q_ro_within 36 ro_within_1, aJ cy q_ro_counts 48 ro_counts, oX1 g g_rows g_columns g_a g_b g_cells g_right g_down]) (wr := [oX9 hw sc g tn sl mk sv ro wk su ch hu]) (wn := [oX9 hw sc g tn sl mk sv ro wk su ch hu, oX1 g g_rows g_columns g_a g_b g_cells g_right g_down, oX4 ro g q_ro_within q_ro_counts, aJ cy q_ro_within 36 ro_within_1, aJ cy q_ro_counts 48 ro_counts]) (As := [.int (fX1_placeOf g_rows g_columns p1), .int (fX1_placeOf g_rows g_columns p2), .int p3]) (rest := []) (q0 := 2) X hK hP hD hS [2, 3, 4, 1] [0] [0, 4, 1, 2, 3] rfl rfl rfl rfl rfl (by decide) rfl rfl rfl (KX4_placeOnFirst q3 _) (cwV 3 hts gX9_step_X4_placeOnFirst rfl rfl rfl hdX4_placeOnFirst ⟨Nat.le_of_ble_eq_true rfl, Nat.le_of_ble_eq_true rfl⟩) rfl rfl rfl hl rfl (Nat.le_of_ble_eq_true rfl) dX9_step_43 (Nat.zero_le _) (Nat.zero_le _) (fun H locs hP hD hS => ?_)
      refine lv_istore (lv' := [(6, .int r_1), (5, .int (fX1_placeOf g_rows g_columns p2)), (4, .int (fX1_placeOf g_rows g_columns p1)), (0, .ref hw), (1, .int p1), (2, .int p2), (3, .int p3)]) hx hb dX9_step_46 hl (by decide) rfl (fun ls hl => ?_)
      refine lv_iload hx hb dX9_step_48 (lv_at hl 0 rfl) ?_
      refine lv_iconst (v := (-1)) hx hb dX9_step_50 (by decide) ?_
      refine lv_icmp_ne (tgt := 59) hx hb dX9_step_51 (by decide) (fun c4 => ?_) (fun c4 => ?_)
      · have hf := qob_f hf c4
        refine lv_iload hx hb dX9_step_59 (lv_at hl 0 rfl) ?_
        refine ctS_i0 (r := (fX1_told r_1)) (wc := []) (As := [.int r_1]) (rest := []) X hK hP hD hS [] rfl rfl rfl (KX1_told rfl _) (va_cwS 1 hts gX9_step_X1_told rfl rfl rfl hdX1_told ⟨Nat.le_of_ble_eq_true rfl, Nat.le_of_ble_eq_true rfl⟩) rfl hl rfl (Nat.le_of_ble_eq_true rfl) dX9_step_61 (Nat.zero_le _) (Nat.zero_le _) (fun H locs hP hS => ?_)
        cases qob_ret hf
        exact ct_iret X hQ hK hP hD hS rfl dX9_step_64
      · have hf := qob_t hf c4
        refine lv_bipush (v := (-9)) hx hb dX9_step_54 (by decide) ?_
        refine lv_goto (tgt := 64) hx hb dX9_step_56 (by decide) ?_
        cases qob_ret hf
        exact ct_iret X hQ hK hP hD hS rfl dX9_step_64
    · have hf := qob_t hf c2
      refine lv_iconst (v := (-1)) hx hb dX9_step_32 (by decide) ?_
      cases qob_ret hf
      exact ct_iret X hQ hK hP hD hS rfl dX9_step_33
theorem inwX9_widest_X9 : ∀ w ∈ wsX90, w ∈ wsX9_widest := fun _ h => List.mem_cons_of_mem _ (List.mem_append_left _ (List.mem_append_left _ (List.mem_append_right _ h)))
abbrev rmX9_widest : Room := { frames := 3, cells := 0, slots := 0, locals := 72 }
theorem hdX9_widest : yX9_widest.cls = RX9 ∧ yX9_widest.cls ≠ "java/lang/invoke/MethodHandle" ∧ yX9_widest.cls ≠ "java/lang/invoke/VarHandle" ∧ (parseMethodDescriptor yX9_widest.desc).map (fun d => d.parameters.length) = some 1 := by decide +kernel
set_option maxHeartbeats 4000000 in
set_option maxRecDepth 100000 in
theorem KX9_widest {l : Launch} {D : va_G} {cy : Nat → ClassId} {hw sc g tn sl mk sv ro wk su ch hu q_ro_within q_ro_counts : Nat} {g_rows : Int32} {g_columns : Int32} {g_a : Int32} {g_b : Int32} {g_cells : Int64} {g_right : Int64} {g_down : Int64} {ro_within : Nat → Int64} {ro_counts : Nat → Int64} {p1 : Int32} {r : Int32} (hf : fX9_widest g_rows g_columns g_cells g_right g_down p1 = some r) : CtI l yX9_widest wsX9_widest rmX9_widest D cy [.ref hw, .int p1] ([oX9 hw sc g tn sl mk sv ro wk su ch hu, oX1 g g_rows g_columns g_a g_b g_cells g_right g_down, oX4 ro g q_ro_within q_ro_counts, aJ cy q_ro_within 36 ro_within, aJ cy q_ro_counts 48 ro_counts]) ([oX9 hw sc g tn sl mk sv ro wk su ch hu, oX1 g g_rows g_columns g_a g_b g_cells g_right g_down, oX4 ro g q_ro_within q_ro_counts, aJ cy q_ro_within 36 ro_within, aJ cy q_ro_counts 48 ro_counts]) r := by
  refine CtI.of (cc := cX9_widest) (maxL := 3) (ret := some .int) (own := RX9) (by decide) rfl rfl (Nat.le_of_ble_eq_true rfl) ?_
  intro p e s m args below meth c A Q X hQ hK hP hD hS ls hl
  obtain ⟨hx, hb, hml, hown, hts, hr, hlocks, hA, hZ⟩ := id X
  have hl : lv_has ls 3 [(0, .ref hw), (1, .int p1)] := hl
  unfold fX9_widest at hf
  have hf := qob_top hf
  refine lv_aload_n hx hb dX9_widest_0 rfl (lv_at hl 0 rfl) ?_
  refine va_get (D := D) (ci := 9) (v := .ref g) (C := RX9) (T := TX9) (N := 11) hx hb hts inwX9_widest_X9 hown hK hP 0 rfl rfl 1 (by decide) (hts (.fieldLink RX9 19 "HedgeWays" "grid" "LHedgeWays$Grid;") (List.mem_of_getElem? (i := 1) rfl)) (fun _ h9 => h9) rfl dX9_widest_1 ?_
  refine lv_iload_n hx hb dX9_widest_4 rfl (lv_at hl 1 rfl) ?_
  refine ctV_i0 (r := (fX1_placeOf g_rows g_columns p1)) (wc := [oX1 g g_rows g_columns g_a g_b g_cells g_right g_down]) (As := [.int p1]) (rest := []) (q0 := 1) X hK hP hD hS [1] rfl rfl rfl (KX1_placeOf rfl _) (cwV 1 hts gX9_widest_X1_placeOf rfl rfl rfl hdX1_placeOf ⟨Nat.le_of_ble_eq_true rfl, Nat.le_of_ble_eq_true rfl⟩) rfl rfl rfl hl rfl (Nat.le_of_ble_eq_true rfl) dX9_widest_5 (Nat.zero_le _) (Nat.zero_le _) (fun H locs hP hS => ?_)
  refine lv_istore_n (lv' := [(2, .int (fX1_placeOf g_rows g_columns p1)), (0, .ref hw), (1, .int p1)]) hx hb dX9_widest_8 rfl hl (by decide) rfl (fun ls hl => ?_)
  refine lv_iload_n hx hb dX9_widest_9 rfl (lv_at hl 0 rfl) ?_
  refine lv_iconst (v := (-1)) hx hb dX9_widest_10 (by decide) ?_
  refine lv_icmp_ne (tgt := 16) hx hb dX9_widest_11 (by decide) (fun c1 => ?_) (fun c1 => ?_)
  · have hf := qob_f hf c1
    refine lv_aload_n hx hb dX9_widest_16 rfl (lv_at hl 1 rfl) ?_
    refine va_get (D := D) (ci := 9) (v := .ref ro) (C := RX9) (T := TX9) (N := 11) hx hb hts inwX9_widest_X9 hown hK hP 0 rfl rfl 6 (by decide) (hts (.fieldLink RX9 49 "HedgeWays" "routes" "LHedgeWays$Routes;") (List.mem_of_getElem? (i := 2) rfl)) (fun _ h9 => h9) rfl dX9_widest_17 ?_
    refine lv_aload_n hx hb dX9_widest_20 rfl (lv_at hl 1 rfl) ?_
    refine va_get (D := D) (ci := 9) (v := .ref g) (C := RX9) (T := TX9) (N := 11) hx hb hts inwX9_widest_X9 hown hK hP 0 rfl rfl 1 (by decide) (hts (.fieldLink RX9 19 "HedgeWays" "grid" "LHedgeWays$Grid;") (List.mem_of_getElem? (i := 1) rfl)) (fun _ h9 => h9) rfl dX9_widest_21 ?_
    refine lv_iload_n hx hb dX9_widest_24 rfl (lv_at hl 0 rfl) ?_
    obtain ⟨r_1, q2, hf⟩ := qcall1 hf
    refine ctV_l0 (r := r_1) (wc := [oX1 g g_rows g_columns g_a g_b g_cells g_right g_down]) (As := [.int (fX1_placeOf g_rows g_columns p1)]) (rest := [.ref ro]) (q0 := 1) X hK hP hD hS [1] rfl rfl rfl (KX1_partOf q2 _) (cwV 1 hts gX9_widest_X1_partOf rfl rfl rfl hdX1_partOf ⟨Nat.le_of_ble_eq_true rfl, Nat.le_of_ble_eq_true rfl⟩) rfl rfl rfl hl rfl (Nat.le_of_ble_eq_true rfl) dX9_widest_25 (Nat.zero_le _) (Nat.zero_le _) (fun H locs hP hS => ?_)
    obtain ⟨r_2, q3, hf⟩ := qcall1 hf
    refine ctV_i0 (r := r_2) (wc := [oX4 ro g q_ro_within q_ro_counts, aJ cy q_ro_within 36 ro_within, aJ cy q_ro_counts 48 ro_counts, oX1 g g_rows g_columns g_a g_b g_cells g_right g_down]) (As := [.long r_1]) (rest := []) (q0 := 2) X hK hP hD hS [2, 3, 4, 1] rfl rfl rfl (KX4_greatestDistance q3 _) (cwV 1 hts gX9_widest_X4_greatestDistance rfl rfl rfl hdX4_greatestDistance ⟨Nat.le_of_ble_eq_true rfl, Nat.le_of_ble_eq_true rfl⟩) rfl rfl rfl hl rfl (Nat.le_of_ble_eq_true rfl) dX9_widest_28 (Nat.zero_le _) (Nat.zero_le _) (fun H locs hP hS => ?_)
    cases qob_ret hf
    exact ct_iret X hQ hK hP hD hS rfl dX9_widest_31
  · have hf := qob_t hf c1
    refine lv_iconst (v := (-1)) hx hb dX9_widest_14 (by decide) ?_
    cases qob_ret hf
    exact ct_iret X hQ hK hP hD hS rfl dX9_widest_15
theorem inwX9_hand_X9 : ∀ w ∈ wsX90, w ∈ wsX9_hand := fun _ h => List.mem_cons_of_mem _ (List.mem_append_left _ (List.mem_append_left _ (List.mem_append_right _ h)))
abbrev rmX9_hand : Room := { frames := 5, cells := 0, slots := 0, locals := 113 }
theorem hdX9_hand : yX9_hand.cls = RX9 ∧ yX9_hand.cls ≠ "java/lang/invoke/MethodHandle" ∧ yX9_hand.cls ≠ "java/lang/invoke/VarHandle" ∧ (parseMethodDescriptor yX9_hand.desc).map (fun d => d.parameters.length) = some 2 := by decide +kernel
set_option maxHeartbeats 4000000 in
set_option maxRecDepth 100000 in
theorem KX9_hand {l : Launch} {D : va_G} {cy : Nat → ClassId} {hw sc g tn sl mk sv ro wk su ch hu q_wk_cameFrom : Nat} {g_rows : Int32} {g_columns : Int32} {g_a : Int32} {g_b : Int32} {g_cells : Int64} {g_right : Int64} {g_down : Int64} {wk_place : Int32} {wk_look : Int32} {wk_hand : Int32} {wk_visited : Int64} {wk_cameFrom : Nat → Int32} {p1 : Int32} {p2 : Int32} {r : Int32} {wk_place' : Int32} {wk_look' : Int32} {wk_hand' : Int32} (hf : fX9_hand g_a g_b g_cells g_right g_down wk_place wk_look wk_hand p1 p2 = some (r, wk_place', wk_look', wk_hand')) : CtI l yX9_hand wsX9_hand rmX9_hand D cy [.ref hw, .int p1, .int p2] ([oX9 hw sc g tn sl mk sv ro wk su ch hu, oX1 g g_rows g_columns g_a g_b g_cells g_right g_down, oX8 wk g q_wk_cameFrom wk_place wk_look wk_hand wk_visited, aI cy q_wk_cameFrom 48 wk_cameFrom]) ([oX9 hw sc g tn sl mk sv ro wk su ch hu, oX1 g g_rows g_columns g_a g_b g_cells g_right g_down, oX8 wk g q_wk_cameFrom wk_place' wk_look' wk_hand' wk_visited, aI cy q_wk_cameFrom 48 wk_cameFrom]) r := by
  refine CtI.of (cc := cX9_hand) (maxL := 3) (ret := some .int) (own := RX9) (by decide) rfl rfl (Nat.le_of_ble_eq_true rfl) ?_
  intro p e s m args below meth c A Q X hQ hK hP hD hS ls hl
  obtain ⟨hx, hb, hml, hown, hts, hr, hlocks, hA, hZ⟩ := id X
  have hl : lv_has ls 3 [(0, .ref hw), (1, .int p1), (2, .int p2)] := hl
  unfold fX9_hand at hf
  have hf := qob_top hf
  refine lv_iload_n hx hb dX9_hand_0 rfl (lv_at hl 1 rfl) ?_
  refine ctS_i0 (r := (fX9_isSide p1)) (wc := []) (As := [.int p1]) (rest := []) X hK hP hD hS [] rfl rfl rfl (KX9_isSide rfl _) (va_cwS 1 hts gX9_hand_X9_isSide rfl rfl rfl hdX9_isSide ⟨Nat.le_of_ble_eq_true rfl, Nat.le_of_ble_eq_true rfl⟩) rfl hl rfl (Nat.le_of_ble_eq_true rfl) dX9_hand_1 (Nat.zero_le _) (Nat.zero_le _) (fun H locs hP hS => ?_)
  refine lv_if_ne (tgt := 9) hx hb dX9_hand_4 (by decide) (fun c1 => ?_) (fun c1 => ?_)
  · have hf := qob_f hf c1
    refine lv_aload_n hx hb dX9_hand_9 rfl (lv_at hl 0 rfl) ?_
    refine va_get (D := D) (ci := 9) (v := .ref wk) (C := RX9) (T := TX9) (N := 11) hx hb hts inwX9_hand_X9 hown hK hP 0 rfl rfl 7 (by decide) (hts (.fieldLink RX9 56 "HedgeWays" "walker" "LHedgeWays$Walker;") (List.mem_of_getElem? (i := 1) rfl)) (fun _ h9 => h9) rfl dX9_hand_10 ?_
    refine lv_iload_n hx hb dX9_hand_13 rfl (lv_at hl 1 rfl) ?_
    refine lv_iload_n hx hb dX9_hand_14 rfl (lv_at hl 2 rfl) ?_
    obtain ⟨r_1, wk_place_1, wk_look_1, wk_hand_1, q2, hf⟩ := qcall4 hf
    refine ctV_i (r := r_1) (wc := [oX8 wk g q_wk_cameFrom wk_place wk_look wk_hand wk_visited, aI cy q_wk_cameFrom 48 wk_cameFrom, oX1 g g_rows g_columns g_a g_b g_cells g_right g_down]) (w1 := [oX8 wk g q_wk_cameFrom wk_place_1 wk_look_1 wk_hand_1 wk_visited, aI cy q_wk_cameFrom 48 wk_cameFrom, oX1 g g_rows g_columns g_a g_b g_cells g_right g_down]) (wr := [oX9 hw sc g tn sl mk sv ro wk su ch hu]) (wn := [oX9 hw sc g tn sl mk sv ro wk su ch hu, oX1 g g_rows g_columns g_a g_b g_cells g_right g_down, oX8 wk g q_wk_cameFrom wk_place_1 wk_look_1 wk_hand_1 wk_visited, aI cy q_wk_cameFrom 48 wk_cameFrom]) (As := [.int p1, .int p2]) (rest := []) (q0 := 2) X hK hP hD hS [2, 3, 1] [0] [0, 3, 1, 2] rfl rfl rfl rfl rfl (by decide) rfl rfl rfl (KX8_handSteps q2 _) (cwV 2 hts gX9_hand_X8_handSteps rfl rfl rfl hdX8_handSteps ⟨Nat.le_of_ble_eq_true rfl, Nat.le_of_ble_eq_true rfl⟩) rfl rfl rfl hl rfl (Nat.le_of_ble_eq_true rfl) dX9_hand_15 (Nat.zero_le _) (Nat.zero_le _) (fun H locs hP hD hS => ?_)
    cases qob_ret hf
    exact ct_iret X hQ hK hP hD hS rfl dX9_hand_18
  · have hf := qob_t hf c1
    refine lv_iconst (v := (-1)) hx hb dX9_hand_7 (by decide) ?_
    cases qob_ret hf
    exact ct_iret X hQ hK hP hD hS rfl dX9_hand_8
theorem inwX9_handAt_X9 : ∀ w ∈ wsX90, w ∈ wsX9_handAt := fun _ h => List.mem_cons_of_mem _ (List.mem_append_left _ (List.mem_append_left _ (List.mem_append_right _ h)))
abbrev rmX9_handAt : Room := { frames := 5, cells := 0, slots := 0, locals := 114 }
theorem hdX9_handAt : yX9_handAt.cls = RX9 ∧ yX9_handAt.cls ≠ "java/lang/invoke/MethodHandle" ∧ yX9_handAt.cls ≠ "java/lang/invoke/VarHandle" ∧ (parseMethodDescriptor yX9_handAt.desc).map (fun d => d.parameters.length) = some 3 := by decide +kernel
set_option maxHeartbeats 4000000 in
set_option maxRecDepth 100000 in
theorem KX9_handAt {l : Launch} {D : va_G} {cy : Nat → ClassId} {hw sc g tn sl mk sv ro wk su ch hu q_wk_cameFrom : Nat} {g_rows : Int32} {g_columns : Int32} {g_a : Int32} {g_b : Int32} {g_cells : Int64} {g_right : Int64} {g_down : Int64} {wk_place : Int32} {wk_look : Int32} {wk_hand : Int32} {wk_visited : Int64} {wk_cameFrom : Nat → Int32} {p1 : Int32} {p2 : Int32} {p3 : Int32} {r : Int32} {wk_place' : Int32} {wk_look' : Int32} {wk_hand' : Int32} (hf : fX9_handAt g_a g_cells g_right g_down wk_place wk_look wk_hand p1 p2 p3 = some (r, wk_place', wk_look', wk_hand')) : CtI l yX9_handAt wsX9_handAt rmX9_handAt D cy [.ref hw, .int p1, .int p2, .int p3] ([oX9 hw sc g tn sl mk sv ro wk su ch hu, oX1 g g_rows g_columns g_a g_b g_cells g_right g_down, oX8 wk g q_wk_cameFrom wk_place wk_look wk_hand wk_visited, aI cy q_wk_cameFrom 48 wk_cameFrom]) ([oX9 hw sc g tn sl mk sv ro wk su ch hu, oX1 g g_rows g_columns g_a g_b g_cells g_right g_down, oX8 wk g q_wk_cameFrom wk_place' wk_look' wk_hand' wk_visited, aI cy q_wk_cameFrom 48 wk_cameFrom]) r := by
  refine CtI.of (cc := cX9_handAt) (maxL := 4) (ret := some .int) (own := RX9) (by decide) rfl rfl (Nat.le_of_ble_eq_true rfl) ?_
  intro p e s m args below meth c A Q X hQ hK hP hD hS ls hl
  obtain ⟨hx, hb, hml, hown, hts, hr, hlocks, hA, hZ⟩ := id X
  have hl : lv_has ls 4 [(0, .ref hw), (1, .int p1), (2, .int p2), (3, .int p3)] := hl
  unfold fX9_handAt at hf
  have hf := qob_top hf
  refine lv_iload_n hx hb dX9_handAt_0 rfl (lv_at hl 1 rfl) ?_
  refine ctS_i0 (r := (fX9_isSide p1)) (wc := []) (As := [.int p1]) (rest := []) X hK hP hD hS [] rfl rfl rfl (KX9_isSide rfl _) (va_cwS 1 hts gX9_handAt_X9_isSide rfl rfl rfl hdX9_isSide ⟨Nat.le_of_ble_eq_true rfl, Nat.le_of_ble_eq_true rfl⟩) rfl hl rfl (Nat.le_of_ble_eq_true rfl) dX9_handAt_1 (Nat.zero_le _) (Nat.zero_le _) (fun H locs hP hS => ?_)
  refine lv_if_ne (tgt := 9) hx hb dX9_handAt_4 (by decide) (fun c1 => ?_) (fun c1 => ?_)
  · have hf := qob_f hf c1
    refine lv_iload_n hx hb dX9_handAt_9 rfl (lv_at hl 3 rfl) ?_
    refine lv_if_lt (tgt := 20) hx hb dX9_handAt_10 (by decide) (fun c2 => ?_) (fun c2 => ?_)
    · have hf := qob_t hf c2
      refine lv_bipush (v := (-2)) hx hb dX9_handAt_20 (by decide) ?_
      cases qob_ret hf
      exact ct_iret X hQ hK hP hD hS rfl dX9_handAt_22
    · have hf := qob_f hf c2
      refine lv_iload_n hx hb dX9_handAt_13 rfl (lv_at hl 3 rfl) ?_
      refine lv_sipush (v := 999) hx hb dX9_handAt_14 (by decide) ?_
      refine lv_icmp_le (tgt := 23) hx hb dX9_handAt_17 (by decide) (fun c3 => ?_) (fun c3 => ?_)
      · have hf := qob_t hf c3
        refine lv_aload_n hx hb dX9_handAt_23 rfl (lv_at hl 0 rfl) ?_
        refine va_get (D := D) (ci := 9) (v := .ref wk) (C := RX9) (T := TX9) (N := 11) hx hb hts inwX9_handAt_X9 hown hK hP 0 rfl rfl 7 (by decide) (hts (.fieldLink RX9 56 "HedgeWays" "walker" "LHedgeWays$Walker;") (List.mem_of_getElem? (i := 1) rfl)) (fun _ h9 => h9) rfl dX9_handAt_24 ?_
        refine lv_iload_n hx hb dX9_handAt_27 rfl (lv_at hl 1 rfl) ?_
        refine lv_iload_n hx hb dX9_handAt_28 rfl (lv_at hl 2 rfl) ?_
        refine lv_iload_n hx hb dX9_handAt_29 rfl (lv_at hl 3 rfl) ?_
        obtain ⟨r_1, wk_place_1, wk_look_1, wk_hand_1, q4, hf⟩ := qcall4 hf
        refine ctV_i (r := r_1) (wc := [oX8 wk g q_wk_cameFrom wk_place wk_look wk_hand wk_visited, aI cy q_wk_cameFrom 48 wk_cameFrom, oX1 g g_rows g_columns g_a g_b g_cells g_right g_down]) (w1 := [oX8 wk g q_wk_cameFrom wk_place_1 wk_look_1 wk_hand_1 wk_visited, aI cy q_wk_cameFrom 48 wk_cameFrom, oX1 g g_rows g_columns g_a g_b g_cells g_right g_down]) (wr := [oX9 hw sc g tn sl mk sv ro wk su ch hu]) (wn := [oX9 hw sc g tn sl mk sv ro wk su ch hu, oX1 g g_rows g_columns g_a g_b g_cells g_right g_down, oX8 wk g q_wk_cameFrom wk_place_1 wk_look_1 wk_hand_1 wk_visited, aI cy q_wk_cameFrom 48 wk_cameFrom]) (As := [.int p1, .int p2, .int p3]) (rest := []) (q0 := 2) X hK hP hD hS [2, 3, 1] [0] [0, 3, 1, 2] rfl rfl rfl rfl rfl (by decide) rfl rfl rfl (KX8_handPlace q4 _) (cwV 3 hts gX9_handAt_X8_handPlace rfl rfl rfl hdX8_handPlace ⟨Nat.le_of_ble_eq_true rfl, Nat.le_of_ble_eq_true rfl⟩) rfl rfl rfl hl rfl (Nat.le_of_ble_eq_true rfl) dX9_handAt_30 (Nat.zero_le _) (Nat.zero_le _) (fun H locs hP hD hS => ?_)
        refine ctS_i0 (r := (fX1_told r_1)) (wc := []) (As := [.int r_1]) (rest := []) X hK hP hD hS [] rfl rfl rfl (KX1_told rfl _) (va_cwS 1 hts gX9_handAt_X1_told rfl rfl rfl hdX1_told ⟨Nat.le_of_ble_eq_true rfl, Nat.le_of_ble_eq_true rfl⟩) rfl hl rfl (Nat.le_of_ble_eq_true rfl) dX9_handAt_33 (Nat.zero_le _) (Nat.zero_le _) (fun H locs hP hS => ?_)
        cases qob_ret hf
        exact ct_iret X hQ hK hP hD hS rfl dX9_handAt_36
      · have hf := qob_f hf c3
        refine lv_bipush (v := (-2)) hx hb dX9_handAt_20 (by decide) ?_
        cases qob_ret hf
        exact ct_iret X hQ hK hP hD hS rfl dX9_handAt_22
  · have hf := qob_t hf c1
    refine lv_iconst (v := (-1)) hx hb dX9_handAt_7 (by decide) ?_
    cases qob_ret hf
    exact ct_iret X hQ hK hP hD hS rfl dX9_handAt_8
theorem inwX9_thread_X9 : ∀ w ∈ wsX90, w ∈ wsX9_thread := fun _ h => List.mem_cons_of_mem _ (List.mem_append_left _ (List.mem_append_left _ (List.mem_append_right _ h)))
abbrev rmX9_thread : Room := { frames := 5, cells := 0, slots := 0, locals := 111 }
theorem hdX9_thread : yX9_thread.cls = RX9 ∧ yX9_thread.cls ≠ "java/lang/invoke/MethodHandle" ∧ yX9_thread.cls ≠ "java/lang/invoke/VarHandle" ∧ (parseMethodDescriptor yX9_thread.desc).map (fun d => d.parameters.length) = some 0 := by decide +kernel
set_option maxHeartbeats 4000000 in
set_option maxRecDepth 100000 in
theorem KX9_thread {l : Launch} {D : va_G} {cy : Nat → ClassId} {hw sc g tn sl mk sv ro wk su ch hu q_wk_cameFrom : Nat} {g_rows : Int32} {g_columns : Int32} {g_a : Int32} {g_b : Int32} {g_cells : Int64} {g_right : Int64} {g_down : Int64} {wk_place : Int32} {wk_look : Int32} {wk_hand : Int32} {wk_visited : Int64} {wk_cameFrom : Nat → Int32}  {r : Int32} {wk_place' : Int32} {wk_visited' : Int64} {wk_cameFrom' : Nat → Int32} (hf : fX9_thread g_a g_b g_cells g_right g_down wk_place wk_visited wk_cameFrom = some (r, wk_place', wk_visited', wk_cameFrom')) : CtI l yX9_thread wsX9_thread rmX9_thread D cy [.ref hw] ([oX9 hw sc g tn sl mk sv ro wk su ch hu, oX1 g g_rows g_columns g_a g_b g_cells g_right g_down, oX8 wk g q_wk_cameFrom wk_place wk_look wk_hand wk_visited, aI cy q_wk_cameFrom 48 wk_cameFrom]) ([oX9 hw sc g tn sl mk sv ro wk su ch hu, oX1 g g_rows g_columns g_a g_b g_cells g_right g_down, oX8 wk g q_wk_cameFrom wk_place' wk_look wk_hand wk_visited', aI cy q_wk_cameFrom 48 wk_cameFrom']) r := by
  refine CtI.of (cc := cX9_thread) (maxL := 1) (ret := some .int) (own := RX9) (by decide) rfl rfl (Nat.le_of_ble_eq_true rfl) ?_
  intro p e s m args below meth c A Q X hQ hK hP hD hS ls hl
  obtain ⟨hx, hb, hml, hown, hts, hr, hlocks, hA, hZ⟩ := id X
  have hl : lv_has ls 1 [(0, .ref hw)] := hl
  unfold fX9_thread at hf
  have hf := qob_top hf
  refine lv_aload_n hx hb dX9_thread_0 rfl (lv_at hl 0 rfl) ?_
  refine va_get (D := D) (ci := 9) (v := .ref wk) (C := RX9) (T := TX9) (N := 11) hx hb hts inwX9_thread_X9 hown hK hP 0 rfl rfl 7 (by decide) (hts (.fieldLink RX9 56 "HedgeWays" "walker" "LHedgeWays$Walker;") (List.mem_of_getElem? (i := 1) rfl)) (fun _ h9 => h9) rfl dX9_thread_1 ?_
  obtain ⟨r_1, wk_place_1, wk_visited_1, wk_cameFrom_1, q1, hf⟩ := qcall4 hf
  refine ctV_i (r := r_1) (wc := [oX8 wk g q_wk_cameFrom wk_place wk_look wk_hand wk_visited, aI cy q_wk_cameFrom 48 wk_cameFrom, oX1 g g_rows g_columns g_a g_b g_cells g_right g_down]) (w1 := [oX8 wk g q_wk_cameFrom wk_place_1 wk_look wk_hand wk_visited_1, aI cy q_wk_cameFrom 48 wk_cameFrom_1, oX1 g g_rows g_columns g_a g_b g_cells g_right g_down]) (wr := [oX9 hw sc g tn sl mk sv ro wk su ch hu]) (wn := [oX9 hw sc g tn sl mk sv ro wk su ch hu, oX1 g g_rows g_columns g_a g_b g_cells g_right g_down, oX8 wk g q_wk_cameFrom wk_place_1 wk_look wk_hand wk_visited_1, aI cy q_wk_cameFrom 48 wk_cameFrom_1]) (As := []) (rest := []) (q0 := 2) X hK hP hD hS [2, 3, 1] [0] [0, 3, 1, 2] rfl rfl rfl rfl rfl (by decide) rfl rfl rfl (KX8_followThread q1 _) (cwV 0 hts gX9_thread_X8_followThread rfl rfl rfl hdX8_followThread ⟨Nat.le_of_ble_eq_true rfl, Nat.le_of_ble_eq_true rfl⟩) rfl rfl rfl hl rfl (Nat.le_of_ble_eq_true rfl) dX9_thread_4 (Nat.zero_le _) (Nat.zero_le _) (fun H locs hP hD hS => ?_)
  cases qob_ret hf
  exact ct_iret X hQ hK hP hD hS rfl dX9_thread_7
theorem inwX9_seen_X8 : ∀ w ∈ wsX80, w ∈ wsX9_seen := fun _ h => List.mem_cons_of_mem _ (List.mem_append_left _ (List.mem_append_right _ h))
theorem inwX9_seen_X9 : ∀ w ∈ wsX90, w ∈ wsX9_seen := fun _ h => List.mem_cons_of_mem _ (List.mem_append_left _ (List.mem_append_left _ (List.mem_append_right _ h)))
abbrev rmX9_seen : Room := { frames := 5, cells := 0, slots := 0, locals := 111 }
theorem hdX9_seen : yX9_seen.cls = RX9 ∧ yX9_seen.cls ≠ "java/lang/invoke/MethodHandle" ∧ yX9_seen.cls ≠ "java/lang/invoke/VarHandle" ∧ (parseMethodDescriptor yX9_seen.desc).map (fun d => d.parameters.length) = some 0 := by decide +kernel
set_option maxHeartbeats 4000000 in
set_option maxRecDepth 100000 in
theorem KX9_seen {l : Launch} {D : va_G} {cy : Nat → ClassId} {hw sc g tn sl mk sv ro wk su ch hu q_wk_cameFrom : Nat} {g_rows : Int32} {g_columns : Int32} {g_a : Int32} {g_b : Int32} {g_cells : Int64} {g_right : Int64} {g_down : Int64} {wk_place : Int32} {wk_look : Int32} {wk_hand : Int32} {wk_visited : Int64} {wk_cameFrom : Nat → Int32}  {r : Int32} {wk_place' : Int32} {wk_visited' : Int64} {wk_cameFrom' : Nat → Int32} (hf : fX9_seen g_a g_b g_cells g_right g_down wk_place wk_visited wk_cameFrom = some (r, wk_place', wk_visited', wk_cameFrom')) : CtI l yX9_seen wsX9_seen rmX9_seen D cy [.ref hw] ([oX9 hw sc g tn sl mk sv ro wk su ch hu, oX1 g g_rows g_columns g_a g_b g_cells g_right g_down, oX8 wk g q_wk_cameFrom wk_place wk_look wk_hand wk_visited, aI cy q_wk_cameFrom 48 wk_cameFrom]) ([oX9 hw sc g tn sl mk sv ro wk su ch hu, oX1 g g_rows g_columns g_a g_b g_cells g_right g_down, oX8 wk g q_wk_cameFrom wk_place' wk_look wk_hand wk_visited', aI cy q_wk_cameFrom 48 wk_cameFrom']) r := by
  refine CtI.of (cc := cX9_seen) (maxL := 1) (ret := some .int) (own := RX9) (by decide) rfl rfl (Nat.le_of_ble_eq_true rfl) ?_
  intro p e s m args below meth c A Q X hQ hK hP hD hS ls hl
  obtain ⟨hx, hb, hml, hown, hts, hr, hlocks, hA, hZ⟩ := id X
  have hl : lv_has ls 1 [(0, .ref hw)] := hl
  unfold fX9_seen at hf
  have hf := qob_top hf
  refine lv_aload_n hx hb dX9_seen_0 rfl (lv_at hl 0 rfl) ?_
  refine va_get (D := D) (ci := 9) (v := .ref wk) (C := RX9) (T := TX9) (N := 11) hx hb hts inwX9_seen_X9 hown hK hP 0 rfl rfl 7 (by decide) (hts (.fieldLink RX9 56 "HedgeWays" "walker" "LHedgeWays$Walker;") (List.mem_of_getElem? (i := 1) rfl)) (fun _ h9 => h9) rfl dX9_seen_1 ?_
  obtain ⟨r_1, wk_place_1, wk_visited_1, wk_cameFrom_1, q1, hf⟩ := qcall4 hf
  refine ctV_i (r := r_1) (wc := [oX8 wk g q_wk_cameFrom wk_place wk_look wk_hand wk_visited, aI cy q_wk_cameFrom 48 wk_cameFrom, oX1 g g_rows g_columns g_a g_b g_cells g_right g_down]) (w1 := [oX8 wk g q_wk_cameFrom wk_place_1 wk_look wk_hand wk_visited_1, aI cy q_wk_cameFrom 48 wk_cameFrom_1, oX1 g g_rows g_columns g_a g_b g_cells g_right g_down]) (wr := [oX9 hw sc g tn sl mk sv ro wk su ch hu]) (wn := [oX9 hw sc g tn sl mk sv ro wk su ch hu, oX1 g g_rows g_columns g_a g_b g_cells g_right g_down, oX8 wk g q_wk_cameFrom wk_place_1 wk_look wk_hand wk_visited_1, aI cy q_wk_cameFrom 48 wk_cameFrom_1]) (As := []) (rest := []) (q0 := 2) X hK hP hD hS [2, 3, 1] [0] [0, 3, 1, 2] rfl rfl rfl rfl rfl (by decide) rfl rfl rfl (KX8_followThread q1 _) (cwV 0 hts gX9_seen_X8_followThread rfl rfl rfl hdX8_followThread ⟨Nat.le_of_ble_eq_true rfl, Nat.le_of_ble_eq_true rfl⟩) rfl rfl rfl hl rfl (Nat.le_of_ble_eq_true rfl) dX9_seen_4 (Nat.zero_le _) (Nat.zero_le _) (fun H locs hP hD hS => ?_)
  refine lv_pop hx hb dX9_seen_7 rfl ?_
  refine lv_aload_n hx hb dX9_seen_8 rfl (lv_at hl 0 rfl) ?_
  refine va_get (D := D) (ci := 9) (v := .ref wk) (C := RX9) (T := TX9) (N := 11) hx hb hts inwX9_seen_X9 hown hK hP 0 rfl rfl 7 (by decide) (hts (.fieldLink RX9 56 "HedgeWays" "walker" "LHedgeWays$Walker;") (List.mem_of_getElem? (i := 1) rfl)) (fun _ h9 => h9) rfl dX9_seen_9 ?_
  refine va_get (D := D) (ci := 8) (v := .long wk_visited_1) (C := RX8) (T := TX8) (N := 6) hx hb hts inwX9_seen_X8 hown hK hP 2 rfl rfl 5 (by decide) (hts (.fieldLink RX9 215 "HedgeWays$Walker" "visited" "J") (List.mem_of_getElem? (i := 2) rfl)) (fun _ h9 => h9) rfl dX9_seen_12 ?_
  refine ctS_i0 (r := (fJ13_bitCount_95d88 wk_visited_1)) (wc := []) (As := [.long wk_visited_1]) (rest := []) X hK hP hD hS [] rfl rfl rfl (KJ13_bitCount_95d88 rfl _) (va_cwS 1 hts gX9_seen_J13_bitCount_95d88 rfl rfl rfl hdJ13_bitCount_95d88 ⟨Nat.le_of_ble_eq_true rfl, Nat.le_of_ble_eq_true rfl⟩) rfl hl rfl (Nat.le_of_ble_eq_true rfl) dX9_seen_15 (Nat.zero_le _) (Nat.zero_le _) (fun H locs hP hS => ?_)
  cases qob_ret hf
  exact ct_iret X hQ hK hP hD hS rfl dX9_seen_18
theorem inwX9_lost_X6 : ∀ w ∈ wsX60, w ∈ wsX9_lost := fun _ h => List.mem_cons_of_mem _ (List.mem_append_left _ (List.mem_append_right _ h))
theorem inwX9_lost_X9 : ∀ w ∈ wsX90, w ∈ wsX9_lost := fun _ h => List.mem_cons_of_mem _ (List.mem_append_left _ (List.mem_append_left _ (List.mem_append_right _ h)))
abbrev rmX9_lost : Room := { frames := 4, cells := 0, slots := 0, locals := 91 }
theorem hdX9_lost : yX9_lost.cls = RX9 ∧ yX9_lost.cls ≠ "java/lang/invoke/MethodHandle" ∧ yX9_lost.cls ≠ "java/lang/invoke/VarHandle" ∧ (parseMethodDescriptor yX9_lost.desc).map (fun d => d.parameters.length) = some 3 := by decide +kernel
set_option maxHeartbeats 4000000 in
set_option maxRecDepth 100000 in
theorem KX9_lost {l : Launch} {D : va_G} {cy : Nat → ClassId} {hw sc g tn sl mk sv ro wk su ch hu q_su_order q_su_table : Nat} {su_tr : Nat → Nat} {g_rows : Int32} {g_columns : Int32} {g_a : Int32} {g_b : Int32} {g_cells : Int64} {g_right : Int64} {g_down : Int64} {su_count : Int32} {su_above : Int64} {su_below : Int64} {su_order : Nat → Int32} {su_table : Nat → Nat → Int64} {p1 : Int32} {p2 : Int32} {p3 : Int32} {r : Int64} {su_count' : Int32} {su_above' : Int64} {su_below' : Int64} {su_order' : Nat → Int32} {su_table' : Nat → Nat → Int64} (hf : fX9_lost g_rows g_columns g_cells g_right g_down su_count su_above su_below su_order su_table p1 p2 p3 = some (r, su_count', su_above', su_below', su_order', su_table')) : CtL l yX9_lost wsX9_lost rmX9_lost D cy [.ref hw, .int p1, .int p2, .int p3] ([oX9 hw sc g tn sl mk sv ro wk su ch hu, oX1 g g_rows g_columns g_a g_b g_cells g_right g_down, oX6 su g q_su_order q_su_table su_count su_above su_below, aI cy q_su_order 16 su_order, aT cy q_su_table su_tr] ++ suR cy su_tr su_table) ([oX9 hw sc g tn sl mk sv ro wk su ch hu, oX1 g g_rows g_columns g_a g_b g_cells g_right g_down, oX6 su g q_su_order q_su_table su_count' su_above' su_below', aI cy q_su_order 16 su_order', aT cy q_su_table su_tr] ++ suR cy su_tr su_table') r := by
  refine CtL.of (cc := cX9_lost) (maxL := 8) (ret := some .long) (own := RX9) (by decide) rfl rfl (Nat.le_of_ble_eq_true rfl) ?_
  intro p e s m args below meth c A Q X hQ hK hP hD hS ls hl
  obtain ⟨hx, hb, hml, hown, hts, hr, hlocks, hA, hZ⟩ := id X
  have hl : lv_has ls 8 [(0, .ref hw), (1, .int p1), (2, .int p2), (3, .int p3)] := hl
  unfold fX9_lost at hf
  have hf := qob_top hf
  refine lv_aload_n hx hb dX9_lost_0 rfl (lv_at hl 0 rfl) ?_
  refine va_get (D := D) (ci := 9) (v := .ref g) (C := RX9) (T := TX9) (N := 11) hx hb hts inwX9_lost_X9 hown hK hP 0 rfl rfl 1 (by decide) (hts (.fieldLink RX9 19 "HedgeWays" "grid" "LHedgeWays$Grid;") (List.mem_of_getElem? (i := 1) rfl)) (fun _ h9 => h9) rfl dX9_lost_1 ?_
  refine lv_iload_n hx hb dX9_lost_4 rfl (lv_at hl 1 rfl) ?_
  refine ctV_i0 (r := (fX1_placeOf g_rows g_columns p1)) (wc := [oX1 g g_rows g_columns g_a g_b g_cells g_right g_down]) (As := [.int p1]) (rest := []) (q0 := 1) X hK hP hD hS [1] rfl rfl rfl (KX1_placeOf rfl _) (cwV 1 hts gX9_lost_X1_placeOf rfl rfl rfl hdX1_placeOf ⟨Nat.le_of_ble_eq_true rfl, Nat.le_of_ble_eq_true rfl⟩) rfl rfl rfl hl rfl (Nat.le_of_ble_eq_true rfl) dX9_lost_5 (Nat.zero_le _) (Nat.zero_le _) (fun H locs hP hS => ?_)
  refine lv_istore (lv' := [(4, .int (fX1_placeOf g_rows g_columns p1)), (0, .ref hw), (1, .int p1), (2, .int p2), (3, .int p3)]) hx hb dX9_lost_8 hl (by decide) rfl (fun ls hl => ?_)
  refine lv_aload_n hx hb dX9_lost_10 rfl (lv_at hl 1 rfl) ?_
  refine va_get (D := D) (ci := 9) (v := .ref g) (C := RX9) (T := TX9) (N := 11) hx hb hts inwX9_lost_X9 hown hK hP 0 rfl rfl 1 (by decide) (hts (.fieldLink RX9 19 "HedgeWays" "grid" "LHedgeWays$Grid;") (List.mem_of_getElem? (i := 1) rfl)) (fun _ h9 => h9) rfl dX9_lost_11 ?_
  refine lv_iload_n hx hb dX9_lost_14 rfl (lv_at hl 3 rfl) ?_
  refine ctV_i0 (r := (fX1_placeOf g_rows g_columns p2)) (wc := [oX1 g g_rows g_columns g_a g_b g_cells g_right g_down]) (As := [.int p2]) (rest := []) (q0 := 1) X hK hP hD hS [1] rfl rfl rfl (KX1_placeOf rfl _) (cwV 1 hts gX9_lost_X1_placeOf rfl rfl rfl hdX1_placeOf ⟨Nat.le_of_ble_eq_true rfl, Nat.le_of_ble_eq_true rfl⟩) rfl rfl rfl hl rfl (Nat.le_of_ble_eq_true rfl) dX9_lost_15 (Nat.zero_le _) (Nat.zero_le _) (fun H locs hP hS => ?_)
  refine lv_istore (lv' := [(5, .int (fX1_placeOf g_rows g_columns p2)), (4, .int (fX1_placeOf g_rows g_columns p1)), (0, .ref hw), (1, .int p1), (2, .int p2), (3, .int p3)]) hx hb dX9_lost_18 hl (by decide) rfl (fun ls hl => ?_)
  refine lv_iload hx hb dX9_lost_20 (lv_at hl 1 rfl) ?_
  refine lv_iconst (v := (-1)) hx hb dX9_lost_22 (by decide) ?_
  refine lv_icmp_eq (tgt := 32) hx hb dX9_lost_23 (by decide) (fun c1 => ?_) (fun c1 => ?_)
  · have hf := qob_t hf c1
    refine lv_ldc2 hx hb hown (hts (.constantLong RX9 191 (-1)) (List.mem_of_getElem? (i := 2) rfl)) dX9_lost_32 ?_
    cases qob_ret hf
    exact ct_lret X hQ hK hP hD hS rfl dX9_lost_35
  · have hf := qob_f hf c1
    refine lv_iload hx hb dX9_lost_26 (lv_at hl 0 rfl) ?_
    refine lv_iconst (v := (-1)) hx hb dX9_lost_28 (by decide) ?_
    refine lv_icmp_ne (tgt := 36) hx hb dX9_lost_29 (by decide) (fun c2 => ?_) (fun c2 => ?_)
    · have hf := qob_f hf c2
      refine lv_aload_n hx hb dX9_lost_36 rfl (lv_at hl 2 rfl) ?_
      refine va_get (D := D) (ci := 9) (v := .ref g) (C := RX9) (T := TX9) (N := 11) hx hb hts inwX9_lost_X9 hown hK hP 0 rfl rfl 1 (by decide) (hts (.fieldLink RX9 19 "HedgeWays" "grid" "LHedgeWays$Grid;") (List.mem_of_getElem? (i := 1) rfl)) (fun _ h9 => h9) rfl dX9_lost_37 ?_
      refine lv_iload hx hb dX9_lost_40 (lv_at hl 1 rfl) ?_
      obtain ⟨r_1, q3, hf⟩ := qcall1 hf
      refine ctV_l0 (r := r_1) (wc := [oX1 g g_rows g_columns g_a g_b g_cells g_right g_down]) (As := [.int (fX1_placeOf g_rows g_columns p1)]) (rest := []) (q0 := 1) X hK hP hD hS [1] rfl rfl rfl (KX1_partOf q3 _) (cwV 1 hts gX9_lost_X1_partOf rfl rfl rfl hdX1_partOf ⟨Nat.le_of_ble_eq_true rfl, Nat.le_of_ble_eq_true rfl⟩) rfl rfl rfl hl rfl (Nat.le_of_ble_eq_true rfl) dX9_lost_42 (Nat.zero_le _) (Nat.zero_le _) (fun H locs hP hS => ?_)
      refine lv_lstore (lv' := [(6, .long r_1), (5, .int (fX1_placeOf g_rows g_columns p2)), (4, .int (fX1_placeOf g_rows g_columns p1)), (0, .ref hw), (1, .int p1), (2, .int p2), (3, .int p3)]) hx hb dX9_lost_45 hl (by decide) rfl (fun ls hl => ?_)
      refine lv_lload hx hb dX9_lost_47 (lv_at hl 0 rfl) ?_
      refine lv_iload hx hb dX9_lost_49 (lv_at hl 1 rfl) ?_
      refine ctS_i0 (r := (fX1_has r_1 (fX1_placeOf g_rows g_columns p2))) (wc := []) (As := [.long r_1, .int (fX1_placeOf g_rows g_columns p2)]) (rest := []) X hK hP hD hS [] rfl rfl rfl (KX1_has rfl _) (va_cwS 2 hts gX9_lost_X1_has rfl rfl rfl hdX1_has ⟨Nat.le_of_ble_eq_true rfl, Nat.le_of_ble_eq_true rfl⟩) rfl hl rfl (Nat.le_of_ble_eq_true rfl) dX9_lost_51 (Nat.zero_le _) (Nat.zero_le _) (fun H locs hP hS => ?_)
      refine lv_if_eq (tgt := 67) hx hb dX9_lost_54 (by decide) (fun c4 => ?_) (fun c4 => ?_)
      · have hf := qob_t hf c4
        refine lv_ldc2 hx hb hown (hts (.constantLong RX9 219 (-3)) (List.mem_of_getElem? (i := 3) rfl)) dX9_lost_67 ?_
        cases qob_ret hf
        exact ct_lret X hQ hK hP hD hS rfl dX9_lost_70
      · have hf := qob_f hf c4
        refine lv_lload hx hb dX9_lost_57 (lv_at hl 0 rfl) ?_
        refine ctS_i0 (r := (fJ13_bitCount_95d88 r_1)) (wc := []) (As := [.long r_1]) (rest := []) X hK hP hD hS [] rfl rfl rfl (KJ13_bitCount_95d88 rfl _) (va_cwS 1 hts gX9_lost_J13_bitCount_95d88 rfl rfl rfl hdJ13_bitCount_95d88 ⟨Nat.le_of_ble_eq_true rfl, Nat.le_of_ble_eq_true rfl⟩) rfl hl rfl (Nat.le_of_ble_eq_true rfl) dX9_lost_59 (Nat.zero_le _) (Nat.zero_le _) (fun H locs hP hS => ?_)
        refine lv_bipush (v := 10) hx hb dX9_lost_62 (by decide) ?_
        refine lv_icmp_le (tgt := 71) hx hb dX9_lost_64 (by decide) (fun c5 => ?_) (fun c5 => ?_)
        · have hf := qob_t hf c5
          refine lv_aload_n hx hb dX9_lost_71 rfl (lv_at hl 3 rfl) ?_
          refine va_get (D := D) (ci := 9) (v := .ref su) (C := RX9) (T := TX9) (N := 11) hx hb hts inwX9_lost_X9 hown hK hP 0 rfl rfl 8 (by decide) (hts (.fieldLink RX9 63 "HedgeWays" "sums" "LHedgeWays$Sums;") (List.mem_of_getElem? (i := 4) rfl)) (fun _ h9 => h9) rfl dX9_lost_72 ?_
          refine lv_lload hx hb dX9_lost_75 (lv_at hl 0 rfl) ?_
          refine lv_iload hx hb dX9_lost_77 (lv_at hl 2 rfl) ?_
          refine lv_iload hx hb dX9_lost_79 (lv_at hl 1 rfl) ?_
          obtain ⟨su_count_1, su_above_1, su_below_1, su_order_1, su_table_1, q6, hf⟩ := qcall5 hf
          refine ctV_v (wc := [oX6 su g q_su_order q_su_table su_count su_above su_below, aI cy q_su_order 16 su_order, aT cy q_su_table su_tr, oX1 g g_rows g_columns g_a g_b g_cells g_right g_down] ++ suR cy su_tr su_table) (w1 := [oX6 su g q_su_order q_su_table su_count_1 su_above_1 su_below_1, aI cy q_su_order 16 su_order_1, aT cy q_su_table su_tr, oX1 g g_rows g_columns g_a g_b g_cells g_right g_down] ++ suR cy su_tr su_table_1) (wr := [oX9 hw sc g tn sl mk sv ro wk su ch hu]) (wn := [oX9 hw sc g tn sl mk sv ro wk su ch hu, oX1 g g_rows g_columns g_a g_b g_cells g_right g_down, oX6 su g q_su_order q_su_table su_count_1 su_above_1 su_below_1, aI cy q_su_order 16 su_order_1, aT cy q_su_table su_tr] ++ suR cy su_tr su_table_1) (As := [.long r_1, .int (fX1_placeOf g_rows g_columns p1), .int (fX1_placeOf g_rows g_columns p2)]) (rest := []) (q0 := 2) X hK hP hD hS [2, 3, 4, 1, 5, 6, 7, 8, 9, 10, 11, 12, 13, 14, 15, 16, 17, 18, 19, 20] [0] [0, 4, 1, 2, 3, 5, 6, 7, 8, 9, 10, 11, 12, 13, 14, 15, 16, 17, 18, 19, 20] rfl rfl rfl rfl rfl (by decide) rfl rfl rfl (KX6_meanSteps q6 _) (cwV 3 hts gX9_lost_X6_meanSteps rfl rfl rfl hdX6_meanSteps ⟨Nat.le_of_ble_eq_true rfl, Nat.le_of_ble_eq_true rfl⟩) rfl rfl rfl hl rfl (Nat.le_of_ble_eq_true rfl) dX9_lost_81 (Nat.zero_le _) (Nat.zero_le _) (fun H locs hP hD hS => ?_)
          refine lv_iload_n hx hb dX9_lost_84 rfl (lv_at hl 6 rfl) ?_
          refine lv_if_eq (tgt := 98) hx hb dX9_lost_85 (by decide) (fun c7 => ?_) (fun c7 => ?_)
          · have hf := qob_t hf c7
            refine lv_aload_n hx hb dX9_lost_98 rfl (lv_at hl 3 rfl) ?_
            refine va_get (D := D) (ci := 9) (v := .ref su) (C := RX9) (T := TX9) (N := 11) hx hb hts inwX9_lost_X9 hown hK hP 0 rfl rfl 8 (by decide) (hts (.fieldLink RX9 63 "HedgeWays" "sums" "LHedgeWays$Sums;") (List.mem_of_getElem? (i := 4) rfl)) (fun _ h9 => h9) rfl dX9_lost_99 ?_
            refine va_get (D := D) (ci := 6) (v := .long su_below_1) (C := RX6) (T := TX6) (N := 6) hx hb hts inwX9_lost_X6 hown hK hP 2 rfl rfl 5 (by decide) (hts (.fieldLink RX9 228 "HedgeWays$Sums" "below" "J") (List.mem_of_getElem? (i := 6) rfl)) (fun _ h9 => h9) rfl dX9_lost_102 ?_
            cases qob_ret hf
            exact ct_lret X hQ hK hP hD hS rfl dX9_lost_105
          · have hf := qob_f hf c7
            refine lv_aload_n hx hb dX9_lost_88 rfl (lv_at hl 3 rfl) ?_
            refine va_get (D := D) (ci := 9) (v := .ref su) (C := RX9) (T := TX9) (N := 11) hx hb hts inwX9_lost_X9 hown hK hP 0 rfl rfl 8 (by decide) (hts (.fieldLink RX9 63 "HedgeWays" "sums" "LHedgeWays$Sums;") (List.mem_of_getElem? (i := 4) rfl)) (fun _ h9 => h9) rfl dX9_lost_89 ?_
            refine va_get (D := D) (ci := 6) (v := .long su_above_1) (C := RX6) (T := TX6) (N := 6) hx hb hts inwX9_lost_X6 hown hK hP 2 rfl rfl 4 (by decide) (hts (.fieldLink RX9 225 "HedgeWays$Sums" "above" "J") (List.mem_of_getElem? (i := 5) rfl)) (fun _ h9 => h9) rfl dX9_lost_92 ?_
            refine lv_goto (tgt := 105) hx hb dX9_lost_95 (by decide) ?_
            cases qob_ret hf
            exact ct_lret X hQ hK hP hD hS rfl dX9_lost_105
        · have hf := qob_f hf c5
          refine lv_ldc2 hx hb hown (hts (.constantLong RX9 219 (-3)) (List.mem_of_getElem? (i := 3) rfl)) dX9_lost_67 ?_
          cases qob_ret hf
          exact ct_lret X hQ hK hP hD hS rfl dX9_lost_70
    · have hf := qob_t hf c2
      refine lv_ldc2 hx hb hown (hts (.constantLong RX9 191 (-1)) (List.mem_of_getElem? (i := 2) rfl)) dX9_lost_32 ?_
      cases qob_ret hf
      exact ct_lret X hQ hK hP hD hS rfl dX9_lost_35
theorem inwX9_trees_X9 : ∀ w ∈ wsX90, w ∈ wsX9_trees := fun _ h => List.mem_cons_of_mem _ (List.mem_append_left _ (List.mem_append_left _ (List.mem_append_right _ h)))
abbrev rmX9_trees : Room := { frames := 4, cells := 0, slots := 0, locals := 90 }
theorem hdX9_trees : yX9_trees.cls = RX9 ∧ yX9_trees.cls ≠ "java/lang/invoke/MethodHandle" ∧ yX9_trees.cls ≠ "java/lang/invoke/VarHandle" ∧ (parseMethodDescriptor yX9_trees.desc).map (fun d => d.parameters.length) = some 1 := by decide +kernel
set_option maxHeartbeats 4000000 in
set_option maxRecDepth 100000 in
theorem KX9_trees {l : Launch} {D : va_G} {cy : Nat → ClassId} {hw sc g tn sl mk sv ro wk su ch hu q_su_order q_su_table : Nat} {su_tr : Nat → Nat} {g_rows : Int32} {g_columns : Int32} {g_a : Int32} {g_b : Int32} {g_cells : Int64} {g_right : Int64} {g_down : Int64} {su_count : Int32} {su_above : Int64} {su_below : Int64} {su_order : Nat → Int32} {su_table : Nat → Nat → Int64} {p1 : Int32} {r : Int64} {su_count' : Int32} {su_order' : Nat → Int32} {su_table' : Nat → Nat → Int64} (hf : fX9_trees g_rows g_columns g_cells g_right g_down su_count su_order su_table p1 = some (r, su_count', su_order', su_table')) : CtL l yX9_trees wsX9_trees rmX9_trees D cy [.ref hw, .int p1] ([oX9 hw sc g tn sl mk sv ro wk su ch hu, oX1 g g_rows g_columns g_a g_b g_cells g_right g_down, oX6 su g q_su_order q_su_table su_count su_above su_below, aI cy q_su_order 16 su_order, aT cy q_su_table su_tr] ++ suR cy su_tr su_table) ([oX9 hw sc g tn sl mk sv ro wk su ch hu, oX1 g g_rows g_columns g_a g_b g_cells g_right g_down, oX6 su g q_su_order q_su_table su_count' su_above su_below, aI cy q_su_order 16 su_order', aT cy q_su_table su_tr] ++ suR cy su_tr su_table') r := by
  refine CtL.of (cc := cX9_trees) (maxL := 5) (ret := some .long) (own := RX9) (by decide) rfl rfl (Nat.le_of_ble_eq_true rfl) ?_
  intro p e s m args below meth c A Q X hQ hK hP hD hS ls hl
  obtain ⟨hx, hb, hml, hown, hts, hr, hlocks, hA, hZ⟩ := id X
  have hl : lv_has ls 5 [(0, .ref hw), (1, .int p1)] := hl
  unfold fX9_trees at hf
  have hf := qob_top hf
  refine lv_aload_n hx hb dX9_trees_0 rfl (lv_at hl 0 rfl) ?_
  refine va_get (D := D) (ci := 9) (v := .ref g) (C := RX9) (T := TX9) (N := 11) hx hb hts inwX9_trees_X9 hown hK hP 0 rfl rfl 1 (by decide) (hts (.fieldLink RX9 19 "HedgeWays" "grid" "LHedgeWays$Grid;") (List.mem_of_getElem? (i := 1) rfl)) (fun _ h9 => h9) rfl dX9_trees_1 ?_
  refine lv_iload_n hx hb dX9_trees_4 rfl (lv_at hl 1 rfl) ?_
  refine ctV_i0 (r := (fX1_placeOf g_rows g_columns p1)) (wc := [oX1 g g_rows g_columns g_a g_b g_cells g_right g_down]) (As := [.int p1]) (rest := []) (q0 := 1) X hK hP hD hS [1] rfl rfl rfl (KX1_placeOf rfl _) (cwV 1 hts gX9_trees_X1_placeOf rfl rfl rfl hdX1_placeOf ⟨Nat.le_of_ble_eq_true rfl, Nat.le_of_ble_eq_true rfl⟩) rfl rfl rfl hl rfl (Nat.le_of_ble_eq_true rfl) dX9_trees_5 (Nat.zero_le _) (Nat.zero_le _) (fun H locs hP hS => ?_)
  refine lv_istore_n (lv' := [(2, .int (fX1_placeOf g_rows g_columns p1)), (0, .ref hw), (1, .int p1)]) hx hb dX9_trees_8 rfl hl (by decide) rfl (fun ls hl => ?_)
  refine lv_iload_n hx hb dX9_trees_9 rfl (lv_at hl 0 rfl) ?_
  refine lv_iconst (v := (-1)) hx hb dX9_trees_10 (by decide) ?_
  refine lv_icmp_ne (tgt := 18) hx hb dX9_trees_11 (by decide) (fun c1 => ?_) (fun c1 => ?_)
  · have hf := qob_f hf c1
    refine lv_aload_n hx hb dX9_trees_18 rfl (lv_at hl 1 rfl) ?_
    refine va_get (D := D) (ci := 9) (v := .ref g) (C := RX9) (T := TX9) (N := 11) hx hb hts inwX9_trees_X9 hown hK hP 0 rfl rfl 1 (by decide) (hts (.fieldLink RX9 19 "HedgeWays" "grid" "LHedgeWays$Grid;") (List.mem_of_getElem? (i := 1) rfl)) (fun _ h9 => h9) rfl dX9_trees_19 ?_
    refine lv_iload_n hx hb dX9_trees_22 rfl (lv_at hl 0 rfl) ?_
    obtain ⟨r_1, q2, hf⟩ := qcall1 hf
    refine ctV_l0 (r := r_1) (wc := [oX1 g g_rows g_columns g_a g_b g_cells g_right g_down]) (As := [.int (fX1_placeOf g_rows g_columns p1)]) (rest := []) (q0 := 1) X hK hP hD hS [1] rfl rfl rfl (KX1_partOf q2 _) (cwV 1 hts gX9_trees_X1_partOf rfl rfl rfl hdX1_partOf ⟨Nat.le_of_ble_eq_true rfl, Nat.le_of_ble_eq_true rfl⟩) rfl rfl rfl hl rfl (Nat.le_of_ble_eq_true rfl) dX9_trees_23 (Nat.zero_le _) (Nat.zero_le _) (fun H locs hP hS => ?_)
    refine lv_lstore_n (lv' := [(3, .long r_1), (2, .int (fX1_placeOf g_rows g_columns p1)), (0, .ref hw), (1, .int p1)]) hx hb dX9_trees_26 rfl hl (by decide) rfl (fun ls hl => ?_)
    refine lv_lload_n hx hb dX9_trees_27 rfl (lv_at hl 0 rfl) ?_
    refine ctS_i0 (r := (fJ13_bitCount_95d88 r_1)) (wc := []) (As := [.long r_1]) (rest := []) X hK hP hD hS [] rfl rfl rfl (KJ13_bitCount_95d88 rfl _) (va_cwS 1 hts gX9_trees_J13_bitCount_95d88 rfl rfl rfl hdJ13_bitCount_95d88 ⟨Nat.le_of_ble_eq_true rfl, Nat.le_of_ble_eq_true rfl⟩) rfl hl rfl (Nat.le_of_ble_eq_true rfl) dX9_trees_28 (Nat.zero_le _) (Nat.zero_le _) (fun H locs hP hS => ?_)
    refine lv_bipush (v := 16) hx hb dX9_trees_31 (by decide) ?_
    refine lv_icmp_le (tgt := 40) hx hb dX9_trees_33 (by decide) (fun c3 => ?_) (fun c3 => ?_)
    · have hf := qob_t hf c3
      refine lv_aload_n hx hb dX9_trees_40 rfl (lv_at hl 2 rfl) ?_
      refine va_get (D := D) (ci := 9) (v := .ref su) (C := RX9) (T := TX9) (N := 11) hx hb hts inwX9_trees_X9 hown hK hP 0 rfl rfl 8 (by decide) (hts (.fieldLink RX9 63 "HedgeWays" "sums" "LHedgeWays$Sums;") (List.mem_of_getElem? (i := 4) rfl)) (fun _ h9 => h9) rfl dX9_trees_41 ?_
      refine lv_lload_n hx hb dX9_trees_44 rfl (lv_at hl 0 rfl) ?_
      refine lv_iload_n hx hb dX9_trees_45 rfl (lv_at hl 1 rfl) ?_
      obtain ⟨r_2, su_count_1, su_order_1, su_table_1, q4, hf⟩ := qcall4 hf
      refine ctV_l (r := r_2) (wc := [oX6 su g q_su_order q_su_table su_count su_above su_below, aI cy q_su_order 16 su_order, aT cy q_su_table su_tr, oX1 g g_rows g_columns g_a g_b g_cells g_right g_down] ++ suR cy su_tr su_table) (w1 := [oX6 su g q_su_order q_su_table su_count_1 su_above su_below, aI cy q_su_order 16 su_order_1, aT cy q_su_table su_tr, oX1 g g_rows g_columns g_a g_b g_cells g_right g_down] ++ suR cy su_tr su_table_1) (wr := [oX9 hw sc g tn sl mk sv ro wk su ch hu]) (wn := [oX9 hw sc g tn sl mk sv ro wk su ch hu, oX1 g g_rows g_columns g_a g_b g_cells g_right g_down, oX6 su g q_su_order q_su_table su_count_1 su_above su_below, aI cy q_su_order 16 su_order_1, aT cy q_su_table su_tr] ++ suR cy su_tr su_table_1) (As := [.long r_1, .int (fX1_placeOf g_rows g_columns p1)]) (rest := []) (q0 := 2) X hK hP hD hS [2, 3, 4, 1, 5, 6, 7, 8, 9, 10, 11, 12, 13, 14, 15, 16, 17, 18, 19, 20] [0] [0, 4, 1, 2, 3, 5, 6, 7, 8, 9, 10, 11, 12, 13, 14, 15, 16, 17, 18, 19, 20] rfl rfl rfl rfl rfl (by decide) rfl rfl rfl (KX6_treesOf q4 _) (cwV 2 hts gX9_trees_X6_treesOf rfl rfl rfl hdX6_treesOf ⟨Nat.le_of_ble_eq_true rfl, Nat.le_of_ble_eq_true rfl⟩) rfl rfl rfl hl rfl (Nat.le_of_ble_eq_true rfl) dX9_trees_46 (Nat.zero_le _) (Nat.zero_le _) (fun H locs hP hD hS => ?_)
      cases qob_ret hf
      exact ct_lret X hQ hK hP hD hS rfl dX9_trees_49
    · have hf := qob_f hf c3
      refine lv_ldc2 hx hb hown (hts (.constantLong RX9 219 (-3)) (List.mem_of_getElem? (i := 3) rfl)) dX9_trees_36 ?_
      cases qob_ret hf
      exact ct_lret X hQ hK hP hD hS rfl dX9_trees_39
  · have hf := qob_t hf c1
    refine lv_ldc2 hx hb hown (hts (.constantLong RX9 191 (-1)) (List.mem_of_getElem? (i := 2) rfl)) dX9_trees_14 ?_
    cases qob_ret hf
    exact ct_lret X hQ hK hP hD hS rfl dX9_trees_17
theorem inwX9_breaks_X9 : ∀ w ∈ wsX90, w ∈ wsX9_breaks := fun _ h => List.mem_cons_of_mem _ (List.mem_append_left _ (List.mem_append_left _ (List.mem_append_right _ h)))
abbrev rmX9_breaks : Room := { frames := 4, cells := 0, slots := 0, locals := 97 }
theorem hdX9_breaks : yX9_breaks.cls = RX9 ∧ yX9_breaks.cls ≠ "java/lang/invoke/MethodHandle" ∧ yX9_breaks.cls ≠ "java/lang/invoke/VarHandle" ∧ (parseMethodDescriptor yX9_breaks.desc).map (fun d => d.parameters.length) = some 2 := by decide +kernel
set_option maxHeartbeats 4000000 in
set_option maxRecDepth 100000 in
theorem KX9_breaks {l : Launch} {D : va_G} {cy : Nat → ClassId} {hw sc g tn sl mk sv ro wk su ch hu : Nat} {g_rows : Int32} {g_columns : Int32} {g_a : Int32} {g_b : Int32} {g_cells : Int64} {g_right : Int64} {g_down : Int64} {p1 : Int32} {p2 : Int32} {r : Int32} (hf : fX9_breaks g_rows g_columns g_cells g_right g_down p1 p2 = some r) : CtI l yX9_breaks wsX9_breaks rmX9_breaks D cy [.ref hw, .int p1, .int p2] ([oX9 hw sc g tn sl mk sv ro wk su ch hu, oX1 g g_rows g_columns g_a g_b g_cells g_right g_down, oX0 ch g]) ([oX9 hw sc g tn sl mk sv ro wk su ch hu, oX1 g g_rows g_columns g_a g_b g_cells g_right g_down, oX0 ch g]) r := by
  refine CtI.of (cc := cX9_breaks) (maxL := 5) (ret := some .int) (own := RX9) (by decide) rfl rfl (Nat.le_of_ble_eq_true rfl) ?_
  intro p e s m args below meth c A Q X hQ hK hP hD hS ls hl
  obtain ⟨hx, hb, hml, hown, hts, hr, hlocks, hA, hZ⟩ := id X
  have hl : lv_has ls 5 [(0, .ref hw), (1, .int p1), (2, .int p2)] := hl
  unfold fX9_breaks at hf
  have hf := qob_top hf
  refine lv_aload_n hx hb dX9_breaks_0 rfl (lv_at hl 0 rfl) ?_
  refine va_get (D := D) (ci := 9) (v := .ref g) (C := RX9) (T := TX9) (N := 11) hx hb hts inwX9_breaks_X9 hown hK hP 0 rfl rfl 1 (by decide) (hts (.fieldLink RX9 19 "HedgeWays" "grid" "LHedgeWays$Grid;") (List.mem_of_getElem? (i := 1) rfl)) (fun _ h9 => h9) rfl dX9_breaks_1 ?_
  refine lv_iload_n hx hb dX9_breaks_4 rfl (lv_at hl 1 rfl) ?_
  refine ctV_i0 (r := (fX1_placeOf g_rows g_columns p1)) (wc := [oX1 g g_rows g_columns g_a g_b g_cells g_right g_down]) (As := [.int p1]) (rest := []) (q0 := 1) X hK hP hD hS [1] rfl rfl rfl (KX1_placeOf rfl _) (cwV 1 hts gX9_breaks_X1_placeOf rfl rfl rfl hdX1_placeOf ⟨Nat.le_of_ble_eq_true rfl, Nat.le_of_ble_eq_true rfl⟩) rfl rfl rfl hl rfl (Nat.le_of_ble_eq_true rfl) dX9_breaks_5 (Nat.zero_le _) (Nat.zero_le _) (fun H locs hP hS => ?_)
  refine lv_istore_n (lv' := [(3, .int (fX1_placeOf g_rows g_columns p1)), (0, .ref hw), (1, .int p1), (2, .int p2)]) hx hb dX9_breaks_8 rfl hl (by decide) rfl (fun ls hl => ?_)
  refine lv_aload_n hx hb dX9_breaks_9 rfl (lv_at hl 1 rfl) ?_
  refine va_get (D := D) (ci := 9) (v := .ref g) (C := RX9) (T := TX9) (N := 11) hx hb hts inwX9_breaks_X9 hown hK hP 0 rfl rfl 1 (by decide) (hts (.fieldLink RX9 19 "HedgeWays" "grid" "LHedgeWays$Grid;") (List.mem_of_getElem? (i := 1) rfl)) (fun _ h9 => h9) rfl dX9_breaks_10 ?_
  refine lv_iload_n hx hb dX9_breaks_13 rfl (lv_at hl 3 rfl) ?_
  refine ctV_i0 (r := (fX1_placeOf g_rows g_columns p2)) (wc := [oX1 g g_rows g_columns g_a g_b g_cells g_right g_down]) (As := [.int p2]) (rest := []) (q0 := 1) X hK hP hD hS [1] rfl rfl rfl (KX1_placeOf rfl _) (cwV 1 hts gX9_breaks_X1_placeOf rfl rfl rfl hdX1_placeOf ⟨Nat.le_of_ble_eq_true rfl, Nat.le_of_ble_eq_true rfl⟩) rfl rfl rfl hl rfl (Nat.le_of_ble_eq_true rfl) dX9_breaks_14 (Nat.zero_le _) (Nat.zero_le _) (fun H locs hP hS => ?_)
  refine lv_istore (lv' := [(4, .int (fX1_placeOf g_rows g_columns p2)), (3, .int (fX1_placeOf g_rows g_columns p1)), (0, .ref hw), (1, .int p1), (2, .int p2)]) hx hb dX9_breaks_17 hl (by decide) rfl (fun ls hl => ?_)
  refine lv_iload_n hx hb dX9_breaks_19 rfl (lv_at hl 1 rfl) ?_
  refine lv_iconst (v := (-1)) hx hb dX9_breaks_20 (by decide) ?_
  refine lv_icmp_eq (tgt := 30) hx hb dX9_breaks_21 (by decide) (fun c1 => ?_) (fun c1 => ?_)
  · have hf := qob_t hf c1
    refine lv_iconst (v := (-1)) hx hb dX9_breaks_30 (by decide) ?_
    cases qob_ret hf
    exact ct_iret X hQ hK hP hD hS rfl dX9_breaks_31
  · have hf := qob_f hf c1
    refine lv_iload hx hb dX9_breaks_24 (lv_at hl 0 rfl) ?_
    refine lv_iconst (v := (-1)) hx hb dX9_breaks_26 (by decide) ?_
    refine lv_icmp_ne (tgt := 32) hx hb dX9_breaks_27 (by decide) (fun c2 => ?_) (fun c2 => ?_)
    · have hf := qob_f hf c2
      refine lv_aload_n hx hb dX9_breaks_32 rfl (lv_at hl 2 rfl) ?_
      refine va_get (D := D) (ci := 9) (v := .ref ch) (C := RX9) (T := TX9) (N := 11) hx hb hts inwX9_breaks_X9 hown hK hP 0 rfl rfl 9 (by decide) (hts (.fieldLink RX9 70 "HedgeWays" "changes" "LHedgeWays$Changes;") (List.mem_of_getElem? (i := 2) rfl)) (fun _ h9 => h9) rfl dX9_breaks_33 ?_
      refine lv_iload_n hx hb dX9_breaks_36 rfl (lv_at hl 1 rfl) ?_
      refine lv_iload hx hb dX9_breaks_37 (lv_at hl 0 rfl) ?_
      obtain ⟨r_1, q3, hf⟩ := qcall1 hf
      refine ctV_i0 (r := r_1) (wc := [oX0 ch g, oX1 g g_rows g_columns g_a g_b g_cells g_right g_down]) (As := [.int (fX1_placeOf g_rows g_columns p1), .int (fX1_placeOf g_rows g_columns p2)]) (rest := []) (q0 := 2) X hK hP hD hS [2, 1] rfl rfl rfl (KX0_fewestBroken q3 _) (cwV 2 hts gX9_breaks_X0_fewestBroken rfl rfl rfl hdX0_fewestBroken ⟨Nat.le_of_ble_eq_true rfl, Nat.le_of_ble_eq_true rfl⟩) rfl rfl rfl hl rfl (Nat.le_of_ble_eq_true rfl) dX9_breaks_39 (Nat.zero_le _) (Nat.zero_le _) (fun H locs hP hS => ?_)
      cases qob_ret hf
      exact ct_iret X hQ hK hP hD hS rfl dX9_breaks_42
    · have hf := qob_t hf c2
      refine lv_iconst (v := (-1)) hx hb dX9_breaks_30 (by decide) ?_
      cases qob_ret hf
      exact ct_iret X hQ hK hP hD hS rfl dX9_breaks_31
theorem inwX9_shortCut_X9 : ∀ w ∈ wsX90, w ∈ wsX9_shortCut := fun _ h => List.mem_cons_of_mem _ (List.mem_append_left _ (List.mem_append_left _ (List.mem_append_right _ h)))
abbrev rmX9_shortCut : Room := { frames := 5, cells := 0, slots := 0, locals := 120 }
theorem hdX9_shortCut : yX9_shortCut.cls = RX9 ∧ yX9_shortCut.cls ≠ "java/lang/invoke/MethodHandle" ∧ yX9_shortCut.cls ≠ "java/lang/invoke/VarHandle" ∧ (parseMethodDescriptor yX9_shortCut.desc).map (fun d => d.parameters.length) = some 0 := by decide +kernel
set_option maxHeartbeats 4000000 in
set_option maxRecDepth 100000 in
theorem KX9_shortCut {l : Launch} {D : va_G} {cy : Nat → ClassId} {hw sc g tn sl mk sv ro wk su ch hu : Nat} {g_rows : Int32} {g_columns : Int32} {g_a : Int32} {g_b : Int32} {g_cells : Int64} {g_right : Int64} {g_down : Int64}  {r : Int32} {g_right' : Int64} {g_down' : Int64} (hf : fX9_shortCut g_a g_b g_cells g_right g_down = some (r, g_right', g_down')) : CtI l yX9_shortCut wsX9_shortCut rmX9_shortCut D cy [.ref hw] ([oX9 hw sc g tn sl mk sv ro wk su ch hu, oX1 g g_rows g_columns g_a g_b g_cells g_right g_down, oX0 ch g]) ([oX9 hw sc g tn sl mk sv ro wk su ch hu, oX1 g g_rows g_columns g_a g_b g_cells g_right' g_down', oX0 ch g]) r := by
  refine CtI.of (cc := cX9_shortCut) (maxL := 1) (ret := some .int) (own := RX9) (by decide) rfl rfl (Nat.le_of_ble_eq_true rfl) ?_
  intro p e s m args below meth c A Q X hQ hK hP hD hS ls hl
  obtain ⟨hx, hb, hml, hown, hts, hr, hlocks, hA, hZ⟩ := id X
  have hl : lv_has ls 1 [(0, .ref hw)] := hl
  unfold fX9_shortCut at hf
  have hf := qob_top hf
  refine lv_aload_n hx hb dX9_shortCut_0 rfl (lv_at hl 0 rfl) ?_
  refine va_get (D := D) (ci := 9) (v := .ref ch) (C := RX9) (T := TX9) (N := 11) hx hb hts inwX9_shortCut_X9 hown hK hP 0 rfl rfl 9 (by decide) (hts (.fieldLink RX9 70 "HedgeWays" "changes" "LHedgeWays$Changes;") (List.mem_of_getElem? (i := 1) rfl)) (fun _ h9 => h9) rfl dX9_shortCut_1 ?_
  obtain ⟨r_1, g_right_1, g_down_1, q1, hf⟩ := qcall3 hf
  refine ctV_i (r := r_1) (wc := [oX0 ch g, oX1 g g_rows g_columns g_a g_b g_cells g_right g_down]) (w1 := [oX0 ch g, oX1 g g_rows g_columns g_a g_b g_cells g_right_1 g_down_1]) (wr := [oX9 hw sc g tn sl mk sv ro wk su ch hu]) (wn := [oX9 hw sc g tn sl mk sv ro wk su ch hu, oX1 g g_rows g_columns g_a g_b g_cells g_right_1 g_down_1, oX0 ch g]) (As := []) (rest := []) (q0 := 2) X hK hP hD hS [2, 1] [0] [0, 2, 1] rfl rfl rfl rfl rfl (by decide) rfl rfl rfl (KX0_bestTakenAway q1 _) (cwV 0 hts gX9_shortCut_X0_bestTakenAway rfl rfl rfl hdX0_bestTakenAway ⟨Nat.le_of_ble_eq_true rfl, Nat.le_of_ble_eq_true rfl⟩) rfl rfl rfl hl rfl (Nat.le_of_ble_eq_true rfl) dX9_shortCut_4 (Nat.zero_le _) (Nat.zero_le _) (fun H locs hP hD hS => ?_)
  cases qob_ret hf
  exact ct_iret X hQ hK hP hD hS rfl dX9_shortCut_7
theorem inwX9_bar_X9 : ∀ w ∈ wsX90, w ∈ wsX9_bar := fun _ h => List.mem_cons_of_mem _ (List.mem_append_left _ (List.mem_append_left _ (List.mem_append_right _ h)))
abbrev rmX9_bar : Room := { frames := 5, cells := 0, slots := 0, locals := 120 }
theorem hdX9_bar : yX9_bar.cls = RX9 ∧ yX9_bar.cls ≠ "java/lang/invoke/MethodHandle" ∧ yX9_bar.cls ≠ "java/lang/invoke/VarHandle" ∧ (parseMethodDescriptor yX9_bar.desc).map (fun d => d.parameters.length) = some 0 := by decide +kernel
set_option maxHeartbeats 4000000 in
set_option maxRecDepth 100000 in
theorem KX9_bar {l : Launch} {D : va_G} {cy : Nat → ClassId} {hw sc g tn sl mk sv ro wk su ch hu : Nat} {g_rows : Int32} {g_columns : Int32} {g_a : Int32} {g_b : Int32} {g_cells : Int64} {g_right : Int64} {g_down : Int64}  {r : Int32} {g_right' : Int64} {g_down' : Int64} (hf : fX9_bar g_a g_b g_cells g_right g_down = some (r, g_right', g_down')) : CtI l yX9_bar wsX9_bar rmX9_bar D cy [.ref hw] ([oX9 hw sc g tn sl mk sv ro wk su ch hu, oX1 g g_rows g_columns g_a g_b g_cells g_right g_down, oX0 ch g]) ([oX9 hw sc g tn sl mk sv ro wk su ch hu, oX1 g g_rows g_columns g_a g_b g_cells g_right' g_down', oX0 ch g]) r := by
  refine CtI.of (cc := cX9_bar) (maxL := 1) (ret := some .int) (own := RX9) (by decide) rfl rfl (Nat.le_of_ble_eq_true rfl) ?_
  intro p e s m args below meth c A Q X hQ hK hP hD hS ls hl
  obtain ⟨hx, hb, hml, hown, hts, hr, hlocks, hA, hZ⟩ := id X
  have hl : lv_has ls 1 [(0, .ref hw)] := hl
  unfold fX9_bar at hf
  have hf := qob_top hf
  refine lv_aload_n hx hb dX9_bar_0 rfl (lv_at hl 0 rfl) ?_
  refine va_get (D := D) (ci := 9) (v := .ref ch) (C := RX9) (T := TX9) (N := 11) hx hb hts inwX9_bar_X9 hown hK hP 0 rfl rfl 9 (by decide) (hts (.fieldLink RX9 70 "HedgeWays" "changes" "LHedgeWays$Changes;") (List.mem_of_getElem? (i := 1) rfl)) (fun _ h9 => h9) rfl dX9_bar_1 ?_
  obtain ⟨r_1, g_right_1, g_down_1, q1, hf⟩ := qcall3 hf
  refine ctV_i (r := r_1) (wc := [oX0 ch g, oX1 g g_rows g_columns g_a g_b g_cells g_right g_down]) (w1 := [oX0 ch g, oX1 g g_rows g_columns g_a g_b g_cells g_right_1 g_down_1]) (wr := [oX9 hw sc g tn sl mk sv ro wk su ch hu]) (wn := [oX9 hw sc g tn sl mk sv ro wk su ch hu, oX1 g g_rows g_columns g_a g_b g_cells g_right_1 g_down_1, oX0 ch g]) (As := []) (rest := []) (q0 := 2) X hK hP hD hS [2, 1] [0] [0, 2, 1] rfl rfl rfl rfl rfl (by decide) rfl rfl rfl (KX0_bestPutIn q1 _) (cwV 0 hts gX9_bar_X0_bestPutIn rfl rfl rfl hdX0_bestPutIn ⟨Nat.le_of_ble_eq_true rfl, Nat.le_of_ble_eq_true rfl⟩) rfl rfl rfl hl rfl (Nat.le_of_ble_eq_true rfl) dX9_bar_4 (Nat.zero_le _) (Nat.zero_le _) (fun H locs hP hD hS => ?_)
  cases qob_ret hf
  exact ct_iret X hQ hK hP hD hS rfl dX9_bar_7
theorem inwX9_chase_X9 : ∀ w ∈ wsX90, w ∈ wsX9_chase := fun _ h => List.mem_cons_of_mem _ (List.mem_append_left _ (List.mem_append_left _ (List.mem_append_right _ h)))
abbrev rmX9_chase : Room := { frames := 6, cells := 0, slots := 0, locals := 143 }
theorem hdX9_chase : yX9_chase.cls = RX9 ∧ yX9_chase.cls ≠ "java/lang/invoke/MethodHandle" ∧ yX9_chase.cls ≠ "java/lang/invoke/VarHandle" ∧ (parseMethodDescriptor yX9_chase.desc).map (fun d => d.parameters.length) = some 3 := by decide +kernel
set_option maxHeartbeats 4000000 in
set_option maxRecDepth 100000 in
theorem KX9_chase {l : Launch} {D : va_G} {cy : Nat → ClassId} {hw sc g tn sl mk sv ro wk su ch hu q_hu_before q_hu_after : Nat} {g_rows : Int32} {g_columns : Int32} {g_a : Int32} {g_b : Int32} {g_cells : Int64} {g_right : Int64} {g_down : Int64} {hu_before : Nat → Int64} {hu_after : Nat → Int64} {p1 : Int32} {p2 : Int32} {p3 : Int32} {r : Int32} {hu_before' : Nat → Int64} {hu_after' : Nat → Int64} (hf : fX9_chase g_rows g_columns g_b g_cells g_right g_down hu_before hu_after p1 p2 p3 = some (r, hu_before', hu_after')) : CtI l yX9_chase wsX9_chase rmX9_chase D cy [.ref hw, .int p1, .int p2, .int p3] ([oX9 hw sc g tn sl mk sv ro wk su ch hu, oX1 g g_rows g_columns g_a g_b g_cells g_right g_down, oX2 hu g q_hu_before q_hu_after, aJ cy q_hu_before 48 hu_before, aJ cy q_hu_after 48 hu_after]) ([oX9 hw sc g tn sl mk sv ro wk su ch hu, oX1 g g_rows g_columns g_a g_b g_cells g_right g_down, oX2 hu g q_hu_before q_hu_after, aJ cy q_hu_before 48 hu_before', aJ cy q_hu_after 48 hu_after']) r := by
  refine CtI.of (cc := cX9_chase) (maxL := 6) (ret := some .int) (own := RX9) (by decide) rfl rfl (Nat.le_of_ble_eq_true rfl) ?_
  intro p e s m args below meth c A Q X hQ hK hP hD hS ls hl
  obtain ⟨hx, hb, hml, hown, hts, hr, hlocks, hA, hZ⟩ := id X
  have hl : lv_has ls 6 [(0, .ref hw), (1, .int p1), (2, .int p2), (3, .int p3)] := hl
  unfold fX9_chase at hf
  have hf := qob_top hf
  refine lv_aload_n hx hb dX9_chase_0 rfl (lv_at hl 0 rfl) ?_
  refine va_get (D := D) (ci := 9) (v := .ref g) (C := RX9) (T := TX9) (N := 11) hx hb hts inwX9_chase_X9 hown hK hP 0 rfl rfl 1 (by decide) (hts (.fieldLink RX9 19 "HedgeWays" "grid" "LHedgeWays$Grid;") (List.mem_of_getElem? (i := 1) rfl)) (fun _ h9 => h9) rfl dX9_chase_1 ?_
  refine lv_iload_n hx hb dX9_chase_4 rfl (lv_at hl 1 rfl) ?_
  refine ctV_i0 (r := (fX1_placeOf g_rows g_columns p1)) (wc := [oX1 g g_rows g_columns g_a g_b g_cells g_right g_down]) (As := [.int p1]) (rest := []) (q0 := 1) X hK hP hD hS [1] rfl rfl rfl (KX1_placeOf rfl _) (cwV 1 hts gX9_chase_X1_placeOf rfl rfl rfl hdX1_placeOf ⟨Nat.le_of_ble_eq_true rfl, Nat.le_of_ble_eq_true rfl⟩) rfl rfl rfl hl rfl (Nat.le_of_ble_eq_true rfl) dX9_chase_5 (Nat.zero_le _) (Nat.zero_le _) (fun H locs hP hS => ?_)
  refine lv_istore (lv' := [(4, .int (fX1_placeOf g_rows g_columns p1)), (0, .ref hw), (1, .int p1), (2, .int p2), (3, .int p3)]) hx hb dX9_chase_8 hl (by decide) rfl (fun ls hl => ?_)
  refine lv_aload_n hx hb dX9_chase_10 rfl (lv_at hl 1 rfl) ?_
  refine va_get (D := D) (ci := 9) (v := .ref g) (C := RX9) (T := TX9) (N := 11) hx hb hts inwX9_chase_X9 hown hK hP 0 rfl rfl 1 (by decide) (hts (.fieldLink RX9 19 "HedgeWays" "grid" "LHedgeWays$Grid;") (List.mem_of_getElem? (i := 1) rfl)) (fun _ h9 => h9) rfl dX9_chase_11 ?_
  refine lv_iload_n hx hb dX9_chase_14 rfl (lv_at hl 3 rfl) ?_
  refine ctV_i0 (r := (fX1_placeOf g_rows g_columns p2)) (wc := [oX1 g g_rows g_columns g_a g_b g_cells g_right g_down]) (As := [.int p2]) (rest := []) (q0 := 1) X hK hP hD hS [1] rfl rfl rfl (KX1_placeOf rfl _) (cwV 1 hts gX9_chase_X1_placeOf rfl rfl rfl hdX1_placeOf ⟨Nat.le_of_ble_eq_true rfl, Nat.le_of_ble_eq_true rfl⟩) rfl rfl rfl hl rfl (Nat.le_of_ble_eq_true rfl) dX9_chase_15 (Nat.zero_le _) (Nat.zero_le _) (fun H locs hP hS => ?_)
  refine lv_istore (lv' := [(5, .int (fX1_placeOf g_rows g_columns p2)), (4, .int (fX1_placeOf g_rows g_columns p1)), (0, .ref hw), (1, .int p1), (2, .int p2), (3, .int p3)]) hx hb dX9_chase_18 hl (by decide) rfl (fun ls hl => ?_)
  refine lv_iload hx hb dX9_chase_20 (lv_at hl 1 rfl) ?_
  refine lv_iconst (v := (-1)) hx hb dX9_chase_22 (by decide) ?_
  refine lv_icmp_eq (tgt := 32) hx hb dX9_chase_23 (by decide) (fun c1 => ?_) (fun c1 => ?_)
  · have hf := qob_t hf c1
    refine lv_iconst (v := (-1)) hx hb dX9_chase_32 (by decide) ?_
    cases qob_ret hf
    exact ct_iret X hQ hK hP hD hS rfl dX9_chase_33
  · have hf := qob_f hf c1
    refine lv_iload hx hb dX9_chase_26 (lv_at hl 0 rfl) ?_
    refine lv_iconst (v := (-1)) hx hb dX9_chase_28 (by decide) ?_
    refine lv_icmp_ne (tgt := 34) hx hb dX9_chase_29 (by decide) (fun c2 => ?_) (fun c2 => ?_)
    · have hf := qob_f hf c2
      refine lv_aload_n hx hb dX9_chase_34 rfl (lv_at hl 2 rfl) ?_
      refine va_get (D := D) (ci := 9) (v := .ref hu) (C := RX9) (T := TX9) (N := 11) hx hb hts inwX9_chase_X9 hown hK hP 0 rfl rfl 10 (by decide) (hts (.fieldLink RX9 77 "HedgeWays" "hunt" "LHedgeWays$Hunt;") (List.mem_of_getElem? (i := 2) rfl)) (fun _ h9 => h9) rfl dX9_chase_35 ?_
      refine lv_iload hx hb dX9_chase_38 (lv_at hl 1 rfl) ?_
      refine lv_iload hx hb dX9_chase_40 (lv_at hl 0 rfl) ?_
      refine lv_iload_n hx hb dX9_chase_42 rfl (lv_at hl 5 rfl) ?_
      obtain ⟨r_1, hu_before_1, hu_after_1, q3, hf⟩ := qcall3 hf
      refine ctV_i (r := r_1) (wc := [oX2 hu g q_hu_before q_hu_after, aJ cy q_hu_before 48 hu_before, aJ cy q_hu_after 48 hu_after, oX1 g g_rows g_columns g_a g_b g_cells g_right g_down]) (w1 := [oX2 hu g q_hu_before q_hu_after, aJ cy q_hu_before 48 hu_before_1, aJ cy q_hu_after 48 hu_after_1, oX1 g g_rows g_columns g_a g_b g_cells g_right g_down]) (wr := [oX9 hw sc g tn sl mk sv ro wk su ch hu]) (wn := [oX9 hw sc g tn sl mk sv ro wk su ch hu, oX1 g g_rows g_columns g_a g_b g_cells g_right g_down, oX2 hu g q_hu_before q_hu_after, aJ cy q_hu_before 48 hu_before_1, aJ cy q_hu_after 48 hu_after_1]) (As := [.int (fX1_placeOf g_rows g_columns p1), .int (fX1_placeOf g_rows g_columns p2), .int p3]) (rest := []) (q0 := 2) X hK hP hD hS [2, 3, 4, 1] [0] [0, 4, 1, 2, 3] rfl rfl rfl rfl rfl (by decide) rfl rfl rfl (KX2_turnsTillWon q3 _) (cwV 3 hts gX9_chase_X2_turnsTillWon rfl rfl rfl hdX2_turnsTillWon ⟨Nat.le_of_ble_eq_true rfl, Nat.le_of_ble_eq_true rfl⟩) rfl rfl rfl hl rfl (Nat.le_of_ble_eq_true rfl) dX9_chase_43 (Nat.zero_le _) (Nat.zero_le _) (fun H locs hP hD hS => ?_)
      cases qob_ret hf
      exact ct_iret X hQ hK hP hD hS rfl dX9_chase_46
    · have hf := qob_t hf c2
      refine lv_iconst (v := (-1)) hx hb dX9_chase_32 (by decide) ?_
      cases qob_ret hf
      exact ct_iret X hQ hK hP hD hS rfl dX9_chase_33
theorem inwX9_same_X9 : ∀ w ∈ wsX90, w ∈ wsX9_same := fun _ h => List.mem_cons_of_mem _ (List.mem_append_left _ (List.mem_append_right _ h))
abbrev rmX9_same : Room := { frames := 4, cells := 0, slots := 0, locals := 96 }
theorem hdX9_same : yX9_same.cls = RX9 ∧ yX9_same.cls ≠ "java/lang/invoke/MethodHandle" ∧ yX9_same.cls ≠ "java/lang/invoke/VarHandle" ∧ (parseMethodDescriptor yX9_same.desc).map (fun d => d.parameters.length) = some 1 := by decide +kernel
set_option maxHeartbeats 4000000 in
set_option maxRecDepth 100000 in
theorem KX9_same {l : Launch} {D : va_G} {cy : Nat → ClassId} {hw sc g tn sl mk sv ro wk su ch hu : Nat} {g_rows : Int32} {g_columns : Int32} {g_a : Int32} {g_b : Int32} {g_cells : Int64} {g_right : Int64} {g_down : Int64} {tn_rows : Int32} {tn_columns : Int32} {tn_a : Int32} {tn_b : Int32} {tn_cells : Int64} {tn_right : Int64} {tn_down : Int64} {p1 : Int32} {r : Int32} {tn_rows' : Int32} {tn_columns' : Int32} {tn_a' : Int32} {tn_b' : Int32} {tn_cells' : Int64} {tn_right' : Int64} {tn_down' : Int64} (hf : fX9_same g_rows g_columns g_a g_b g_right g_down tn_rows tn_columns tn_a tn_b tn_cells tn_right tn_down p1 = some (r, tn_rows', tn_columns', tn_a', tn_b', tn_cells', tn_right', tn_down')) : CtI l yX9_same wsX9_same rmX9_same D cy [.ref hw, .int p1] ([oX9 hw sc g tn sl mk sv ro wk su ch hu, oX1 g g_rows g_columns g_a g_b g_cells g_right g_down, oX1 tn tn_rows tn_columns tn_a tn_b tn_cells tn_right tn_down]) ([oX9 hw sc g tn sl mk sv ro wk su ch hu, oX1 g g_rows g_columns g_a g_b g_cells g_right g_down, oX1 tn tn_rows' tn_columns' tn_a' tn_b' tn_cells' tn_right' tn_down']) r := by
  refine CtI.of (cc := cX9_same) (maxL := 2) (ret := some .int) (own := RX9) (by decide) rfl rfl (Nat.le_of_ble_eq_true rfl) ?_
  intro p e s m args below meth c A Q X hQ hK hP hD hS ls hl
  obtain ⟨hx, hb, hml, hown, hts, hr, hlocks, hA, hZ⟩ := id X
  have hl : lv_has ls 2 [(0, .ref hw), (1, .int p1)] := hl
  unfold fX9_same at hf
  have hf := qob_top hf
  refine lv_iload_n hx hb dX9_same_0 rfl (lv_at hl 1 rfl) ?_
  refine lv_if_lt (tgt := 10) hx hb dX9_same_1 (by decide) (fun c1 => ?_) (fun c1 => ?_)
  · have hf := qob_t hf c1
    refine lv_bipush (v := (-2)) hx hb dX9_same_10 (by decide) ?_
    cases qob_ret hf
    exact ct_iret X hQ hK hP hD hS rfl dX9_same_12
  · have hf := qob_f hf c1
    refine lv_iload_n hx hb dX9_same_4 rfl (lv_at hl 1 rfl) ?_
    refine lv_bipush (v := 8) hx hb dX9_same_5 (by decide) ?_
    refine lv_icmp_lt (tgt := 13) hx hb dX9_same_7 (by decide) (fun c2 => ?_) (fun c2 => ?_)
    · have hf := qob_t hf c2
      refine lv_aload_n hx hb dX9_same_13 rfl (lv_at hl 0 rfl) ?_
      refine va_get (D := D) (ci := 9) (v := .ref tn) (C := RX9) (T := TX9) (N := 11) hx hb hts inwX9_same_X9 hown hK hP 0 rfl rfl 2 (by decide) (hts (.fieldLink RX9 23 "HedgeWays" "turned" "LHedgeWays$Grid;") (List.mem_of_getElem? (i := 1) rfl)) (fun _ h9 => h9) rfl dX9_same_14 ?_
      refine lv_aload_n hx hb dX9_same_17 rfl (lv_at hl 0 rfl) ?_
      refine va_get (D := D) (ci := 9) (v := .ref g) (C := RX9) (T := TX9) (N := 11) hx hb hts inwX9_same_X9 hown hK hP 0 rfl rfl 1 (by decide) (hts (.fieldLink RX9 19 "HedgeWays" "grid" "LHedgeWays$Grid;") (List.mem_of_getElem? (i := 2) rfl)) (fun _ h9 => h9) rfl dX9_same_18 ?_
      refine lv_iload_n hx hb dX9_same_21 rfl (lv_at hl 1 rfl) ?_
      obtain ⟨tn_rows_1, tn_columns_1, tn_a_1, tn_b_1, tn_cells_1, tn_right_1, tn_down_1, q3, hf⟩ := qcall7 hf
      refine ctV_v (wc := [oX1 tn tn_rows tn_columns tn_a tn_b tn_cells tn_right tn_down, oX1 g g_rows g_columns g_a g_b g_cells g_right g_down]) (w1 := [oX1 tn tn_rows_1 tn_columns_1 tn_a_1 tn_b_1 tn_cells_1 tn_right_1 tn_down_1, oX1 g g_rows g_columns g_a g_b g_cells g_right g_down]) (wr := [oX9 hw sc g tn sl mk sv ro wk su ch hu]) (wn := [oX9 hw sc g tn sl mk sv ro wk su ch hu, oX1 g g_rows g_columns g_a g_b g_cells g_right g_down, oX1 tn tn_rows_1 tn_columns_1 tn_a_1 tn_b_1 tn_cells_1 tn_right_1 tn_down_1]) (As := [.ref g, .int p1]) (rest := []) (q0 := 2) X hK hP hD hS [2, 1] [0] [0, 2, 1] rfl rfl rfl rfl rfl (by decide) rfl rfl rfl (KX1_turnOf q3 _) (cwV 2 hts gX9_same_X1_turnOf rfl rfl rfl hdX1_turnOf ⟨Nat.le_of_ble_eq_true rfl, Nat.le_of_ble_eq_true rfl⟩) rfl rfl rfl hl rfl (Nat.le_of_ble_eq_true rfl) dX9_same_22 (Nat.zero_le _) (Nat.zero_le _) (fun H locs hP hD hS => ?_)
      refine lv_aload_n hx hb dX9_same_25 rfl (lv_at hl 0 rfl) ?_
      refine va_get (D := D) (ci := 9) (v := .ref tn) (C := RX9) (T := TX9) (N := 11) hx hb hts inwX9_same_X9 hown hK hP 0 rfl rfl 2 (by decide) (hts (.fieldLink RX9 23 "HedgeWays" "turned" "LHedgeWays$Grid;") (List.mem_of_getElem? (i := 1) rfl)) (fun _ h9 => h9) rfl dX9_same_26 ?_
      refine lv_aload_n hx hb dX9_same_29 rfl (lv_at hl 0 rfl) ?_
      refine va_get (D := D) (ci := 9) (v := .ref g) (C := RX9) (T := TX9) (N := 11) hx hb hts inwX9_same_X9 hown hK hP 0 rfl rfl 1 (by decide) (hts (.fieldLink RX9 19 "HedgeWays" "grid" "LHedgeWays$Grid;") (List.mem_of_getElem? (i := 2) rfl)) (fun _ h9 => h9) rfl dX9_same_30 ?_
      refine ctV_i0 (r := (fX1_looksLike tn_rows_1 tn_columns_1 tn_right_1 tn_down_1 g_rows g_columns g_right g_down)) (wc := [oX1 tn tn_rows_1 tn_columns_1 tn_a_1 tn_b_1 tn_cells_1 tn_right_1 tn_down_1, oX1 g g_rows g_columns g_a g_b g_cells g_right g_down]) (As := [.ref g]) (rest := []) (q0 := 2) X hK hP hD hS [2, 1] rfl rfl rfl (KX1_looksLike rfl _) (cwV 1 hts gX9_same_X1_looksLike rfl rfl rfl hdX1_looksLike ⟨Nat.le_of_ble_eq_true rfl, Nat.le_of_ble_eq_true rfl⟩) rfl rfl rfl hl rfl (Nat.le_of_ble_eq_true rfl) dX9_same_33 (Nat.zero_le _) (Nat.zero_le _) (fun H locs hP hS => ?_)
      refine ctS_i0 (r := (fX9_oneIf (fX1_looksLike tn_rows_1 tn_columns_1 tn_right_1 tn_down_1 g_rows g_columns g_right g_down))) (wc := []) (As := [.int (fX1_looksLike tn_rows_1 tn_columns_1 tn_right_1 tn_down_1 g_rows g_columns g_right g_down)]) (rest := []) X hK hP hD hS [] rfl rfl rfl (KX9_oneIf rfl _) (va_cwS 1 hts gX9_same_X9_oneIf rfl rfl rfl hdX9_oneIf ⟨Nat.le_of_ble_eq_true rfl, Nat.le_of_ble_eq_true rfl⟩) rfl hl rfl (Nat.le_of_ble_eq_true rfl) dX9_same_36 (Nat.zero_le _) (Nat.zero_le _) (fun H locs hP hS => ?_)
      cases qob_ret hf
      exact ct_iret X hQ hK hP hD hS rfl dX9_same_39
    · have hf := qob_f hf c2
      refine lv_bipush (v := (-2)) hx hb dX9_same_10 (by decide) ?_
      cases qob_ret hf
      exact ct_iret X hQ hK hP hD hS rfl dX9_same_12
theorem inwX9_turn_X9 : ∀ w ∈ wsX90, w ∈ wsX9_turn := fun _ h => List.mem_cons_of_mem _ (List.mem_append_left _ (List.mem_append_right _ h))
abbrev rmX9_turn : Room := { frames := 4, cells := 0, slots := 0, locals := 96 }
theorem hdX9_turn : yX9_turn.cls = RX9 ∧ yX9_turn.cls ≠ "java/lang/invoke/MethodHandle" ∧ yX9_turn.cls ≠ "java/lang/invoke/VarHandle" ∧ (parseMethodDescriptor yX9_turn.desc).map (fun d => d.parameters.length) = some 1 := by decide +kernel
set_option maxHeartbeats 4000000 in
set_option maxRecDepth 100000 in
theorem KX9_turn {l : Launch} {D : va_G} {cy : Nat → ClassId} {hw sc g tn sl mk sv ro wk su ch hu : Nat} {g_rows : Int32} {g_columns : Int32} {g_a : Int32} {g_b : Int32} {g_cells : Int64} {g_right : Int64} {g_down : Int64} {tn_rows : Int32} {tn_columns : Int32} {tn_a : Int32} {tn_b : Int32} {tn_cells : Int64} {tn_right : Int64} {tn_down : Int64} {p1 : Int32} {r : Int32} {g_rows' : Int32} {g_columns' : Int32} {g_a' : Int32} {g_b' : Int32} {g_cells' : Int64} {g_right' : Int64} {g_down' : Int64} {tn_rows' : Int32} {tn_columns' : Int32} {tn_a' : Int32} {tn_b' : Int32} {tn_cells' : Int64} {tn_right' : Int64} {tn_down' : Int64} (hf : fX9_turn g_rows g_columns g_a g_b g_cells g_right g_down tn_rows tn_columns tn_a tn_b tn_cells tn_right tn_down p1 = some (r, g_rows', g_columns', g_a', g_b', g_cells', g_right', g_down', tn_rows', tn_columns', tn_a', tn_b', tn_cells', tn_right', tn_down')) : CtI l yX9_turn wsX9_turn rmX9_turn D cy [.ref hw, .int p1] ([oX9 hw sc g tn sl mk sv ro wk su ch hu, oX1 g g_rows g_columns g_a g_b g_cells g_right g_down, oX1 tn tn_rows tn_columns tn_a tn_b tn_cells tn_right tn_down]) ([oX9 hw sc g tn sl mk sv ro wk su ch hu, oX1 g g_rows' g_columns' g_a' g_b' g_cells' g_right' g_down', oX1 tn tn_rows' tn_columns' tn_a' tn_b' tn_cells' tn_right' tn_down']) r := by
  refine CtI.of (cc := cX9_turn) (maxL := 3) (ret := some .int) (own := RX9) (by decide) rfl rfl (Nat.le_of_ble_eq_true rfl) ?_
  intro p e s m args below meth c A Q X hQ hK hP hD hS ls hl
  obtain ⟨hx, hb, hml, hown, hts, hr, hlocks, hA, hZ⟩ := id X
  have hl : lv_has ls 3 [(0, .ref hw), (1, .int p1)] := hl
  unfold fX9_turn at hf
  have hf := qob_top hf
  refine lv_iload_n hx hb dX9_turn_0 rfl (lv_at hl 1 rfl) ?_
  refine lv_if_lt (tgt := 10) hx hb dX9_turn_1 (by decide) (fun c1 => ?_) (fun c1 => ?_)
  · have hf := qob_t hf c1
    refine lv_bipush (v := (-2)) hx hb dX9_turn_10 (by decide) ?_
    cases qob_ret hf
    exact ct_iret X hQ hK hP hD hS rfl dX9_turn_12
  · have hf := qob_f hf c1
    refine lv_iload_n hx hb dX9_turn_4 rfl (lv_at hl 1 rfl) ?_
    refine lv_bipush (v := 8) hx hb dX9_turn_5 (by decide) ?_
    refine lv_icmp_lt (tgt := 13) hx hb dX9_turn_7 (by decide) (fun c2 => ?_) (fun c2 => ?_)
    · have hf := qob_t hf c2
      refine lv_aload_n hx hb dX9_turn_13 rfl (lv_at hl 0 rfl) ?_
      refine va_get (D := D) (ci := 9) (v := .ref tn) (C := RX9) (T := TX9) (N := 11) hx hb hts inwX9_turn_X9 hown hK hP 0 rfl rfl 2 (by decide) (hts (.fieldLink RX9 23 "HedgeWays" "turned" "LHedgeWays$Grid;") (List.mem_of_getElem? (i := 1) rfl)) (fun _ h9 => h9) rfl dX9_turn_14 ?_
      refine lv_aload_n hx hb dX9_turn_17 rfl (lv_at hl 0 rfl) ?_
      refine va_get (D := D) (ci := 9) (v := .ref g) (C := RX9) (T := TX9) (N := 11) hx hb hts inwX9_turn_X9 hown hK hP 0 rfl rfl 1 (by decide) (hts (.fieldLink RX9 19 "HedgeWays" "grid" "LHedgeWays$Grid;") (List.mem_of_getElem? (i := 2) rfl)) (fun _ h9 => h9) rfl dX9_turn_18 ?_
      refine lv_iload_n hx hb dX9_turn_21 rfl (lv_at hl 1 rfl) ?_
      obtain ⟨tn_rows_1, tn_columns_1, tn_a_1, tn_b_1, tn_cells_1, tn_right_1, tn_down_1, q3, hf⟩ := qcall7 hf
      refine ctV_v (wc := [oX1 tn tn_rows tn_columns tn_a tn_b tn_cells tn_right tn_down, oX1 g g_rows g_columns g_a g_b g_cells g_right g_down]) (w1 := [oX1 tn tn_rows_1 tn_columns_1 tn_a_1 tn_b_1 tn_cells_1 tn_right_1 tn_down_1, oX1 g g_rows g_columns g_a g_b g_cells g_right g_down]) (wr := [oX9 hw sc g tn sl mk sv ro wk su ch hu]) (wn := [oX9 hw sc g tn sl mk sv ro wk su ch hu, oX1 g g_rows g_columns g_a g_b g_cells g_right g_down, oX1 tn tn_rows_1 tn_columns_1 tn_a_1 tn_b_1 tn_cells_1 tn_right_1 tn_down_1]) (As := [.ref g, .int p1]) (rest := []) (q0 := 2) X hK hP hD hS [2, 1] [0] [0, 2, 1] rfl rfl rfl rfl rfl (by decide) rfl rfl rfl (KX1_turnOf q3 _) (cwV 2 hts gX9_turn_X1_turnOf rfl rfl rfl hdX1_turnOf ⟨Nat.le_of_ble_eq_true rfl, Nat.le_of_ble_eq_true rfl⟩) rfl rfl rfl hl rfl (Nat.le_of_ble_eq_true rfl) dX9_turn_22 (Nat.zero_le _) (Nat.zero_le _) (fun H locs hP hD hS => ?_)
      refine lv_aload_n hx hb dX9_turn_25 rfl (lv_at hl 0 rfl) ?_
      refine va_get (D := D) (ci := 9) (v := .ref tn) (C := RX9) (T := TX9) (N := 11) hx hb hts inwX9_turn_X9 hown hK hP 0 rfl rfl 2 (by decide) (hts (.fieldLink RX9 23 "HedgeWays" "turned" "LHedgeWays$Grid;") (List.mem_of_getElem? (i := 1) rfl)) (fun _ h9 => h9) rfl dX9_turn_26 ?_
      refine lv_aload_n hx hb dX9_turn_29 rfl (lv_at hl 0 rfl) ?_
      refine va_get (D := D) (ci := 9) (v := .ref g) (C := RX9) (T := TX9) (N := 11) hx hb hts inwX9_turn_X9 hown hK hP 0 rfl rfl 1 (by decide) (hts (.fieldLink RX9 19 "HedgeWays" "grid" "LHedgeWays$Grid;") (List.mem_of_getElem? (i := 2) rfl)) (fun _ h9 => h9) rfl dX9_turn_30 ?_
      refine ctV_i0 (r := (fX1_looksLike tn_rows_1 tn_columns_1 tn_right_1 tn_down_1 g_rows g_columns g_right g_down)) (wc := [oX1 tn tn_rows_1 tn_columns_1 tn_a_1 tn_b_1 tn_cells_1 tn_right_1 tn_down_1, oX1 g g_rows g_columns g_a g_b g_cells g_right g_down]) (As := [.ref g]) (rest := []) (q0 := 2) X hK hP hD hS [2, 1] rfl rfl rfl (KX1_looksLike rfl _) (cwV 1 hts gX9_turn_X1_looksLike rfl rfl rfl hdX1_looksLike ⟨Nat.le_of_ble_eq_true rfl, Nat.le_of_ble_eq_true rfl⟩) rfl rfl rfl hl rfl (Nat.le_of_ble_eq_true rfl) dX9_turn_33 (Nat.zero_le _) (Nat.zero_le _) (fun H locs hP hS => ?_)
      refine qjoin1 hf (fun (s_1 : Int32) => ∀ (H : Heap) (locs : List Loc) (ls : Array Slot), ctW D A s ([oX9 hw sc g tn sl mk sv ro wk su ch hu, oX1 g g_rows g_columns g_a g_b g_cells g_right g_down, oX1 tn tn_rows_1 tn_columns_1 tn_a_1 tn_b_1 tn_cells_1 tn_right_1 tn_down_1]) H locs → lv_has ls 3 [(0, .ref hw)] → W p l e rmX9_turn s m args below meth c H locs 0 0 Q (F0 m 44 ls [.int s_1])) ?_ ?_
      · intro s_1 hf H locs ls ⟨hP, hD, hS⟩ hl
        refine ctS_i0 (r := (fX9_oneIf s_1)) (wc := []) (As := [.int s_1]) (rest := []) X hK hP hD hS [] rfl rfl rfl (KX9_oneIf rfl _) (va_cwS 1 hts gX9_turn_X9_oneIf rfl rfl rfl hdX9_oneIf ⟨Nat.le_of_ble_eq_true rfl, Nat.le_of_ble_eq_true rfl⟩) rfl hl rfl (Nat.le_of_ble_eq_true rfl) dX9_turn_44 (Nat.zero_le _) (Nat.zero_le _) (fun H locs hP hS => ?_)
        refine lv_istore_n (lv' := [(2, .int (fX9_oneIf s_1)), (0, .ref hw)]) hx hb dX9_turn_47 rfl hl (by decide) rfl (fun ls hl => ?_)
        refine lv_aload_n hx hb dX9_turn_48 rfl (lv_at hl 1 rfl) ?_
        refine va_get (D := D) (ci := 9) (v := .ref g) (C := RX9) (T := TX9) (N := 11) hx hb hts inwX9_turn_X9 hown hK hP 0 rfl rfl 1 (by decide) (hts (.fieldLink RX9 19 "HedgeWays" "grid" "LHedgeWays$Grid;") (List.mem_of_getElem? (i := 2) rfl)) (fun _ h9 => h9) rfl dX9_turn_49 ?_
        refine lv_aload_n hx hb dX9_turn_52 rfl (lv_at hl 1 rfl) ?_
        refine va_get (D := D) (ci := 9) (v := .ref tn) (C := RX9) (T := TX9) (N := 11) hx hb hts inwX9_turn_X9 hown hK hP 0 rfl rfl 2 (by decide) (hts (.fieldLink RX9 23 "HedgeWays" "turned" "LHedgeWays$Grid;") (List.mem_of_getElem? (i := 1) rfl)) (fun _ h9 => h9) rfl dX9_turn_53 ?_
        obtain ⟨g_rows_1, g_columns_1, g_a_1, g_b_1, g_cells_1, g_right_1, g_down_1, q4, hf⟩ := qcallT7 hf
        refine ctV_v (wc := [oX1 g g_rows g_columns g_a g_b g_cells g_right g_down, oX1 tn tn_rows_1 tn_columns_1 tn_a_1 tn_b_1 tn_cells_1 tn_right_1 tn_down_1]) (w1 := [oX1 g g_rows_1 g_columns_1 g_a_1 g_b_1 g_cells_1 g_right_1 g_down_1, oX1 tn tn_rows_1 tn_columns_1 tn_a_1 tn_b_1 tn_cells_1 tn_right_1 tn_down_1]) (wr := [oX9 hw sc g tn sl mk sv ro wk su ch hu]) (wn := [oX9 hw sc g tn sl mk sv ro wk su ch hu, oX1 g g_rows_1 g_columns_1 g_a_1 g_b_1 g_cells_1 g_right_1 g_down_1, oX1 tn tn_rows_1 tn_columns_1 tn_a_1 tn_b_1 tn_cells_1 tn_right_1 tn_down_1]) (As := [.ref tn]) (rest := []) (q0 := 1) X hK hP hD hS [1, 2] [0] [0, 1, 2] rfl rfl rfl rfl rfl (by decide) rfl rfl rfl (KX1_copyFrom q4 _) (cwV 1 hts gX9_turn_X1_copyFrom rfl rfl rfl hdX1_copyFrom ⟨Nat.le_of_ble_eq_true rfl, Nat.le_of_ble_eq_true rfl⟩) rfl rfl rfl hl rfl (Nat.le_of_ble_eq_true rfl) dX9_turn_56 (Nat.zero_le _) (Nat.zero_le _) (fun H locs hP hD hS => ?_)
        refine lv_iload_n hx hb dX9_turn_59 rfl (lv_at hl 0 rfl) ?_
        cases qob_ret hf
        exact ct_iret X hQ hK hP hD hS rfl dX9_turn_60
      · intro J5 hJ5 hf
        refine lv_if_ne (tgt := 43) hx hb dX9_turn_36 (by decide) (fun c6 => ?_) (fun c6 => ?_)
        · have hf := qob_f hf c6
          refine lv_iconst (v := 0) hx hb dX9_turn_43 (by decide) ?_
          exact hJ5 0 hf _ _ _ ⟨hP, hD, hS⟩ (lv_sub hl [0] rfl)
        · have hf := qob_t hf c6
          refine lv_iconst (v := 1) hx hb dX9_turn_39 (by decide) ?_
          refine lv_goto (tgt := 44) hx hb dX9_turn_40 (by decide) ?_
          exact hJ5 1 hf _ _ _ ⟨hP, hD, hS⟩ (lv_sub hl [0] rfl)
    · have hf := qob_f hf c2
      refine lv_bipush (v := (-2)) hx hb dX9_turn_10 (by decide) ?_
      cases qob_ret hf
      exact ct_iret X hQ hK hP hD hS rfl dX9_turn_12
abbrev rmX9_isSlot : Room := { frames := 0, cells := 0, slots := 0, locals := 0 }
theorem hdX9_isSlot : yX9_isSlot.cls ≠ "java/lang/invoke/MethodHandle" ∧ yX9_isSlot.cls ≠ "java/lang/invoke/VarHandle" ∧ (parseMethodDescriptor yX9_isSlot.desc).map (fun d => d.parameters.length) = some 1 := by decide +kernel
set_option maxHeartbeats 4000000 in
set_option maxRecDepth 100000 in
theorem KX9_isSlot {l : Launch} {D : va_G} {cy : Nat → ClassId}  {p1 : Int32} {r : Int32} (hf : fX9_isSlot p1 = r) : CtI l yX9_isSlot wsX9_isSlot rmX9_isSlot D cy [.int p1] ([]) ([]) r := by
  refine CtI.of (cc := cX9_isSlot) (maxL := 1) (ret := some .boolean) (own := RX9) (by decide) rfl rfl (Nat.le_of_ble_eq_true rfl) ?_
  intro p e s m args below meth c A Q X hQ hK hP hD hS ls hl
  obtain ⟨hx, hb, hml, hown, hts, hr, hlocks, hA, hZ⟩ := id X
  have hl : lv_has ls 1 [(0, .int p1)] := hl
  unfold fX9_isSlot at hf
  have hf := qbb_top hf
  refine lv_iload_n hx hb dX9_isSlot_0 rfl (lv_at hl 0 rfl) ?_
  refine lv_if_lt (tgt := 13) hx hb dX9_isSlot_1 (by decide) (fun c1 => ?_) (fun c1 => ?_)
  · have hf := qbb_t hf c1
    refine lv_iconst (v := 0) hx hb dX9_isSlot_13 (by decide) ?_
    cases qbb_ret hf
    exact ct_zret X hQ hK hP hD hS qnb0 dX9_isSlot_14
  · have hf := qbb_f hf c1
    refine lv_iload_n hx hb dX9_isSlot_4 rfl (lv_at hl 0 rfl) ?_
    refine lv_iconst (v := 2) hx hb dX9_isSlot_5 (by decide) ?_
    refine lv_icmp_ge (tgt := 13) hx hb dX9_isSlot_6 (by decide) (fun c2 => ?_) (fun c2 => ?_)
    · have hf := qbb_t hf c2
      refine lv_iconst (v := 0) hx hb dX9_isSlot_13 (by decide) ?_
      cases qbb_ret hf
      exact ct_zret X hQ hK hP hD hS qnb0 dX9_isSlot_14
    · have hf := qbb_f hf c2
      refine lv_iconst (v := 1) hx hb dX9_isSlot_9 (by decide) ?_
      refine lv_goto (tgt := 14) hx hb dX9_isSlot_10 (by decide) ?_
      cases qbb_ret hf
      exact ct_zret X hQ hK hP hD hS qnb1 dX9_isSlot_14

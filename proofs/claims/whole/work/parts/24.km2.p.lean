theorem inwX10_part_X10 : ∀ w ∈ wsX100, w ∈ wsX10_part := fun _ h => List.mem_cons_of_mem _ (List.mem_append_right _ h)
abbrev rmX10_part : Room := { frames := 5, cells := 0, slots := 0, locals := 121 }
theorem hdX10_part : yX10_part.cls = RX10 ∧ yX10_part.cls ≠ "java/lang/invoke/MethodHandle" ∧ yX10_part.cls ≠ "java/lang/invoke/VarHandle" ∧ (parseMethodDescriptor yX10_part.desc).map (fun d => d.parameters.length) = some 1 := by decide +kernel
set_option maxHeartbeats 4000000 in
set_option maxRecDepth 100000 in
theorem KX10_part {l : Launch} {D : va_G} {cy : Nat → ClassId} {mo : Nat} {ma : Nat → Nat} {m_thrown : Int32} {m_textSize : Int32} {m_rows : Int32} {m_columns : Int32} {m_a : Int32} {m_b : Int32} {m_readRows : Int32} {m_readColumns : Int32} {m_at : Int32} {m_looks : Int32} {m_came : Int32} {m_draw : Int64} {m_turnedRows : Int32} {m_turnedColumns : Int32} {m_right : Nat → Int32} {m_down : Nat → Int32} {m_dist : Nat → Int32} {m_queue : Nat → Int32} {m_shut : Nat → Int32} {m_parts : Nat → Int32} {p1 : Int32} {r : Int32} {m_thrown' : Int32} {m_dist' : Nat → Int32} {m_queue' : Nat → Int32} {m_parts' : Nat → Int32} (hf : fX10_part m_thrown m_rows m_columns m_right m_down m_dist m_queue m_shut m_parts p1 = some (r, m_thrown', m_dist', m_queue', m_parts')) : CtI l yX10_part wsX10_part rmX10_part D cy [.ref mo, .int p1] ([oX10 mo ma m_thrown m_textSize m_rows m_columns m_a m_b m_readRows m_readColumns m_at m_looks m_came m_draw m_turnedRows m_turnedColumns, aZ cy (ma 1) 36 m_right, aZ cy (ma 2) 36 m_down, aI cy (ma 7) 36 m_dist, aI cy (ma 8) 36 m_queue, aZ cy (ma 10) 36 m_shut, aI cy (ma 11) 36 m_parts]) ([oX10 mo ma m_thrown' m_textSize m_rows m_columns m_a m_b m_readRows m_readColumns m_at m_looks m_came m_draw m_turnedRows m_turnedColumns, aZ cy (ma 1) 36 m_right, aZ cy (ma 2) 36 m_down, aI cy (ma 7) 36 m_dist', aI cy (ma 8) 36 m_queue', aZ cy (ma 10) 36 m_shut, aI cy (ma 11) 36 m_parts']) r := by
  refine CtI.of (cc := cX10_part) (maxL := 2) (ret := some .int) (own := RX10) (by decide) rfl rfl (Nat.le_of_ble_eq_true rfl) ?_
  intro p e s m args below meth c A Q X hQ hK hP hD hS ls hl
  obtain ⟨hx, hb, hml, hown, hts, hr, hlocks, hA, hZ⟩ := id X
  have hl : lv_has ls 2 [(0, .ref mo), (1, .int p1)] := hl
  unfold fX10_part at hf
  have hf := qob_top hf
  refine lv_aload_n hx hb dX10_part_0 rfl (lv_at hl 0 rfl) ?_
  refine lv_iconst (v := 0) hx hb dX10_part_1 (by decide) ?_
  refine va_put (D := D) (ci := 10) (v := .int 0) (ty := .int) (C := RX10) (T := TX10) (N := 34) hx hb hts inwX10_part_X10 tyX10 tyX10_ok nmX10 hown hK hP hD hS 0 rfl rfl 0 (by decide) (hts (.fieldLink RX10 79 "HedgeWaysModel" "thrown" "I") (List.mem_of_getElem? (i := 1) rfl)) (fun _ h9 => h9) rfl (tyX10_ok 0 (by decide)) rfl rfl (Nat.le_of_ble_eq_true rfl) dX10_part_2 (fun H locs hP hD hS => ?_)
  have hP : va_P D vwCl ([oX10 mo ma 0 m_textSize m_rows m_columns m_a m_b m_readRows m_readColumns m_at m_looks m_came m_draw m_turnedRows m_turnedColumns, aZ cy (ma 1) 36 m_right, aZ cy (ma 2) 36 m_down, aI cy (ma 7) 36 m_dist, aI cy (ma 8) 36 m_queue, aZ cy (ma 10) 36 m_shut, aI cy (ma 11) 36 m_parts]) H := hP
  have hD : va_D A ([oX10 mo ma 0 m_textSize m_rows m_columns m_a m_b m_readRows m_readColumns m_at m_looks m_came m_draw m_turnedRows m_turnedColumns, aZ cy (ma 1) 36 m_right, aZ cy (ma 2) 36 m_down, aI cy (ma 7) 36 m_dist, aI cy (ma 8) 36 m_queue, aZ cy (ma 10) 36 m_shut, aI cy (ma 11) 36 m_parts]) := hD
  refine lv_aload_n hx hb dX10_part_5 rfl (lv_at hl 0 rfl) ?_
  refine lv_iload_n hx hb dX10_part_6 rfl (lv_at hl 1 rfl) ?_
  refine ctV_i0 (r := (fX10_isCell m_rows m_columns p1)) (wc := [oX10 mo ma 0 m_textSize m_rows m_columns m_a m_b m_readRows m_readColumns m_at m_looks m_came m_draw m_turnedRows m_turnedColumns]) (As := [.int p1]) (rest := []) (q0 := 0) X hK hP hD hS [0] rfl rfl rfl (KX10_isCell rfl _) (cwV 1 hts gX10_part_X10_isCell rfl rfl rfl hdX10_isCell ⟨Nat.le_of_ble_eq_true rfl, Nat.le_of_ble_eq_true rfl⟩) rfl rfl rfl hl rfl (Nat.le_of_ble_eq_true rfl) dX10_part_7 (Nat.zero_le _) (Nat.zero_le _) (fun H locs hP hS => ?_)
  refine lv_if_ne (tgt := 15) hx hb dX10_part_10 (by decide) (fun c1 => ?_) (fun c1 => ?_)
  · have hf := qob_f hf c1
    refine lv_aload_n hx hb dX10_part_15 rfl (lv_at hl 0 rfl) ?_
    obtain ⟨r_1, m_dist_1, m_queue_1, m_parts_1, q2, hf⟩ := qcall4 hf
    refine ctV_i (r := r_1) (wc := [oX10 mo ma 0 m_textSize m_rows m_columns m_a m_b m_readRows m_readColumns m_at m_looks m_came m_draw m_turnedRows m_turnedColumns, aZ cy (ma 1) 36 m_right, aZ cy (ma 2) 36 m_down, aI cy (ma 7) 36 m_dist, aI cy (ma 8) 36 m_queue, aZ cy (ma 10) 36 m_shut, aI cy (ma 11) 36 m_parts]) (w1 := [oX10 mo ma 0 m_textSize m_rows m_columns m_a m_b m_readRows m_readColumns m_at m_looks m_came m_draw m_turnedRows m_turnedColumns, aZ cy (ma 1) 36 m_right, aZ cy (ma 2) 36 m_down, aI cy (ma 7) 36 m_dist_1, aI cy (ma 8) 36 m_queue_1, aZ cy (ma 10) 36 m_shut, aI cy (ma 11) 36 m_parts_1]) (wr := []) (wn := [oX10 mo ma 0 m_textSize m_rows m_columns m_a m_b m_readRows m_readColumns m_at m_looks m_came m_draw m_turnedRows m_turnedColumns, aZ cy (ma 1) 36 m_right, aZ cy (ma 2) 36 m_down, aI cy (ma 7) 36 m_dist_1, aI cy (ma 8) 36 m_queue_1, aZ cy (ma 10) 36 m_shut, aI cy (ma 11) 36 m_parts_1]) (As := []) (rest := []) (q0 := 0) X hK hP hD hS [0, 1, 2, 3, 4, 5, 6] [] [0, 1, 2, 3, 4, 5, 6] rfl rfl rfl rfl rfl (by decide) rfl rfl rfl (KX10_layParts q2 _) (cwV 0 hts gX10_part_X10_layParts rfl rfl rfl hdX10_layParts ⟨Nat.le_of_ble_eq_true rfl, Nat.le_of_ble_eq_true rfl⟩) rfl rfl rfl hl rfl (Nat.le_of_ble_eq_true rfl) dX10_part_16 (Nat.zero_le _) (Nat.zero_le _) (fun H locs hP hD hS => ?_)
    refine lv_pop hx hb dX10_part_19 rfl ?_
    refine lv_aload_n hx hb dX10_part_20 rfl (lv_at hl 0 rfl) ?_
    refine va_get (D := D) (ci := 10) (v := .ref (ma 11)) (C := RX10) (T := TX10) (N := 34) hx hb hts inwX10_part_X10 hown hK hP 0 rfl rfl 19 (by decide) (hts (.fieldLink RX10 52 "HedgeWaysModel" "parts" "[I") (List.mem_of_getElem? (i := 2) rfl)) (fun _ h9 => h9) rfl dX10_part_21 ?_
    refine lv_iload_n hx hb dX10_part_24 rfl (lv_at hl 1 rfl) ?_
    refine ctS_i0 (r := (fX10_index p1)) (wc := []) (As := [.int p1]) (rest := [.ref (ma 11)]) X hK hP hD hS [] rfl rfl rfl (KX10_index rfl _) (va_cwS 1 hts gX10_part_X10_index rfl rfl rfl hdX10_index ⟨Nat.le_of_ble_eq_true rfl, Nat.le_of_ble_eq_true rfl⟩) rfl hl rfl (Nat.le_of_ble_eq_true rfl) dX10_part_25 (Nat.zero_le _) (Nat.zero_le _) (fun H locs hP hS => ?_)
    obtain ⟨i3, hf⟩ := qob_gd hf
    refine va_iald hx hb hK hP 6 0 rfl rfl i3 dX10_part_28 ?_
    refine ctS_i0 (r := (fX10_code (m_parts_1 ((fX10_index p1)).toNatClampNeg))) (wc := []) (As := [.int (m_parts_1 ((fX10_index p1)).toNatClampNeg)]) (rest := []) X hK hP hD hS [] rfl rfl rfl (KX10_code rfl _) (va_cwS 1 hts gX10_part_X10_code rfl rfl rfl hdX10_code ⟨Nat.le_of_ble_eq_true rfl, Nat.le_of_ble_eq_true rfl⟩) rfl hl rfl (Nat.le_of_ble_eq_true rfl) dX10_part_29 (Nat.zero_le _) (Nat.zero_le _) (fun H locs hP hS => ?_)
    cases qob_ret hf
    exact ct_iret X hQ hK hP hD hS rfl dX10_part_32
  · have hf := qob_t hf c1
    refine lv_iconst (v := (-1)) hx hb dX10_part_13 (by decide) ?_
    cases qob_ret hf
    exact ct_iret X hQ hK hP hD hS rfl dX10_part_14
theorem inwX10_bridge_X10 : ∀ w ∈ wsX100, w ∈ wsX10_bridge := fun _ h => List.mem_cons_of_mem _ (List.mem_append_right _ h)
abbrev rmX10_bridge : Room := { frames := 5, cells := 0, slots := 0, locals := 121 }
theorem hdX10_bridge : yX10_bridge.cls = RX10 ∧ yX10_bridge.cls ≠ "java/lang/invoke/MethodHandle" ∧ yX10_bridge.cls ≠ "java/lang/invoke/VarHandle" ∧ (parseMethodDescriptor yX10_bridge.desc).map (fun d => d.parameters.length) = some 2 := by decide +kernel
set_option maxHeartbeats 4000000 in
set_option maxRecDepth 100000 in
theorem KX10_bridge {l : Launch} {D : va_G} {cy : Nat → ClassId} {mo : Nat} {ma : Nat → Nat} {m_thrown : Int32} {m_textSize : Int32} {m_rows : Int32} {m_columns : Int32} {m_a : Int32} {m_b : Int32} {m_readRows : Int32} {m_readColumns : Int32} {m_at : Int32} {m_looks : Int32} {m_came : Int32} {m_draw : Int64} {m_turnedRows : Int32} {m_turnedColumns : Int32} {m_right : Nat → Int32} {m_down : Nat → Int32} {m_dist : Nat → Int32} {m_queue : Nat → Int32} {m_shut : Nat → Int32} {p1 : Int32} {p2 : Int32} {r : Int32} {m_thrown' : Int32} {m_right' : Nat → Int32} {m_down' : Nat → Int32} {m_dist' : Nat → Int32} {m_queue' : Nat → Int32} (hf : fX10_bridge m_thrown m_rows m_columns m_right m_down m_dist m_queue m_shut p1 p2 = some (r, m_thrown', m_right', m_down', m_dist', m_queue')) : CtI l yX10_bridge wsX10_bridge rmX10_bridge D cy [.ref mo, .int p1, .int p2] ([oX10 mo ma m_thrown m_textSize m_rows m_columns m_a m_b m_readRows m_readColumns m_at m_looks m_came m_draw m_turnedRows m_turnedColumns, aZ cy (ma 1) 36 m_right, aZ cy (ma 2) 36 m_down, aI cy (ma 7) 36 m_dist, aI cy (ma 8) 36 m_queue, aZ cy (ma 10) 36 m_shut]) ([oX10 mo ma m_thrown' m_textSize m_rows m_columns m_a m_b m_readRows m_readColumns m_at m_looks m_came m_draw m_turnedRows m_turnedColumns, aZ cy (ma 1) 36 m_right', aZ cy (ma 2) 36 m_down', aI cy (ma 7) 36 m_dist', aI cy (ma 8) 36 m_queue', aZ cy (ma 10) 36 m_shut]) r := by
  refine CtI.of (cc := cX10_bridge) (maxL := 3) (ret := some .int) (own := RX10) (by decide) rfl rfl (Nat.le_of_ble_eq_true rfl) ?_
  intro p e s m args below meth c A Q X hQ hK hP hD hS ls hl
  obtain ⟨hx, hb, hml, hown, hts, hr, hlocks, hA, hZ⟩ := id X
  have hl : lv_has ls 3 [(0, .ref mo), (1, .int p1), (2, .int p2)] := hl
  unfold fX10_bridge at hf
  have hf := qob_top hf
  refine lv_aload_n hx hb dX10_bridge_0 rfl (lv_at hl 0 rfl) ?_
  refine lv_iconst (v := 0) hx hb dX10_bridge_1 (by decide) ?_
  refine va_put (D := D) (ci := 10) (v := .int 0) (ty := .int) (C := RX10) (T := TX10) (N := 34) hx hb hts inwX10_bridge_X10 tyX10 tyX10_ok nmX10 hown hK hP hD hS 0 rfl rfl 0 (by decide) (hts (.fieldLink RX10 79 "HedgeWaysModel" "thrown" "I") (List.mem_of_getElem? (i := 1) rfl)) (fun _ h9 => h9) rfl (tyX10_ok 0 (by decide)) rfl rfl (Nat.le_of_ble_eq_true rfl) dX10_bridge_2 (fun H locs hP hD hS => ?_)
  have hP : va_P D vwCl ([oX10 mo ma 0 m_textSize m_rows m_columns m_a m_b m_readRows m_readColumns m_at m_looks m_came m_draw m_turnedRows m_turnedColumns, aZ cy (ma 1) 36 m_right, aZ cy (ma 2) 36 m_down, aI cy (ma 7) 36 m_dist, aI cy (ma 8) 36 m_queue, aZ cy (ma 10) 36 m_shut]) H := hP
  have hD : va_D A ([oX10 mo ma 0 m_textSize m_rows m_columns m_a m_b m_readRows m_readColumns m_at m_looks m_came m_draw m_turnedRows m_turnedColumns, aZ cy (ma 1) 36 m_right, aZ cy (ma 2) 36 m_down, aI cy (ma 7) 36 m_dist, aI cy (ma 8) 36 m_queue, aZ cy (ma 10) 36 m_shut]) := hD
  refine lv_aload_n hx hb dX10_bridge_5 rfl (lv_at hl 0 rfl) ?_
  refine lv_iload_n hx hb dX10_bridge_6 rfl (lv_at hl 1 rfl) ?_
  refine ctV_i0 (r := (fX10_isCell m_rows m_columns p1)) (wc := [oX10 mo ma 0 m_textSize m_rows m_columns m_a m_b m_readRows m_readColumns m_at m_looks m_came m_draw m_turnedRows m_turnedColumns]) (As := [.int p1]) (rest := []) (q0 := 0) X hK hP hD hS [0] rfl rfl rfl (KX10_isCell rfl _) (cwV 1 hts gX10_bridge_X10_isCell rfl rfl rfl hdX10_isCell ⟨Nat.le_of_ble_eq_true rfl, Nat.le_of_ble_eq_true rfl⟩) rfl rfl rfl hl rfl (Nat.le_of_ble_eq_true rfl) dX10_bridge_7 (Nat.zero_le _) (Nat.zero_le _) (fun H locs hP hS => ?_)
  refine lv_if_eq (tgt := 20) hx hb dX10_bridge_10 (by decide) (fun c1 => ?_) (fun c1 => ?_)
  · have hf := qob_t hf c1
    refine lv_iconst (v := (-1)) hx hb dX10_bridge_20 (by decide) ?_
    cases qob_ret hf
    exact ct_iret X hQ hK hP hD hS rfl dX10_bridge_21
  · have hf := qob_f hf c1
    refine lv_iload_n hx hb dX10_bridge_13 rfl (lv_at hl 2 rfl) ?_
    refine ctS_i0 (r := (fX10_isSide p2)) (wc := []) (As := [.int p2]) (rest := []) X hK hP hD hS [] rfl rfl rfl (KX10_isSide rfl _) (va_cwS 1 hts gX10_bridge_X10_isSide rfl rfl rfl hdX10_isSide ⟨Nat.le_of_ble_eq_true rfl, Nat.le_of_ble_eq_true rfl⟩) rfl hl rfl (Nat.le_of_ble_eq_true rfl) dX10_bridge_14 (Nat.zero_le _) (Nat.zero_le _) (fun H locs hP hS => ?_)
    refine lv_if_ne (tgt := 22) hx hb dX10_bridge_17 (by decide) (fun c2 => ?_) (fun c2 => ?_)
    · have hf := qob_f hf c2
      refine lv_aload_n hx hb dX10_bridge_22 rfl (lv_at hl 0 rfl) ?_
      refine lv_iload_n hx hb dX10_bridge_23 rfl (lv_at hl 1 rfl) ?_
      refine ctS_i0 (r := (fX10_index p1)) (wc := []) (As := [.int p1]) (rest := [.ref mo]) X hK hP hD hS [] rfl rfl rfl (KX10_index rfl _) (va_cwS 1 hts gX10_bridge_X10_index rfl rfl rfl hdX10_index ⟨Nat.le_of_ble_eq_true rfl, Nat.le_of_ble_eq_true rfl⟩) rfl hl rfl (Nat.le_of_ble_eq_true rfl) dX10_bridge_24 (Nat.zero_le _) (Nat.zero_le _) (fun H locs hP hS => ?_)
      refine lv_iload_n hx hb dX10_bridge_27 rfl (lv_at hl 2 rfl) ?_
      obtain ⟨r_1, q3, hf⟩ := qcall1 hf
      refine ctV_i0 (r := r_1) (wc := [oX10 mo ma 0 m_textSize m_rows m_columns m_a m_b m_readRows m_readColumns m_at m_looks m_came m_draw m_turnedRows m_turnedColumns, aZ cy (ma 1) 36 m_right, aZ cy (ma 2) 36 m_down]) (As := [.int (fX10_index p1), .int p2]) (rest := []) (q0 := 0) X hK hP hD hS [0, 1, 2] rfl rfl rfl (KX10_isOpen q3 _) (cwV 2 hts gX10_bridge_X10_isOpen rfl rfl rfl hdX10_isOpen ⟨Nat.le_of_ble_eq_true rfl, Nat.le_of_ble_eq_true rfl⟩) rfl rfl rfl hl rfl (Nat.le_of_ble_eq_true rfl) dX10_bridge_28 (Nat.zero_le _) (Nat.zero_le _) (fun H locs hP hS => ?_)
      refine lv_if_ne (tgt := 37) hx hb dX10_bridge_31 (by decide) (fun c4 => ?_) (fun c4 => ?_)
      · have hf := qob_f hf c4
        refine lv_aload_n hx hb dX10_bridge_37 rfl (lv_at hl 0 rfl) ?_
        refine lv_iload_n hx hb dX10_bridge_38 rfl (lv_at hl 1 rfl) ?_
        refine ctS_i0 (r := (fX10_index p1)) (wc := []) (As := [.int p1]) (rest := [.ref mo]) X hK hP hD hS [] rfl rfl rfl (KX10_index rfl _) (va_cwS 1 hts gX10_bridge_X10_index rfl rfl rfl hdX10_index ⟨Nat.le_of_ble_eq_true rfl, Nat.le_of_ble_eq_true rfl⟩) rfl hl rfl (Nat.le_of_ble_eq_true rfl) dX10_bridge_39 (Nat.zero_le _) (Nat.zero_le _) (fun H locs hP hS => ?_)
        refine lv_iload_n hx hb dX10_bridge_42 rfl (lv_at hl 2 rfl) ?_
        obtain ⟨r_2, m_right_1, m_down_1, m_dist_1, m_queue_1, q5, hf⟩ := qcall5 hf
        refine ctV_i (r := r_2) (wc := [oX10 mo ma 0 m_textSize m_rows m_columns m_a m_b m_readRows m_readColumns m_at m_looks m_came m_draw m_turnedRows m_turnedColumns, aZ cy (ma 1) 36 m_right, aZ cy (ma 2) 36 m_down, aI cy (ma 7) 36 m_dist, aI cy (ma 8) 36 m_queue, aZ cy (ma 10) 36 m_shut]) (w1 := [oX10 mo ma 0 m_textSize m_rows m_columns m_a m_b m_readRows m_readColumns m_at m_looks m_came m_draw m_turnedRows m_turnedColumns, aZ cy (ma 1) 36 m_right_1, aZ cy (ma 2) 36 m_down_1, aI cy (ma 7) 36 m_dist_1, aI cy (ma 8) 36 m_queue_1, aZ cy (ma 10) 36 m_shut]) (wr := []) (wn := [oX10 mo ma 0 m_textSize m_rows m_columns m_a m_b m_readRows m_readColumns m_at m_looks m_came m_draw m_turnedRows m_turnedColumns, aZ cy (ma 1) 36 m_right_1, aZ cy (ma 2) 36 m_down_1, aI cy (ma 7) 36 m_dist_1, aI cy (ma 8) 36 m_queue_1, aZ cy (ma 10) 36 m_shut]) (As := [.int (fX10_index p1), .int p2]) (rest := []) (q0 := 0) X hK hP hD hS [0, 1, 2, 3, 4, 5] [] [0, 1, 2, 3, 4, 5] rfl rfl rfl rfl rfl (by decide) rfl rfl rfl (KX10_isBridge q5 _) (cwV 2 hts gX10_bridge_X10_isBridge rfl rfl rfl hdX10_isBridge ⟨Nat.le_of_ble_eq_true rfl, Nat.le_of_ble_eq_true rfl⟩) rfl rfl rfl hl rfl (Nat.le_of_ble_eq_true rfl) dX10_bridge_43 (Nat.zero_le _) (Nat.zero_le _) (fun H locs hP hD hS => ?_)
        refine lv_if_eq (tgt := 53) hx hb dX10_bridge_46 (by decide) (fun c6 => ?_) (fun c6 => ?_)
        · have hf := qob_t hf c6
          refine lv_iconst (v := 0) hx hb dX10_bridge_53 (by decide) ?_
          cases qob_ret hf
          exact ct_iret X hQ hK hP hD hS rfl dX10_bridge_54
        · have hf := qob_f hf c6
          refine lv_iconst (v := 1) hx hb dX10_bridge_49 (by decide) ?_
          refine lv_goto (tgt := 54) hx hb dX10_bridge_50 (by decide) ?_
          cases qob_ret hf
          exact ct_iret X hQ hK hP hD hS rfl dX10_bridge_54
      · have hf := qob_t hf c4
        refine lv_bipush (v := (-3)) hx hb dX10_bridge_34 (by decide) ?_
        cases qob_ret hf
        exact ct_iret X hQ hK hP hD hS rfl dX10_bridge_36
    · have hf := qob_t hf c2
      refine lv_iconst (v := (-1)) hx hb dX10_bridge_20 (by decide) ?_
      cases qob_ret hf
      exact ct_iret X hQ hK hP hD hS rfl dX10_bridge_21
theorem inwX10_must_X10 : ∀ w ∈ wsX100, w ∈ wsX10_must := fun _ h => List.mem_cons_of_mem _ (List.mem_append_right _ h)
abbrev rmX10_must : Room := { frames := 6, cells := 0, slots := 0, locals := 142 }
theorem hdX10_must : yX10_must.cls = RX10 ∧ yX10_must.cls ≠ "java/lang/invoke/MethodHandle" ∧ yX10_must.cls ≠ "java/lang/invoke/VarHandle" ∧ (parseMethodDescriptor yX10_must.desc).map (fun d => d.parameters.length) = some 1 := by decide +kernel
set_option maxHeartbeats 4000000 in
set_option maxRecDepth 100000 in
theorem KX10_must {l : Launch} {D : va_G} {cy : Nat → ClassId} {mo : Nat} {ma : Nat → Nat} {m_thrown : Int32} {m_textSize : Int32} {m_rows : Int32} {m_columns : Int32} {m_a : Int32} {m_b : Int32} {m_readRows : Int32} {m_readColumns : Int32} {m_at : Int32} {m_looks : Int32} {m_came : Int32} {m_draw : Int64} {m_turnedRows : Int32} {m_turnedColumns : Int32} {m_right : Nat → Int32} {m_down : Nat → Int32} {m_dist : Nat → Int32} {m_queue : Nat → Int32} {m_shut : Nat → Int32} {p1 : Int32} {r : Int32} {m_thrown' : Int32} {m_dist' : Nat → Int32} {m_queue' : Nat → Int32} {m_shut' : Nat → Int32} (hf : fX10_must m_thrown m_rows m_columns m_a m_b m_right m_down m_dist m_queue m_shut p1 = some (r, m_thrown', m_dist', m_queue', m_shut')) : CtI l yX10_must wsX10_must rmX10_must D cy [.ref mo, .int p1] ([oX10 mo ma m_thrown m_textSize m_rows m_columns m_a m_b m_readRows m_readColumns m_at m_looks m_came m_draw m_turnedRows m_turnedColumns, aZ cy (ma 1) 36 m_right, aZ cy (ma 2) 36 m_down, aI cy (ma 7) 36 m_dist, aI cy (ma 8) 36 m_queue, aZ cy (ma 10) 36 m_shut]) ([oX10 mo ma m_thrown' m_textSize m_rows m_columns m_a m_b m_readRows m_readColumns m_at m_looks m_came m_draw m_turnedRows m_turnedColumns, aZ cy (ma 1) 36 m_right, aZ cy (ma 2) 36 m_down, aI cy (ma 7) 36 m_dist', aI cy (ma 8) 36 m_queue', aZ cy (ma 10) 36 m_shut']) r := by
  refine CtI.of (cc := cX10_must) (maxL := 2) (ret := some .int) (own := RX10) (by decide) rfl rfl (Nat.le_of_ble_eq_true rfl) ?_
  intro p e s m args below meth c A Q X hQ hK hP hD hS ls hl
  obtain ⟨hx, hb, hml, hown, hts, hr, hlocks, hA, hZ⟩ := id X
  have hl : lv_has ls 2 [(0, .ref mo), (1, .int p1)] := hl
  unfold fX10_must at hf
  have hf := qob_top hf
  refine lv_aload_n hx hb dX10_must_0 rfl (lv_at hl 0 rfl) ?_
  refine lv_iconst (v := 0) hx hb dX10_must_1 (by decide) ?_
  refine va_put (D := D) (ci := 10) (v := .int 0) (ty := .int) (C := RX10) (T := TX10) (N := 34) hx hb hts inwX10_must_X10 tyX10 tyX10_ok nmX10 hown hK hP hD hS 0 rfl rfl 0 (by decide) (hts (.fieldLink RX10 79 "HedgeWaysModel" "thrown" "I") (List.mem_of_getElem? (i := 1) rfl)) (fun _ h9 => h9) rfl (tyX10_ok 0 (by decide)) rfl rfl (Nat.le_of_ble_eq_true rfl) dX10_must_2 (fun H locs hP hD hS => ?_)
  have hP : va_P D vwCl ([oX10 mo ma 0 m_textSize m_rows m_columns m_a m_b m_readRows m_readColumns m_at m_looks m_came m_draw m_turnedRows m_turnedColumns, aZ cy (ma 1) 36 m_right, aZ cy (ma 2) 36 m_down, aI cy (ma 7) 36 m_dist, aI cy (ma 8) 36 m_queue, aZ cy (ma 10) 36 m_shut]) H := hP
  have hD : va_D A ([oX10 mo ma 0 m_textSize m_rows m_columns m_a m_b m_readRows m_readColumns m_at m_looks m_came m_draw m_turnedRows m_turnedColumns, aZ cy (ma 1) 36 m_right, aZ cy (ma 2) 36 m_down, aI cy (ma 7) 36 m_dist, aI cy (ma 8) 36 m_queue, aZ cy (ma 10) 36 m_shut]) := hD
  refine lv_aload_n hx hb dX10_must_5 rfl (lv_at hl 0 rfl) ?_
  refine lv_iload_n hx hb dX10_must_6 rfl (lv_at hl 1 rfl) ?_
  refine ctV_i0 (r := (fX10_isCell m_rows m_columns p1)) (wc := [oX10 mo ma 0 m_textSize m_rows m_columns m_a m_b m_readRows m_readColumns m_at m_looks m_came m_draw m_turnedRows m_turnedColumns]) (As := [.int p1]) (rest := []) (q0 := 0) X hK hP hD hS [0] rfl rfl rfl (KX10_isCell rfl _) (cwV 1 hts gX10_must_X10_isCell rfl rfl rfl hdX10_isCell ⟨Nat.le_of_ble_eq_true rfl, Nat.le_of_ble_eq_true rfl⟩) rfl rfl rfl hl rfl (Nat.le_of_ble_eq_true rfl) dX10_must_7 (Nat.zero_le _) (Nat.zero_le _) (fun H locs hP hS => ?_)
  refine lv_if_ne (tgt := 15) hx hb dX10_must_10 (by decide) (fun c1 => ?_) (fun c1 => ?_)
  · have hf := qob_f hf c1
    refine lv_aload_n hx hb dX10_must_15 rfl (lv_at hl 0 rfl) ?_
    refine lv_iload_n hx hb dX10_must_16 rfl (lv_at hl 1 rfl) ?_
    refine ctS_i0 (r := (fX10_index p1)) (wc := []) (As := [.int p1]) (rest := [.ref mo]) X hK hP hD hS [] rfl rfl rfl (KX10_index rfl _) (va_cwS 1 hts gX10_must_X10_index rfl rfl rfl hdX10_index ⟨Nat.le_of_ble_eq_true rfl, Nat.le_of_ble_eq_true rfl⟩) rfl hl rfl (Nat.le_of_ble_eq_true rfl) dX10_must_17 (Nat.zero_le _) (Nat.zero_le _) (fun H locs hP hS => ?_)
    obtain ⟨r_1, m_dist_1, m_queue_1, m_shut_1, q2, hf⟩ := qcall4 hf
    refine ctV_i (r := r_1) (wc := [oX10 mo ma 0 m_textSize m_rows m_columns m_a m_b m_readRows m_readColumns m_at m_looks m_came m_draw m_turnedRows m_turnedColumns, aZ cy (ma 1) 36 m_right, aZ cy (ma 2) 36 m_down, aI cy (ma 7) 36 m_dist, aI cy (ma 8) 36 m_queue, aZ cy (ma 10) 36 m_shut]) (w1 := [oX10 mo ma 0 m_textSize m_rows m_columns m_a m_b m_readRows m_readColumns m_at m_looks m_came m_draw m_turnedRows m_turnedColumns, aZ cy (ma 1) 36 m_right, aZ cy (ma 2) 36 m_down, aI cy (ma 7) 36 m_dist_1, aI cy (ma 8) 36 m_queue_1, aZ cy (ma 10) 36 m_shut_1]) (wr := []) (wn := [oX10 mo ma 0 m_textSize m_rows m_columns m_a m_b m_readRows m_readColumns m_at m_looks m_came m_draw m_turnedRows m_turnedColumns, aZ cy (ma 1) 36 m_right, aZ cy (ma 2) 36 m_down, aI cy (ma 7) 36 m_dist_1, aI cy (ma 8) 36 m_queue_1, aZ cy (ma 10) 36 m_shut_1]) (As := [.int (fX10_index p1)]) (rest := []) (q0 := 0) X hK hP hD hS [0, 1, 2, 3, 4, 5] [] [0, 1, 2, 3, 4, 5] rfl rfl rfl rfl rfl (by decide) rfl rfl rfl (KX10_isMust q2 _) (cwV 1 hts gX10_must_X10_isMust rfl rfl rfl hdX10_isMust ⟨Nat.le_of_ble_eq_true rfl, Nat.le_of_ble_eq_true rfl⟩) rfl rfl rfl hl rfl (Nat.le_of_ble_eq_true rfl) dX10_must_20 (Nat.zero_le _) (Nat.zero_le _) (fun H locs hP hD hS => ?_)
    refine lv_if_eq (tgt := 30) hx hb dX10_must_23 (by decide) (fun c3 => ?_) (fun c3 => ?_)
    · have hf := qob_t hf c3
      refine lv_iconst (v := 0) hx hb dX10_must_30 (by decide) ?_
      cases qob_ret hf
      exact ct_iret X hQ hK hP hD hS rfl dX10_must_31
    · have hf := qob_f hf c3
      refine lv_iconst (v := 1) hx hb dX10_must_26 (by decide) ?_
      refine lv_goto (tgt := 31) hx hb dX10_must_27 (by decide) ?_
      cases qob_ret hf
      exact ct_iret X hQ hK hP hD hS rfl dX10_must_31
  · have hf := qob_t hf c1
    refine lv_iconst (v := (-1)) hx hb dX10_must_13 (by decide) ?_
    cases qob_ret hf
    exact ct_iret X hQ hK hP hD hS rfl dX10_must_14
theorem inwX10_left_X10 : ∀ w ∈ wsX100, w ∈ wsX10_left := fun _ h => List.mem_cons_of_mem _ (List.mem_append_right _ h)
abbrev rmX10_left : Room := { frames := 5, cells := 0, slots := 0, locals := 118 }
theorem hdX10_left : yX10_left.cls = RX10 ∧ yX10_left.cls ≠ "java/lang/invoke/MethodHandle" ∧ yX10_left.cls ≠ "java/lang/invoke/VarHandle" ∧ (parseMethodDescriptor yX10_left.desc).map (fun d => d.parameters.length) = some 1 := by decide +kernel
set_option maxHeartbeats 4000000 in
set_option maxRecDepth 100000 in
theorem KX10_left {l : Launch} {D : va_G} {cy : Nat → ClassId} {mo : Nat} {ma : Nat → Nat} {m_thrown : Int32} {m_textSize : Int32} {m_rows : Int32} {m_columns : Int32} {m_a : Int32} {m_b : Int32} {m_readRows : Int32} {m_readColumns : Int32} {m_at : Int32} {m_looks : Int32} {m_came : Int32} {m_draw : Int64} {m_turnedRows : Int32} {m_turnedColumns : Int32} {m_right : Nat → Int32} {m_down : Nat → Int32} {m_shut : Nat → Int32} {p1 : Int32} {r : Int32} {m_thrown' : Int32} {m_shut' : Nat → Int32} (hf : fX10_left m_thrown m_rows m_columns m_a m_b m_right m_down m_shut p1 = some (r, m_thrown', m_shut')) : CtI l yX10_left wsX10_left rmX10_left D cy [.ref mo, .int p1] ([oX10 mo ma m_thrown m_textSize m_rows m_columns m_a m_b m_readRows m_readColumns m_at m_looks m_came m_draw m_turnedRows m_turnedColumns, aZ cy (ma 1) 36 m_right, aZ cy (ma 2) 36 m_down, aZ cy (ma 10) 36 m_shut]) ([oX10 mo ma m_thrown' m_textSize m_rows m_columns m_a m_b m_readRows m_readColumns m_at m_looks m_came m_draw m_turnedRows m_turnedColumns, aZ cy (ma 1) 36 m_right, aZ cy (ma 2) 36 m_down, aZ cy (ma 10) 36 m_shut']) r := by
  refine CtI.of (cc := cX10_left) (maxL := 3) (ret := some .int) (own := RX10) (by decide) rfl rfl (Nat.le_of_ble_eq_true rfl) ?_
  intro p e s m args below meth c A Q X hQ hK hP hD hS ls hl
  obtain ⟨hx, hb, hml, hown, hts, hr, hlocks, hA, hZ⟩ := id X
  have hl : lv_has ls 3 [(0, .ref mo), (1, .int p1)] := hl
  unfold fX10_left at hf
  have hf := qob_top hf
  refine lv_aload_n hx hb dX10_left_0 rfl (lv_at hl 0 rfl) ?_
  refine lv_iconst (v := 0) hx hb dX10_left_1 (by decide) ?_
  refine va_put (D := D) (ci := 10) (v := .int 0) (ty := .int) (C := RX10) (T := TX10) (N := 34) hx hb hts inwX10_left_X10 tyX10 tyX10_ok nmX10 hown hK hP hD hS 0 rfl rfl 0 (by decide) (hts (.fieldLink RX10 79 "HedgeWaysModel" "thrown" "I") (List.mem_of_getElem? (i := 1) rfl)) (fun _ h9 => h9) rfl (tyX10_ok 0 (by decide)) rfl rfl (Nat.le_of_ble_eq_true rfl) dX10_left_2 (fun H locs hP hD hS => ?_)
  have hP : va_P D vwCl ([oX10 mo ma 0 m_textSize m_rows m_columns m_a m_b m_readRows m_readColumns m_at m_looks m_came m_draw m_turnedRows m_turnedColumns, aZ cy (ma 1) 36 m_right, aZ cy (ma 2) 36 m_down, aZ cy (ma 10) 36 m_shut]) H := hP
  have hD : va_D A ([oX10 mo ma 0 m_textSize m_rows m_columns m_a m_b m_readRows m_readColumns m_at m_looks m_came m_draw m_turnedRows m_turnedColumns, aZ cy (ma 1) 36 m_right, aZ cy (ma 2) 36 m_down, aZ cy (ma 10) 36 m_shut]) := hD
  refine lv_aload_n hx hb dX10_left_5 rfl (lv_at hl 0 rfl) ?_
  refine lv_iload_n hx hb dX10_left_6 rfl (lv_at hl 1 rfl) ?_
  refine ctV_i0 (r := (fX10_isCell m_rows m_columns p1)) (wc := [oX10 mo ma 0 m_textSize m_rows m_columns m_a m_b m_readRows m_readColumns m_at m_looks m_came m_draw m_turnedRows m_turnedColumns]) (As := [.int p1]) (rest := []) (q0 := 0) X hK hP hD hS [0] rfl rfl rfl (KX10_isCell rfl _) (cwV 1 hts gX10_left_X10_isCell rfl rfl rfl hdX10_isCell ⟨Nat.le_of_ble_eq_true rfl, Nat.le_of_ble_eq_true rfl⟩) rfl rfl rfl hl rfl (Nat.le_of_ble_eq_true rfl) dX10_left_7 (Nat.zero_le _) (Nat.zero_le _) (fun H locs hP hS => ?_)
  refine lv_if_ne (tgt := 15) hx hb dX10_left_10 (by decide) (fun c1 => ?_) (fun c1 => ?_)
  · have hf := qob_f hf c1
    refine lv_aload_n hx hb dX10_left_15 rfl (lv_at hl 0 rfl) ?_
    obtain ⟨r_1, m_shut_1, q2, hf⟩ := qcall2 hf
    refine ctV_i (r := r_1) (wc := [oX10 mo ma 0 m_textSize m_rows m_columns m_a m_b m_readRows m_readColumns m_at m_looks m_came m_draw m_turnedRows m_turnedColumns, aZ cy (ma 1) 36 m_right, aZ cy (ma 2) 36 m_down, aZ cy (ma 10) 36 m_shut]) (w1 := [oX10 mo ma 0 m_textSize m_rows m_columns m_a m_b m_readRows m_readColumns m_at m_looks m_came m_draw m_turnedRows m_turnedColumns, aZ cy (ma 1) 36 m_right, aZ cy (ma 2) 36 m_down, aZ cy (ma 10) 36 m_shut_1]) (wr := []) (wn := [oX10 mo ma 0 m_textSize m_rows m_columns m_a m_b m_readRows m_readColumns m_at m_looks m_came m_draw m_turnedRows m_turnedColumns, aZ cy (ma 1) 36 m_right, aZ cy (ma 2) 36 m_down, aZ cy (ma 10) 36 m_shut_1]) (As := []) (rest := []) (q0 := 0) X hK hP hD hS [0, 1, 2, 3] [] [0, 1, 2, 3] rfl rfl rfl rfl rfl (by decide) rfl rfl rfl (KX10_fill q2 _) (cwV 0 hts gX10_left_X10_fill rfl rfl rfl hdX10_fill ⟨Nat.le_of_ble_eq_true rfl, Nat.le_of_ble_eq_true rfl⟩) rfl rfl rfl hl rfl (Nat.le_of_ble_eq_true rfl) dX10_left_16 (Nat.zero_le _) (Nat.zero_le _) (fun H locs hP hD hS => ?_)
    refine lv_pop hx hb dX10_left_19 rfl ?_
    refine lv_aload_n hx hb dX10_left_20 rfl (lv_at hl 0 rfl) ?_
    refine va_get (D := D) (ci := 10) (v := .ref (ma 10)) (C := RX10) (T := TX10) (N := 34) hx hb hts inwX10_left_X10 hown hK hP 0 rfl rfl 18 (by decide) (hts (.fieldLink RX10 49 "HedgeWaysModel" "shut" "[Z") (List.mem_of_getElem? (i := 2) rfl)) (fun _ h9 => h9) rfl dX10_left_21 ?_
    refine lv_iload_n hx hb dX10_left_24 rfl (lv_at hl 1 rfl) ?_
    refine ctS_i0 (r := (fX10_index p1)) (wc := []) (As := [.int p1]) (rest := [.ref (ma 10)]) X hK hP hD hS [] rfl rfl rfl (KX10_index rfl _) (va_cwS 1 hts gX10_left_X10_index rfl rfl rfl hdX10_index ⟨Nat.le_of_ble_eq_true rfl, Nat.le_of_ble_eq_true rfl⟩) rfl hl rfl (Nat.le_of_ble_eq_true rfl) dX10_left_25 (Nat.zero_le _) (Nat.zero_le _) (fun H locs hP hS => ?_)
    obtain ⟨i3, hf⟩ := qob_gd hf
    refine va_zald hx hb hK hP 3 2 rfl rfl i3 dX10_left_28 ?_
    refine qjoin1 hf (fun (s_1 : Int32) => ∀ (H : Heap) (locs : List Loc) (ls : Array Slot), ctW D A s ([oX10 mo ma 0 m_textSize m_rows m_columns m_a m_b m_readRows m_readColumns m_at m_looks m_came m_draw m_turnedRows m_turnedColumns, aZ cy (ma 1) 36 m_right, aZ cy (ma 2) 36 m_down, aZ cy (ma 10) 36 m_shut_1]) H locs → lv_has ls 3 [(0, .ref mo)] → W p l e rmX10_left s m args below meth c H locs 0 0 Q (F0 m 37 ls [.int s_1])) ?_ ?_
    · intro s_1 hf H locs ls ⟨hP, hD, hS⟩ hl
      refine lv_istore_n (lv' := [(2, .int s_1), (0, .ref mo)]) hx hb dX10_left_37 rfl hl (by decide) rfl (fun ls hl => ?_)
      refine lv_aload_n hx hb dX10_left_38 rfl (lv_at hl 1 rfl) ?_
      obtain ⟨m_shut_2, q4, hf⟩ := qcall1 hf
      refine ctV_v (wc := [oX10 mo ma 0 m_textSize m_rows m_columns m_a m_b m_readRows m_readColumns m_at m_looks m_came m_draw m_turnedRows m_turnedColumns, aZ cy (ma 10) 36 m_shut_1]) (w1 := [oX10 mo ma 0 m_textSize m_rows m_columns m_a m_b m_readRows m_readColumns m_at m_looks m_came m_draw m_turnedRows m_turnedColumns, aZ cy (ma 10) 36 m_shut_2]) (wr := [aZ cy (ma 1) 36 m_right, aZ cy (ma 2) 36 m_down]) (wn := [oX10 mo ma 0 m_textSize m_rows m_columns m_a m_b m_readRows m_readColumns m_at m_looks m_came m_draw m_turnedRows m_turnedColumns, aZ cy (ma 1) 36 m_right, aZ cy (ma 2) 36 m_down, aZ cy (ma 10) 36 m_shut_2]) (As := []) (rest := []) (q0 := 0) X hK hP hD hS [0, 3] [1, 2] [2, 0, 1, 3] rfl rfl rfl rfl rfl (by decide) rfl rfl rfl (KX10_clearShut q4 _) (cwV 0 hts gX10_left_X10_clearShut rfl rfl rfl hdX10_clearShut ⟨Nat.le_of_ble_eq_true rfl, Nat.le_of_ble_eq_true rfl⟩) rfl rfl rfl hl rfl (Nat.le_of_ble_eq_true rfl) dX10_left_39 (Nat.zero_le _) (Nat.zero_le _) (fun H locs hP hD hS => ?_)
      refine lv_iload_n hx hb dX10_left_42 rfl (lv_at hl 0 rfl) ?_
      cases qob_ret hf
      exact ct_iret X hQ hK hP hD hS rfl dX10_left_43
    · intro J5 hJ5 hf
      refine lv_if_eq (tgt := 36) hx hb dX10_left_29 (by decide) (fun c6 => ?_) (fun c6 => ?_)
      · have hf := qob_t hf c6
        refine lv_iconst (v := 1) hx hb dX10_left_36 (by decide) ?_
        exact hJ5 1 hf _ _ _ ⟨hP, hD, hS⟩ (lv_sub hl [0] rfl)
      · have hf := qob_f hf c6
        refine lv_iconst (v := 0) hx hb dX10_left_32 (by decide) ?_
        refine lv_goto (tgt := 37) hx hb dX10_left_33 (by decide) ?_
        exact hJ5 0 hf _ _ _ ⟨hP, hD, hS⟩ (lv_sub hl [0] rfl)
  · have hf := qob_t hf c1
    refine lv_iconst (v := (-1)) hx hb dX10_left_13 (by decide) ?_
    cases qob_ret hf
    exact ct_iret X hQ hK hP hD hS rfl dX10_left_14
theorem inwX10_far_X10 : ∀ w ∈ wsX100, w ∈ wsX10_far := fun _ h => List.mem_cons_of_mem _ (List.mem_append_right _ h)
abbrev rmX10_far : Room := { frames := 5, cells := 0, slots := 0, locals := 120 }
theorem hdX10_far : yX10_far.cls = RX10 ∧ yX10_far.cls ≠ "java/lang/invoke/MethodHandle" ∧ yX10_far.cls ≠ "java/lang/invoke/VarHandle" ∧ (parseMethodDescriptor yX10_far.desc).map (fun d => d.parameters.length) = some 2 := by decide +kernel
set_option maxHeartbeats 4000000 in
set_option maxRecDepth 100000 in
theorem KX10_far {l : Launch} {D : va_G} {cy : Nat → ClassId} {mo : Nat} {ma : Nat → Nat} {m_thrown : Int32} {m_textSize : Int32} {m_rows : Int32} {m_columns : Int32} {m_a : Int32} {m_b : Int32} {m_readRows : Int32} {m_readColumns : Int32} {m_at : Int32} {m_looks : Int32} {m_came : Int32} {m_draw : Int64} {m_turnedRows : Int32} {m_turnedColumns : Int32} {m_right : Nat → Int32} {m_down : Nat → Int32} {m_dist : Nat → Int32} {m_queue : Nat → Int32} {m_shut : Nat → Int32} {p1 : Int32} {p2 : Int32} {r : Int32} {m_thrown' : Int32} {m_dist' : Nat → Int32} {m_queue' : Nat → Int32} (hf : fX10_far m_thrown m_rows m_columns m_right m_down m_dist m_queue m_shut p1 p2 = some (r, m_thrown', m_dist', m_queue')) : CtI l yX10_far wsX10_far rmX10_far D cy [.ref mo, .int p1, .int p2] ([oX10 mo ma m_thrown m_textSize m_rows m_columns m_a m_b m_readRows m_readColumns m_at m_looks m_came m_draw m_turnedRows m_turnedColumns, aZ cy (ma 1) 36 m_right, aZ cy (ma 2) 36 m_down, aI cy (ma 7) 36 m_dist, aI cy (ma 8) 36 m_queue, aZ cy (ma 10) 36 m_shut]) ([oX10 mo ma m_thrown' m_textSize m_rows m_columns m_a m_b m_readRows m_readColumns m_at m_looks m_came m_draw m_turnedRows m_turnedColumns, aZ cy (ma 1) 36 m_right, aZ cy (ma 2) 36 m_down, aI cy (ma 7) 36 m_dist', aI cy (ma 8) 36 m_queue', aZ cy (ma 10) 36 m_shut]) r := by
  refine CtI.of (cc := cX10_far) (maxL := 4) (ret := some .int) (own := RX10) (by decide) rfl rfl (Nat.le_of_ble_eq_true rfl) ?_
  intro p e s m args below meth c A Q X hQ hK hP hD hS ls hl
  obtain ⟨hx, hb, hml, hown, hts, hr, hlocks, hA, hZ⟩ := id X
  have hl : lv_has ls 4 [(0, .ref mo), (1, .int p1), (2, .int p2)] := hl
  unfold fX10_far at hf
  have hf := qob_top hf
  refine lv_aload_n hx hb dX10_far_0 rfl (lv_at hl 0 rfl) ?_
  refine lv_iconst (v := 0) hx hb dX10_far_1 (by decide) ?_
  refine va_put (D := D) (ci := 10) (v := .int 0) (ty := .int) (C := RX10) (T := TX10) (N := 34) hx hb hts inwX10_far_X10 tyX10 tyX10_ok nmX10 hown hK hP hD hS 0 rfl rfl 0 (by decide) (hts (.fieldLink RX10 79 "HedgeWaysModel" "thrown" "I") (List.mem_of_getElem? (i := 1) rfl)) (fun _ h9 => h9) rfl (tyX10_ok 0 (by decide)) rfl rfl (Nat.le_of_ble_eq_true rfl) dX10_far_2 (fun H locs hP hD hS => ?_)
  have hP : va_P D vwCl ([oX10 mo ma 0 m_textSize m_rows m_columns m_a m_b m_readRows m_readColumns m_at m_looks m_came m_draw m_turnedRows m_turnedColumns, aZ cy (ma 1) 36 m_right, aZ cy (ma 2) 36 m_down, aI cy (ma 7) 36 m_dist, aI cy (ma 8) 36 m_queue, aZ cy (ma 10) 36 m_shut]) H := hP
  have hD : va_D A ([oX10 mo ma 0 m_textSize m_rows m_columns m_a m_b m_readRows m_readColumns m_at m_looks m_came m_draw m_turnedRows m_turnedColumns, aZ cy (ma 1) 36 m_right, aZ cy (ma 2) 36 m_down, aI cy (ma 7) 36 m_dist, aI cy (ma 8) 36 m_queue, aZ cy (ma 10) 36 m_shut]) := hD
  refine lv_aload_n hx hb dX10_far_5 rfl (lv_at hl 0 rfl) ?_
  refine lv_iload_n hx hb dX10_far_6 rfl (lv_at hl 1 rfl) ?_
  refine ctV_i0 (r := (fX10_isCell m_rows m_columns p1)) (wc := [oX10 mo ma 0 m_textSize m_rows m_columns m_a m_b m_readRows m_readColumns m_at m_looks m_came m_draw m_turnedRows m_turnedColumns]) (As := [.int p1]) (rest := []) (q0 := 0) X hK hP hD hS [0] rfl rfl rfl (KX10_isCell rfl _) (cwV 1 hts gX10_far_X10_isCell rfl rfl rfl hdX10_isCell ⟨Nat.le_of_ble_eq_true rfl, Nat.le_of_ble_eq_true rfl⟩) rfl rfl rfl hl rfl (Nat.le_of_ble_eq_true rfl) dX10_far_7 (Nat.zero_le _) (Nat.zero_le _) (fun H locs hP hS => ?_)
  refine lv_if_eq (tgt := 21) hx hb dX10_far_10 (by decide) (fun c1 => ?_) (fun c1 => ?_)
  · have hf := qob_t hf c1
    refine lv_iconst (v := (-1)) hx hb dX10_far_21 (by decide) ?_
    cases qob_ret hf
    exact ct_iret X hQ hK hP hD hS rfl dX10_far_22
  · have hf := qob_f hf c1
    refine lv_aload_n hx hb dX10_far_13 rfl (lv_at hl 0 rfl) ?_
    refine lv_iload_n hx hb dX10_far_14 rfl (lv_at hl 2 rfl) ?_
    refine ctV_i0 (r := (fX10_isCell m_rows m_columns p2)) (wc := [oX10 mo ma 0 m_textSize m_rows m_columns m_a m_b m_readRows m_readColumns m_at m_looks m_came m_draw m_turnedRows m_turnedColumns]) (As := [.int p2]) (rest := []) (q0 := 0) X hK hP hD hS [0] rfl rfl rfl (KX10_isCell rfl _) (cwV 1 hts gX10_far_X10_isCell rfl rfl rfl hdX10_isCell ⟨Nat.le_of_ble_eq_true rfl, Nat.le_of_ble_eq_true rfl⟩) rfl rfl rfl hl rfl (Nat.le_of_ble_eq_true rfl) dX10_far_15 (Nat.zero_le _) (Nat.zero_le _) (fun H locs hP hS => ?_)
    refine lv_if_ne (tgt := 23) hx hb dX10_far_18 (by decide) (fun c2 => ?_) (fun c2 => ?_)
    · have hf := qob_f hf c2
      refine lv_aload_n hx hb dX10_far_23 rfl (lv_at hl 0 rfl) ?_
      refine lv_iload_n hx hb dX10_far_24 rfl (lv_at hl 1 rfl) ?_
      refine ctS_i0 (r := (fX10_index p1)) (wc := []) (As := [.int p1]) (rest := [.ref mo]) X hK hP hD hS [] rfl rfl rfl (KX10_index rfl _) (va_cwS 1 hts gX10_far_X10_index rfl rfl rfl hdX10_index ⟨Nat.le_of_ble_eq_true rfl, Nat.le_of_ble_eq_true rfl⟩) rfl hl rfl (Nat.le_of_ble_eq_true rfl) dX10_far_25 (Nat.zero_le _) (Nat.zero_le _) (fun H locs hP hS => ?_)
      refine lv_iload_n hx hb dX10_far_28 rfl (lv_at hl 2 rfl) ?_
      refine ctS_i0 (r := (fX10_index p2)) (wc := []) (As := [.int p2]) (rest := [.int (fX10_index p1), .ref mo]) X hK hP hD hS [] rfl rfl rfl (KX10_index rfl _) (va_cwS 1 hts gX10_far_X10_index rfl rfl rfl hdX10_index ⟨Nat.le_of_ble_eq_true rfl, Nat.le_of_ble_eq_true rfl⟩) rfl hl rfl (Nat.le_of_ble_eq_true rfl) dX10_far_29 (Nat.zero_le _) (Nat.zero_le _) (fun H locs hP hS => ?_)
      obtain ⟨r_1, m_dist_1, m_queue_1, q3, hf⟩ := qcall3 hf
      refine ctV_i (r := r_1) (wc := [oX10 mo ma 0 m_textSize m_rows m_columns m_a m_b m_readRows m_readColumns m_at m_looks m_came m_draw m_turnedRows m_turnedColumns, aZ cy (ma 1) 36 m_right, aZ cy (ma 2) 36 m_down, aI cy (ma 7) 36 m_dist, aI cy (ma 8) 36 m_queue, aZ cy (ma 10) 36 m_shut]) (w1 := [oX10 mo ma 0 m_textSize m_rows m_columns m_a m_b m_readRows m_readColumns m_at m_looks m_came m_draw m_turnedRows m_turnedColumns, aZ cy (ma 1) 36 m_right, aZ cy (ma 2) 36 m_down, aI cy (ma 7) 36 m_dist_1, aI cy (ma 8) 36 m_queue_1, aZ cy (ma 10) 36 m_shut]) (wr := []) (wn := [oX10 mo ma 0 m_textSize m_rows m_columns m_a m_b m_readRows m_readColumns m_at m_looks m_came m_draw m_turnedRows m_turnedColumns, aZ cy (ma 1) 36 m_right, aZ cy (ma 2) 36 m_down, aI cy (ma 7) 36 m_dist_1, aI cy (ma 8) 36 m_queue_1, aZ cy (ma 10) 36 m_shut]) (As := [.int (fX10_index p1), .int (fX10_index p2)]) (rest := []) (q0 := 0) X hK hP hD hS [0, 1, 2, 3, 4, 5] [] [0, 1, 2, 3, 4, 5] rfl rfl rfl rfl rfl (by decide) rfl rfl rfl (KX10_farOf q3 _) (cwV 2 hts gX10_far_X10_farOf rfl rfl rfl hdX10_farOf ⟨Nat.le_of_ble_eq_true rfl, Nat.le_of_ble_eq_true rfl⟩) rfl rfl rfl hl rfl (Nat.le_of_ble_eq_true rfl) dX10_far_32 (Nat.zero_le _) (Nat.zero_le _) (fun H locs hP hD hS => ?_)
      refine lv_istore_n (lv' := [(3, .int r_1), (0, .ref mo), (1, .int p1), (2, .int p2)]) hx hb dX10_far_35 rfl hl (by decide) rfl (fun ls hl => ?_)
      refine lv_iload_n hx hb dX10_far_36 rfl (lv_at hl 0 rfl) ?_
      refine lv_sipush (v := 9999) hx hb dX10_far_37 (by decide) ?_
      refine lv_icmp_ne (tgt := 48) hx hb dX10_far_40 (by decide) (fun c4 => ?_) (fun c4 => ?_)
      · have hf := qob_f hf c4
        refine lv_iload_n hx hb dX10_far_48 rfl (lv_at hl 0 rfl) ?_
        cases qob_ret hf
        exact ct_iret X hQ hK hP hD hS rfl dX10_far_49
      · have hf := qob_t hf c4
        refine lv_bipush (v := (-9)) hx hb dX10_far_43 (by decide) ?_
        refine lv_goto (tgt := 49) hx hb dX10_far_45 (by decide) ?_
        cases qob_ret hf
        exact ct_iret X hQ hK hP hD hS rfl dX10_far_49
    · have hf := qob_t hf c2
      refine lv_iconst (v := (-1)) hx hb dX10_far_21 (by decide) ?_
      cases qob_ret hf
      exact ct_iret X hQ hK hP hD hS rfl dX10_far_22
theorem inwX10_ways_X10 : ∀ w ∈ wsX100, w ∈ wsX10_ways := fun _ h => List.mem_cons_of_mem _ (List.mem_append_right _ h)
abbrev rmX10_ways : Room := { frames := 4, cells := 0, slots := 0, locals := 98 }
theorem hdX10_ways : yX10_ways.cls = RX10 ∧ yX10_ways.cls ≠ "java/lang/invoke/MethodHandle" ∧ yX10_ways.cls ≠ "java/lang/invoke/VarHandle" ∧ (parseMethodDescriptor yX10_ways.desc).map (fun d => d.parameters.length) = some 2 := by decide +kernel
set_option maxHeartbeats 4000000 in
set_option maxRecDepth 100000 in
theorem KX10_ways {l : Launch} {D : va_G} {cy : Nat → ClassId} {mo : Nat} {ma : Nat → Nat} {m_thrown : Int32} {m_textSize : Int32} {m_rows : Int32} {m_columns : Int32} {m_a : Int32} {m_b : Int32} {m_readRows : Int32} {m_readColumns : Int32} {m_at : Int32} {m_looks : Int32} {m_came : Int32} {m_draw : Int64} {m_turnedRows : Int32} {m_turnedColumns : Int32} {m_right : Nat → Int32} {m_down : Nat → Int32} {m_dist : Nat → Int32} {m_queue : Nat → Int32} {m_ways : Nat → Int64} {m_shut : Nat → Int32} {p1 : Int32} {p2 : Int32} {r : Int64} {m_thrown' : Int32} {m_dist' : Nat → Int32} {m_queue' : Nat → Int32} {m_ways' : Nat → Int64} (hf : fX10_ways m_thrown m_rows m_columns m_right m_down m_dist m_queue m_ways m_shut p1 p2 = some (r, m_thrown', m_dist', m_queue', m_ways')) : CtL l yX10_ways wsX10_ways rmX10_ways D cy [.ref mo, .int p1, .int p2] ([oX10 mo ma m_thrown m_textSize m_rows m_columns m_a m_b m_readRows m_readColumns m_at m_looks m_came m_draw m_turnedRows m_turnedColumns, aZ cy (ma 1) 36 m_right, aZ cy (ma 2) 36 m_down, aI cy (ma 7) 36 m_dist, aI cy (ma 8) 36 m_queue, aJ cy (ma 9) 36 m_ways, aZ cy (ma 10) 36 m_shut]) ([oX10 mo ma m_thrown' m_textSize m_rows m_columns m_a m_b m_readRows m_readColumns m_at m_looks m_came m_draw m_turnedRows m_turnedColumns, aZ cy (ma 1) 36 m_right, aZ cy (ma 2) 36 m_down, aI cy (ma 7) 36 m_dist', aI cy (ma 8) 36 m_queue', aJ cy (ma 9) 36 m_ways', aZ cy (ma 10) 36 m_shut]) r := by
  refine CtL.of (cc := cX10_ways) (maxL := 7) (ret := some .long) (own := RX10) (by decide) rfl rfl (Nat.le_of_ble_eq_true rfl) ?_
  intro p e s m args below meth c A Q X hQ hK hP hD hS ls hl
  obtain ⟨hx, hb, hml, hown, hts, hr, hlocks, hA, hZ⟩ := id X
  have hl : lv_has ls 7 [(0, .ref mo), (1, .int p1), (2, .int p2)] := hl
  unfold fX10_ways at hf
  have hf := qob_top hf
  refine lv_aload_n hx hb dX10_ways_0 rfl (lv_at hl 0 rfl) ?_
  refine lv_iconst (v := 0) hx hb dX10_ways_1 (by decide) ?_
  refine va_put (D := D) (ci := 10) (v := .int 0) (ty := .int) (C := RX10) (T := TX10) (N := 34) hx hb hts inwX10_ways_X10 tyX10 tyX10_ok nmX10 hown hK hP hD hS 0 rfl rfl 0 (by decide) (hts (.fieldLink RX10 79 "HedgeWaysModel" "thrown" "I") (List.mem_of_getElem? (i := 1) rfl)) (fun _ h9 => h9) rfl (tyX10_ok 0 (by decide)) rfl rfl (Nat.le_of_ble_eq_true rfl) dX10_ways_2 (fun H locs hP hD hS => ?_)
  have hP : va_P D vwCl ([oX10 mo ma 0 m_textSize m_rows m_columns m_a m_b m_readRows m_readColumns m_at m_looks m_came m_draw m_turnedRows m_turnedColumns, aZ cy (ma 1) 36 m_right, aZ cy (ma 2) 36 m_down, aI cy (ma 7) 36 m_dist, aI cy (ma 8) 36 m_queue, aJ cy (ma 9) 36 m_ways, aZ cy (ma 10) 36 m_shut]) H := hP
  have hD : va_D A ([oX10 mo ma 0 m_textSize m_rows m_columns m_a m_b m_readRows m_readColumns m_at m_looks m_came m_draw m_turnedRows m_turnedColumns, aZ cy (ma 1) 36 m_right, aZ cy (ma 2) 36 m_down, aI cy (ma 7) 36 m_dist, aI cy (ma 8) 36 m_queue, aJ cy (ma 9) 36 m_ways, aZ cy (ma 10) 36 m_shut]) := hD
  refine lv_aload_n hx hb dX10_ways_5 rfl (lv_at hl 0 rfl) ?_
  refine lv_iload_n hx hb dX10_ways_6 rfl (lv_at hl 1 rfl) ?_
  refine ctV_i0 (r := (fX10_isCell m_rows m_columns p1)) (wc := [oX10 mo ma 0 m_textSize m_rows m_columns m_a m_b m_readRows m_readColumns m_at m_looks m_came m_draw m_turnedRows m_turnedColumns]) (As := [.int p1]) (rest := []) (q0 := 0) X hK hP hD hS [0] rfl rfl rfl (KX10_isCell rfl _) (cwV 1 hts gX10_ways_X10_isCell rfl rfl rfl hdX10_isCell ⟨Nat.le_of_ble_eq_true rfl, Nat.le_of_ble_eq_true rfl⟩) rfl rfl rfl hl rfl (Nat.le_of_ble_eq_true rfl) dX10_ways_7 (Nat.zero_le _) (Nat.zero_le _) (fun H locs hP hS => ?_)
  refine lv_if_eq (tgt := 21) hx hb dX10_ways_10 (by decide) (fun c1 => ?_) (fun c1 => ?_)
  · have hf := qob_t hf c1
    refine lv_ldc2 hx hb hown (hts (.constantLong RX10 201 (-1)) (List.mem_of_getElem? (i := 2) rfl)) dX10_ways_21 ?_
    cases qob_ret hf
    exact ct_lret X hQ hK hP hD hS rfl dX10_ways_24
  · have hf := qob_f hf c1
    refine lv_aload_n hx hb dX10_ways_13 rfl (lv_at hl 0 rfl) ?_
    refine lv_iload_n hx hb dX10_ways_14 rfl (lv_at hl 2 rfl) ?_
    refine ctV_i0 (r := (fX10_isCell m_rows m_columns p2)) (wc := [oX10 mo ma 0 m_textSize m_rows m_columns m_a m_b m_readRows m_readColumns m_at m_looks m_came m_draw m_turnedRows m_turnedColumns]) (As := [.int p2]) (rest := []) (q0 := 0) X hK hP hD hS [0] rfl rfl rfl (KX10_isCell rfl _) (cwV 1 hts gX10_ways_X10_isCell rfl rfl rfl hdX10_isCell ⟨Nat.le_of_ble_eq_true rfl, Nat.le_of_ble_eq_true rfl⟩) rfl rfl rfl hl rfl (Nat.le_of_ble_eq_true rfl) dX10_ways_15 (Nat.zero_le _) (Nat.zero_le _) (fun H locs hP hS => ?_)
    refine lv_if_ne (tgt := 25) hx hb dX10_ways_18 (by decide) (fun c2 => ?_) (fun c2 => ?_)
    · have hf := qob_f hf c2
      refine lv_aload_n hx hb dX10_ways_25 rfl (lv_at hl 0 rfl) ?_
      refine lv_iload_n hx hb dX10_ways_26 rfl (lv_at hl 1 rfl) ?_
      refine ctS_i0 (r := (fX10_index p1)) (wc := []) (As := [.int p1]) (rest := [.ref mo]) X hK hP hD hS [] rfl rfl rfl (KX10_index rfl _) (va_cwS 1 hts gX10_ways_X10_index rfl rfl rfl hdX10_index ⟨Nat.le_of_ble_eq_true rfl, Nat.le_of_ble_eq_true rfl⟩) rfl hl rfl (Nat.le_of_ble_eq_true rfl) dX10_ways_27 (Nat.zero_le _) (Nat.zero_le _) (fun H locs hP hS => ?_)
      obtain ⟨m_dist_1, m_queue_1, q3, hf⟩ := qcall2 hf
      refine ctV_v (wc := [oX10 mo ma 0 m_textSize m_rows m_columns m_a m_b m_readRows m_readColumns m_at m_looks m_came m_draw m_turnedRows m_turnedColumns, aZ cy (ma 1) 36 m_right, aZ cy (ma 2) 36 m_down, aI cy (ma 7) 36 m_dist, aI cy (ma 8) 36 m_queue, aZ cy (ma 10) 36 m_shut]) (w1 := [oX10 mo ma 0 m_textSize m_rows m_columns m_a m_b m_readRows m_readColumns m_at m_looks m_came m_draw m_turnedRows m_turnedColumns, aZ cy (ma 1) 36 m_right, aZ cy (ma 2) 36 m_down, aI cy (ma 7) 36 m_dist_1, aI cy (ma 8) 36 m_queue_1, aZ cy (ma 10) 36 m_shut]) (wr := [aJ cy (ma 9) 36 m_ways]) (wn := [oX10 mo ma 0 m_textSize m_rows m_columns m_a m_b m_readRows m_readColumns m_at m_looks m_came m_draw m_turnedRows m_turnedColumns, aZ cy (ma 1) 36 m_right, aZ cy (ma 2) 36 m_down, aI cy (ma 7) 36 m_dist_1, aI cy (ma 8) 36 m_queue_1, aJ cy (ma 9) 36 m_ways, aZ cy (ma 10) 36 m_shut]) (As := [.int (fX10_index p1)]) (rest := []) (q0 := 0) X hK hP hD hS [0, 1, 2, 3, 4, 6] [5] [1, 2, 3, 4, 5, 0, 6] rfl rfl rfl rfl rfl (by decide) rfl rfl rfl (KX10_layFar q3 _) (cwV 1 hts gX10_ways_X10_layFar rfl rfl rfl hdX10_layFar ⟨Nat.le_of_ble_eq_true rfl, Nat.le_of_ble_eq_true rfl⟩) rfl rfl rfl hl rfl (Nat.le_of_ble_eq_true rfl) dX10_ways_30 (Nat.zero_le _) (Nat.zero_le _) (fun H locs hP hD hS => ?_)
      refine lv_iconst (v := 0) hx hb dX10_ways_33 (by decide) ?_
      refine lv_istore_n (lv' := [(3, .int 0), (0, .ref mo), (1, .int p1), (2, .int p2)]) hx hb dX10_ways_34 rfl hl (by decide) rfl (fun ls hl => ?_)
      refine qjoin1 hf (fun (m_ways_1 : Nat → Int64) => ∀ (H : Heap) (locs : List Loc) (ls : Array Slot), ctW D A s ([oX10 mo ma 0 m_textSize m_rows m_columns m_a m_b m_readRows m_readColumns m_at m_looks m_came m_draw m_turnedRows m_turnedColumns, aZ cy (ma 1) 36 m_right, aZ cy (ma 2) 36 m_down, aI cy (ma 7) 36 m_dist_1, aI cy (ma 8) 36 m_queue_1, aJ cy (ma 9) 36 m_ways_1, aZ cy (ma 10) 36 m_shut]) H locs → lv_has ls 7 [(0, .ref mo), (2, .int p2)] → W p l e rmX10_ways s m args below meth c H locs 0 0 Q (F0 m 66 ls [])) ?_ ?_
      · intro m_ways_1 hf H locs ls ⟨hP, hD, hS⟩ hl
        refine lv_iconst (v := 1) hx hb dX10_ways_66 (by decide) ?_
        refine lv_istore_n (lv' := [(3, .int 1), (0, .ref mo), (2, .int p2)]) hx hb dX10_ways_67 rfl hl (by decide) rfl (fun ls hl => ?_)
        refine qjoin1 hf (fun (m_ways_2 : Nat → Int64) => ∀ (H : Heap) (locs : List Loc) (ls : Array Slot), ctW D A s ([oX10 mo ma 0 m_textSize m_rows m_columns m_a m_b m_readRows m_readColumns m_at m_looks m_came m_draw m_turnedRows m_turnedColumns, aZ cy (ma 1) 36 m_right, aZ cy (ma 2) 36 m_down, aI cy (ma 7) 36 m_dist_1, aI cy (ma 8) 36 m_queue_1, aJ cy (ma 9) 36 m_ways_2, aZ cy (ma 10) 36 m_shut]) H locs → lv_has ls 7 [(0, .ref mo), (2, .int p2)] → W p l e rmX10_ways s m args below meth c H locs 0 0 Q (F0 m 189 ls [])) ?_ ?_
        · intro m_ways_2 hf H locs ls ⟨hP, hD, hS⟩ hl
          refine lv_aload_n hx hb dX10_ways_189 rfl (lv_at hl 0 rfl) ?_
          refine va_get (D := D) (ci := 10) (v := .ref (ma 9)) (C := RX10) (T := TX10) (N := 34) hx hb hts inwX10_ways_X10 hown hK hP 0 rfl rfl 17 (by decide) (hts (.fieldLink RX10 45 "HedgeWaysModel" "ways" "[J") (List.mem_of_getElem? (i := 3) rfl)) (fun _ h9 => h9) rfl dX10_ways_190 ?_
          refine lv_iload_n hx hb dX10_ways_193 rfl (lv_at hl 1 rfl) ?_
          refine ctS_i0 (r := (fX10_index p2)) (wc := []) (As := [.int p2]) (rest := [.ref (ma 9)]) X hK hP hD hS [] rfl rfl rfl (KX10_index rfl _) (va_cwS 1 hts gX10_ways_X10_index rfl rfl rfl hdX10_index ⟨Nat.le_of_ble_eq_true rfl, Nat.le_of_ble_eq_true rfl⟩) rfl hl rfl (Nat.le_of_ble_eq_true rfl) dX10_ways_194 (Nat.zero_le _) (Nat.zero_le _) (fun H locs hP hS => ?_)
          obtain ⟨i4, hf⟩ := qob_gd hf
          refine va_lald hx hb hK hP 5 1 rfl rfl i4 dX10_ways_197 ?_
          cases qob_ret hf
          exact ct_lret X hQ hK hP hD hS rfl dX10_ways_198
        · intro J5 hJ5 hf
          refine qwalk2 (fun (x3_1 : Int32) (m_ways_3 : Nat → Int64) => ∀ (H : Heap) (locs : List Loc) (ls : Array Slot), ctW D A s ([oX10 mo ma 0 m_textSize m_rows m_columns m_a m_b m_readRows m_readColumns m_at m_looks m_came m_draw m_turnedRows m_turnedColumns, aZ cy (ma 1) 36 m_right, aZ cy (ma 2) 36 m_down, aI cy (ma 7) 36 m_dist_1, aI cy (ma 8) 36 m_queue_1, aJ cy (ma 9) 36 m_ways_3, aZ cy (ma 10) 36 m_shut]) H locs → lv_has ls 7 [(0, .ref mo), (2, .int p2), (3, .int x3_1)] → W p l e rmX10_ways s m args below meth c H locs 0 0 Q (F0 m 68 ls [])) ?_ _ (1 : Int32) m_ways_1 hf _ _ _ ⟨hP, hD, hS⟩ (lv_sub hl [1, 2, 0] rfl)
          intro J6 hL6 x3_1 m_ways_3 hf H locs ls ⟨hP, hD, hS⟩ hl
          refine lv_iload_n hx hb dX10_ways_68 rfl (lv_at hl 2 rfl) ?_
          refine lv_bipush (v := 36) hx hb dX10_ways_69 (by decide) ?_
          refine lv_icmp_ge (tgt := 189) hx hb dX10_ways_71 (by decide) (fun c7 => ?_) (fun c7 => ?_)
          · have hf := qob_t hf c7
            have hf := qob_esc hf
            exact hJ5 m_ways_3 hf _ _ _ ⟨hP, hD, hS⟩ (lv_sub hl [0, 1] rfl)
          · have hf := qob_f hf c7
            refine lv_iconst (v := 0) hx hb dX10_ways_74 (by decide) ?_
            refine lv_istore (lv' := [(4, .int 0), (0, .ref mo), (2, .int p2), (3, .int x3_1)]) hx hb dX10_ways_75 hl (by decide) rfl (fun ls hl => ?_)
            refine qjoin1 hf (fun (m_ways_4 : Nat → Int64) => ∀ (H : Heap) (locs : List Loc) (ls : Array Slot), ctW D A s ([oX10 mo ma 0 m_textSize m_rows m_columns m_a m_b m_readRows m_readColumns m_at m_looks m_came m_draw m_turnedRows m_turnedColumns, aZ cy (ma 1) 36 m_right, aZ cy (ma 2) 36 m_down, aI cy (ma 7) 36 m_dist_1, aI cy (ma 8) 36 m_queue_1, aJ cy (ma 9) 36 m_ways_4, aZ cy (ma 10) 36 m_shut]) H locs → lv_has ls 7 [(0, .ref mo), (2, .int p2), (3, .int x3_1)] → W p l e rmX10_ways s m args below meth c H locs 0 0 Q (F0 m 183 ls [])) ?_ ?_
            · intro m_ways_4 hf H locs ls ⟨hP, hD, hS⟩ hl
              refine lv_iinc (v := (x3_1 + 1)) (lv' := [(3, .int (x3_1 + 1)), (0, .ref mo), (2, .int p2)]) hx hb dX10_ways_183 hl (k := 2) rfl rfl (by decide) rfl (fun ls hl => ?_)
              refine lv_goto (tgt := 68) hx hb dX10_ways_186 (by decide) ?_
              exact hL6 (x3_1 + 1) m_ways_4 hf _ _ _ ⟨hP, hD, hS⟩ (lv_sub hl [1, 2, 0] rfl)
            · intro J8 hJ8 hf
              refine qwalk2 (fun (x4_1 : Int32) (m_ways_5 : Nat → Int64) => ∀ (H : Heap) (locs : List Loc) (ls : Array Slot), ctW D A s ([oX10 mo ma 0 m_textSize m_rows m_columns m_a m_b m_readRows m_readColumns m_at m_looks m_came m_draw m_turnedRows m_turnedColumns, aZ cy (ma 1) 36 m_right, aZ cy (ma 2) 36 m_down, aI cy (ma 7) 36 m_dist_1, aI cy (ma 8) 36 m_queue_1, aJ cy (ma 9) 36 m_ways_5, aZ cy (ma 10) 36 m_shut]) H locs → lv_has ls 7 [(0, .ref mo), (2, .int p2), (3, .int x3_1), (4, .int x4_1)] → W p l e rmX10_ways s m args below meth c H locs 0 0 Q (F0 m 77 ls [])) ?_ _ (0 : Int32) m_ways_3 hf _ _ _ ⟨hP, hD, hS⟩ (lv_sub hl [1, 2, 3, 0] rfl)
              intro J9 hL9 x4_1 m_ways_5 hf H locs ls ⟨hP, hD, hS⟩ hl
              refine lv_iload hx hb dX10_ways_77 (lv_at hl 3 rfl) ?_
              refine lv_bipush (v := 36) hx hb dX10_ways_79 (by decide) ?_
              refine lv_icmp_ge (tgt := 183) hx hb dX10_ways_81 (by decide) (fun c10 => ?_) (fun c10 => ?_)
              · have hf := qob_t hf c10
                have hf := qob_esc hf
                exact hJ8 m_ways_5 hf _ _ _ ⟨hP, hD, hS⟩ (lv_sub hl [0, 1, 2] rfl)
              · have hf := qob_f hf c10
                refine lv_iconst (v := 0) hx hb dX10_ways_84 (by decide) ?_
                refine lv_istore (lv' := [(5, .int 0), (0, .ref mo), (2, .int p2), (3, .int x3_1), (4, .int x4_1)]) hx hb dX10_ways_85 hl (by decide) rfl (fun ls hl => ?_)
                refine qjoin1 hf (fun (m_ways_6 : Nat → Int64) => ∀ (H : Heap) (locs : List Loc) (ls : Array Slot), ctW D A s ([oX10 mo ma 0 m_textSize m_rows m_columns m_a m_b m_readRows m_readColumns m_at m_looks m_came m_draw m_turnedRows m_turnedColumns, aZ cy (ma 1) 36 m_right, aZ cy (ma 2) 36 m_down, aI cy (ma 7) 36 m_dist_1, aI cy (ma 8) 36 m_queue_1, aJ cy (ma 9) 36 m_ways_6, aZ cy (ma 10) 36 m_shut]) H locs → lv_has ls 7 [(0, .ref mo), (2, .int p2), (3, .int x3_1), (4, .int x4_1)] → W p l e rmX10_ways s m args below meth c H locs 0 0 Q (F0 m 177 ls [])) ?_ ?_
                · intro m_ways_6 hf H locs ls ⟨hP, hD, hS⟩ hl
                  refine lv_iinc (v := (x4_1 + 1)) (lv' := [(4, .int (x4_1 + 1)), (0, .ref mo), (2, .int p2), (3, .int x3_1)]) hx hb dX10_ways_177 hl (k := 3) rfl rfl (by decide) rfl (fun ls hl => ?_)
                  refine lv_goto (tgt := 77) hx hb dX10_ways_180 (by decide) ?_
                  exact hL9 (x4_1 + 1) m_ways_6 hf _ _ _ ⟨hP, hD, hS⟩ (lv_sub hl [1, 2, 3, 0] rfl)
                · intro J11 hJ11 hf
                  refine qwalk2 (fun (x5_1 : Int32) (m_ways_7 : Nat → Int64) => ∀ (H : Heap) (locs : List Loc) (ls : Array Slot), ctW D A s ([oX10 mo ma 0 m_textSize m_rows m_columns m_a m_b m_readRows m_readColumns m_at m_looks m_came m_draw m_turnedRows m_turnedColumns, aZ cy (ma 1) 36 m_right, aZ cy (ma 2) 36 m_down, aI cy (ma 7) 36 m_dist_1, aI cy (ma 8) 36 m_queue_1, aJ cy (ma 9) 36 m_ways_7, aZ cy (ma 10) 36 m_shut]) H locs → lv_has ls 7 [(0, .ref mo), (2, .int p2), (3, .int x3_1), (4, .int x4_1), (5, .int x5_1)] → W p l e rmX10_ways s m args below meth c H locs 0 0 Q (F0 m 87 ls [])) ?_ _ (0 : Int32) m_ways_5 hf _ _ _ ⟨hP, hD, hS⟩ (lv_sub hl [1, 2, 3, 4, 0] rfl)
                  intro J12 hL12 x5_1 m_ways_7 hf H locs ls ⟨hP, hD, hS⟩ hl
                  refine lv_iload hx hb dX10_ways_87 (lv_at hl 4 rfl) ?_
                  refine lv_iconst (v := 4) hx hb dX10_ways_89 (by decide) ?_
                  refine lv_icmp_ge (tgt := 177) hx hb dX10_ways_90 (by decide) (fun c13 => ?_) (fun c13 => ?_)
                  · have hf := qob_t hf c13
                    have hf := qob_esc hf
                    exact hJ11 m_ways_7 hf _ _ _ ⟨hP, hD, hS⟩ (lv_sub hl [0, 1, 2, 3] rfl)
                  · have hf := qob_f hf c13
                    refine lv_aload_n hx hb dX10_ways_93 rfl (lv_at hl 0 rfl) ?_
                    refine va_get (D := D) (ci := 10) (v := .ref (ma 7)) (C := RX10) (T := TX10) (N := 34) hx hb hts inwX10_ways_X10 hown hK hP 0 rfl rfl 15 (by decide) (hts (.fieldLink RX10 39 "HedgeWaysModel" "dist" "[I") (List.mem_of_getElem? (i := 4) rfl)) (fun _ h9 => h9) rfl dX10_ways_94 ?_
                    refine lv_iload hx hb dX10_ways_97 (lv_at hl 3 rfl) ?_
                    obtain ⟨i14, hf⟩ := qob_gd hf
                    refine va_iald hx hb hK hP 3 0 rfl rfl i14 dX10_ways_99 ?_
                    refine lv_iload_n hx hb dX10_ways_100 rfl (lv_at hl 2 rfl) ?_
                    refine lv_icmp_ne (tgt := 177) hx hb dX10_ways_101 (by decide) (fun c15 => ?_) (fun c15 => ?_)
                    · have hf := qob_f hf c15
                      have hf := qob_esc hf
                      exact hJ11 m_ways_7 hf _ _ _ ⟨hP, hD, hS⟩ (lv_sub hl [0, 1, 2, 3] rfl)
                    · have hf := qob_t hf c15
                      refine lv_aload_n hx hb dX10_ways_104 rfl (lv_at hl 0 rfl) ?_
                      refine lv_iload hx hb dX10_ways_105 (lv_at hl 3 rfl) ?_
                      refine lv_iload hx hb dX10_ways_107 (lv_at hl 4 rfl) ?_
                      obtain ⟨r_1, q16, hf⟩ := qcall1 hf
                      refine ctV_i0 (r := r_1) (wc := [oX10 mo ma 0 m_textSize m_rows m_columns m_a m_b m_readRows m_readColumns m_at m_looks m_came m_draw m_turnedRows m_turnedColumns, aZ cy (ma 1) 36 m_right, aZ cy (ma 2) 36 m_down]) (As := [.int x4_1, .int x5_1]) (rest := []) (q0 := 0) X hK hP hD hS [0, 1, 2] rfl rfl rfl (KX10_isOpen q16 _) (cwV 2 hts gX10_ways_X10_isOpen rfl rfl rfl hdX10_isOpen ⟨Nat.le_of_ble_eq_true rfl, Nat.le_of_ble_eq_true rfl⟩) rfl rfl rfl hl rfl (Nat.le_of_ble_eq_true rfl) dX10_ways_109 (Nat.zero_le _) (Nat.zero_le _) (fun H locs hP hS => ?_)
                      refine qjoin1 hf (fun (s_1 : Int32) => ∀ (H : Heap) (locs : List Loc) (ls : Array Slot), ctW D A s ([oX10 mo ma 0 m_textSize m_rows m_columns m_a m_b m_readRows m_readColumns m_at m_looks m_came m_draw m_turnedRows m_turnedColumns, aZ cy (ma 1) 36 m_right, aZ cy (ma 2) 36 m_down, aI cy (ma 7) 36 m_dist_1, aI cy (ma 8) 36 m_queue_1, aJ cy (ma 9) 36 m_ways_7, aZ cy (ma 10) 36 m_shut]) H locs → lv_has ls 7 [(0, .ref mo), (2, .int p2), (3, .int x3_1), (4, .int x4_1), (5, .int x5_1)] → W p l e rmX10_ways s m args below meth c H locs 0 0 Q (F0 m 128 ls [.int s_1])) ?_ ?_
                      · intro s_1 hf H locs ls ⟨hP, hD, hS⟩ hl
                        refine lv_istore (lv' := [(6, .int s_1), (0, .ref mo), (2, .int p2), (3, .int x3_1), (4, .int x4_1), (5, .int x5_1)]) hx hb dX10_ways_128 hl (by decide) rfl (fun ls hl => ?_)
                        refine lv_aload_n hx hb dX10_ways_130 rfl (lv_at hl 1 rfl) ?_
                        refine va_get (D := D) (ci := 10) (v := .ref (ma 9)) (C := RX10) (T := TX10) (N := 34) hx hb hts inwX10_ways_X10 hown hK hP 0 rfl rfl 17 (by decide) (hts (.fieldLink RX10 45 "HedgeWaysModel" "ways" "[J") (List.mem_of_getElem? (i := 3) rfl)) (fun _ h9 => h9) rfl dX10_ways_131 ?_
                        refine lv_iload hx hb dX10_ways_134 (lv_at hl 4 rfl) ?_
                        refine lv_dup2_11 hx hb dX10_ways_136 rfl rfl ?_
                        obtain ⟨i17, hf⟩ := qob_gd hf
                        refine va_lald hx hb hK hP 5 1 rfl rfl i17 dX10_ways_137 ?_
                        refine lv_iload hx hb dX10_ways_138 (lv_at hl 0 rfl) ?_
                        refine lv_bipush (v := (-9)) hx hb dX10_ways_140 (by decide) ?_
                        refine qjoin1 hf (fun (s_2 : Int64) => ∀ (H : Heap) (locs : List Loc) (ls : Array Slot), ctW D A s ([oX10 mo ma 0 m_textSize m_rows m_columns m_a m_b m_readRows m_readColumns m_at m_looks m_came m_draw m_turnedRows m_turnedColumns, aZ cy (ma 1) 36 m_right, aZ cy (ma 2) 36 m_down, aI cy (ma 7) 36 m_dist_1, aI cy (ma 8) 36 m_queue_1, aJ cy (ma 9) 36 m_ways_7, aZ cy (ma 10) 36 m_shut]) H locs → lv_has ls 7 [(0, .ref mo), (2, .int p2), (3, .int x3_1), (4, .int x4_1), (5, .int x5_1)] → W p l e rmX10_ways s m args below meth c H locs 0 0 Q (F0 m 169 ls [.long s_2, .long (m_ways_7 x4_1.toNatClampNeg), .int x4_1, .ref (ma 9)])) ?_ ?_
                        · intro s_2 hf H locs ls ⟨hP, hD, hS⟩ hl
                          refine lv_ladd hx hb dX10_ways_169 ?_
                          obtain ⟨i18, hf⟩ := qob_gd hf
                          obtain ⟨m_ways_8, e19⟩ : ∃ z, z = (vp_updL m_ways_7 x4_1.toNatClampNeg ((m_ways_7 x4_1.toNatClampNeg) + s_2)) := ⟨_, rfl⟩
                          have hf := qob_bd hf e19
                          refine va_last hx hb hK hP hD hS 5 1 rfl rfl i18 dX10_ways_170 (fun H locs hP hD hS => ?_)
                          have hP : va_P D vwCl ([oX10 mo ma 0 m_textSize m_rows m_columns m_a m_b m_readRows m_readColumns m_at m_looks m_came m_draw m_turnedRows m_turnedColumns, aZ cy (ma 1) 36 m_right, aZ cy (ma 2) 36 m_down, aI cy (ma 7) 36 m_dist_1, aI cy (ma 8) 36 m_queue_1, aJ cy (ma 9) 36 m_ways_8, aZ cy (ma 10) 36 m_shut]) H := by rw [e19]; exact hP
                          have hD : va_D A ([oX10 mo ma 0 m_textSize m_rows m_columns m_a m_b m_readRows m_readColumns m_at m_looks m_came m_draw m_turnedRows m_turnedColumns, aZ cy (ma 1) 36 m_right, aZ cy (ma 2) 36 m_down, aI cy (ma 7) 36 m_dist_1, aI cy (ma 8) 36 m_queue_1, aJ cy (ma 9) 36 m_ways_8, aZ cy (ma 10) 36 m_shut]) := by rw [e19]; exact hD
                          refine lv_iinc (v := (x5_1 + 1)) (lv' := [(5, .int (x5_1 + 1)), (0, .ref mo), (2, .int p2), (3, .int x3_1), (4, .int x4_1)]) hx hb dX10_ways_171 hl (k := 4) rfl rfl (by decide) rfl (fun ls hl => ?_)
                          refine lv_goto (tgt := 87) hx hb dX10_ways_174 (by decide) ?_
                          exact hL12 (x5_1 + 1) m_ways_8 hf _ _ _ ⟨hP, hD, hS⟩ (lv_sub hl [1, 2, 3, 4, 0] rfl)
                        · intro J20 hJ20 hf
                          refine lv_icmp_eq (tgt := 168) hx hb dX10_ways_142 (by decide) (fun c21 => ?_) (fun c21 => ?_)
                          · have hf := qob_t hf c21
                            refine lv_lconst (v := 0) hx hb dX10_ways_168 (by decide) ?_
                            exact hJ20 0 hf _ _ _ ⟨hP, hD, hS⟩ (lv_sub hl [1, 2, 3, 4, 5] rfl)
                          · have hf := qob_f hf c21
                            refine lv_aload_n hx hb dX10_ways_145 rfl (lv_at hl 1 rfl) ?_
                            refine va_get (D := D) (ci := 10) (v := .ref (ma 7)) (C := RX10) (T := TX10) (N := 34) hx hb hts inwX10_ways_X10 hown hK hP 0 rfl rfl 15 (by decide) (hts (.fieldLink RX10 39 "HedgeWaysModel" "dist" "[I") (List.mem_of_getElem? (i := 4) rfl)) (fun _ h9 => h9) rfl dX10_ways_146 ?_
                            refine lv_iload hx hb dX10_ways_149 (lv_at hl 0 rfl) ?_
                            obtain ⟨i22, hf⟩ := qob_gd hf
                            refine va_iald hx hb hK hP 3 0 rfl rfl i22 dX10_ways_151 ?_
                            refine lv_iload_n hx hb dX10_ways_152 rfl (lv_at hl 3 rfl) ?_
                            refine lv_iconst (v := 1) hx hb dX10_ways_153 (by decide) ?_
                            refine lv_isub hx hb dX10_ways_154 ?_
                            refine lv_icmp_ne (tgt := 168) hx hb dX10_ways_155 (by decide) (fun c23 => ?_) (fun c23 => ?_)
                            · have hf := qob_f hf c23
                              refine lv_lconst (v := 0) hx hb dX10_ways_168 (by decide) ?_
                              exact hJ20 0 hf _ _ _ ⟨hP, hD, hS⟩ (lv_sub hl [1, 2, 3, 4, 5] rfl)
                            · have hf := qob_t hf c23
                              refine lv_aload_n hx hb dX10_ways_158 rfl (lv_at hl 1 rfl) ?_
                              refine va_get (D := D) (ci := 10) (v := .ref (ma 9)) (C := RX10) (T := TX10) (N := 34) hx hb hts inwX10_ways_X10 hown hK hP 0 rfl rfl 17 (by decide) (hts (.fieldLink RX10 45 "HedgeWaysModel" "ways" "[J") (List.mem_of_getElem? (i := 3) rfl)) (fun _ h9 => h9) rfl dX10_ways_159 ?_
                              refine lv_iload hx hb dX10_ways_162 (lv_at hl 0 rfl) ?_
                              obtain ⟨i24, hf⟩ := qob_gd hf
                              refine va_lald hx hb hK hP 5 1 rfl rfl i24 dX10_ways_164 ?_
                              refine lv_goto (tgt := 169) hx hb dX10_ways_165 (by decide) ?_
                              exact hJ20 (m_ways_7 s_1.toNatClampNeg) hf _ _ _ ⟨hP, hD, hS⟩ (lv_sub hl [1, 2, 3, 4, 5] rfl)
                      · intro J25 hJ25 hf
                        refine lv_if_eq (tgt := 126) hx hb dX10_ways_112 (by decide) (fun c26 => ?_) (fun c26 => ?_)
                        · have hf := qob_t hf c26
                          refine lv_bipush (v := (-9)) hx hb dX10_ways_126 (by decide) ?_
                          exact hJ25 (-9) hf _ _ _ ⟨hP, hD, hS⟩ hl
                        · have hf := qob_f hf c26
                          refine lv_aload_n hx hb dX10_ways_115 rfl (lv_at hl 0 rfl) ?_
                          refine lv_iload hx hb dX10_ways_116 (lv_at hl 3 rfl) ?_
                          refine lv_iload hx hb dX10_ways_118 (lv_at hl 4 rfl) ?_
                          refine ctV_i0 (r := (fX10_beside m_rows m_columns x4_1 x5_1)) (wc := [oX10 mo ma 0 m_textSize m_rows m_columns m_a m_b m_readRows m_readColumns m_at m_looks m_came m_draw m_turnedRows m_turnedColumns]) (As := [.int x4_1, .int x5_1]) (rest := []) (q0 := 0) X hK hP hD hS [0] rfl rfl rfl (KX10_beside rfl _) (cwV 2 hts gX10_ways_X10_beside rfl rfl rfl hdX10_beside ⟨Nat.le_of_ble_eq_true rfl, Nat.le_of_ble_eq_true rfl⟩) rfl rfl rfl hl rfl (Nat.le_of_ble_eq_true rfl) dX10_ways_120 (Nat.zero_le _) (Nat.zero_le _) (fun H locs hP hS => ?_)
                          refine lv_goto (tgt := 128) hx hb dX10_ways_123 (by decide) ?_
                          exact hJ25 (fX10_beside m_rows m_columns x4_1 x5_1) hf _ _ _ ⟨hP, hD, hS⟩ hl
      · intro J27 hJ27 hf
        refine qwalk2 (fun (x3_2 : Int32) (m_ways_9 : Nat → Int64) => ∀ (H : Heap) (locs : List Loc) (ls : Array Slot), ctW D A s ([oX10 mo ma 0 m_textSize m_rows m_columns m_a m_b m_readRows m_readColumns m_at m_looks m_came m_draw m_turnedRows m_turnedColumns, aZ cy (ma 1) 36 m_right, aZ cy (ma 2) 36 m_down, aI cy (ma 7) 36 m_dist_1, aI cy (ma 8) 36 m_queue_1, aJ cy (ma 9) 36 m_ways_9, aZ cy (ma 10) 36 m_shut]) H locs → lv_has ls 7 [(0, .ref mo), (1, .int p1), (2, .int p2), (3, .int x3_2)] → W p l e rmX10_ways s m args below meth c H locs 0 0 Q (F0 m 35 ls [])) ?_ _ (0 : Int32) m_ways hf _ _ _ ⟨hP, hD, hS⟩ (lv_sub hl [1, 2, 3, 0] rfl)
        intro J28 hL28 x3_2 m_ways_9 hf H locs ls ⟨hP, hD, hS⟩ hl
        refine lv_iload_n hx hb dX10_ways_35 rfl (lv_at hl 3 rfl) ?_
        refine lv_bipush (v := 36) hx hb dX10_ways_36 (by decide) ?_
        refine lv_icmp_ge (tgt := 66) hx hb dX10_ways_38 (by decide) (fun c29 => ?_) (fun c29 => ?_)
        · have hf := qob_t hf c29
          have hf := qob_esc hf
          exact hJ27 m_ways_9 hf _ _ _ ⟨hP, hD, hS⟩ (lv_sub hl [0, 2] rfl)
        · have hf := qob_f hf c29
          refine lv_aload_n hx hb dX10_ways_41 rfl (lv_at hl 0 rfl) ?_
          refine va_get (D := D) (ci := 10) (v := .ref (ma 9)) (C := RX10) (T := TX10) (N := 34) hx hb hts inwX10_ways_X10 hown hK hP 0 rfl rfl 17 (by decide) (hts (.fieldLink RX10 45 "HedgeWaysModel" "ways" "[J") (List.mem_of_getElem? (i := 3) rfl)) (fun _ h9 => h9) rfl dX10_ways_42 ?_
          refine lv_iload_n hx hb dX10_ways_45 rfl (lv_at hl 3 rfl) ?_
          refine lv_iload_n hx hb dX10_ways_46 rfl (lv_at hl 3 rfl) ?_
          refine lv_iload_n hx hb dX10_ways_47 rfl (lv_at hl 1 rfl) ?_
          refine ctS_i0 (r := (fX10_index p1)) (wc := []) (As := [.int p1]) (rest := [.int x3_2, .int x3_2, .ref (ma 9)]) X hK hP hD hS [] rfl rfl rfl (KX10_index rfl _) (va_cwS 1 hts gX10_ways_X10_index rfl rfl rfl hdX10_index ⟨Nat.le_of_ble_eq_true rfl, Nat.le_of_ble_eq_true rfl⟩) rfl hl rfl (Nat.le_of_ble_eq_true rfl) dX10_ways_48 (Nat.zero_le _) (Nat.zero_le _) (fun H locs hP hS => ?_)
          refine lv_icmp_ne (tgt := 58) hx hb dX10_ways_51 (by decide) (fun c30 => ?_) (fun c30 => ?_)
          · have hf := qob_f hf c30
            refine lv_lconst (v := 0) hx hb dX10_ways_58 (by decide) ?_
            obtain ⟨i31, hf⟩ := qob_gd hf
            refine va_last hx hb hK hP hD hS 5 1 rfl rfl i31 dX10_ways_59 (fun H locs hP hD hS => ?_)
            have hP : va_P D vwCl ([oX10 mo ma 0 m_textSize m_rows m_columns m_a m_b m_readRows m_readColumns m_at m_looks m_came m_draw m_turnedRows m_turnedColumns, aZ cy (ma 1) 36 m_right, aZ cy (ma 2) 36 m_down, aI cy (ma 7) 36 m_dist_1, aI cy (ma 8) 36 m_queue_1, aJ cy (ma 9) 36 (vp_updL m_ways_9 x3_2.toNatClampNeg 0), aZ cy (ma 10) 36 m_shut]) H := hP
            have hD : va_D A ([oX10 mo ma 0 m_textSize m_rows m_columns m_a m_b m_readRows m_readColumns m_at m_looks m_came m_draw m_turnedRows m_turnedColumns, aZ cy (ma 1) 36 m_right, aZ cy (ma 2) 36 m_down, aI cy (ma 7) 36 m_dist_1, aI cy (ma 8) 36 m_queue_1, aJ cy (ma 9) 36 (vp_updL m_ways_9 x3_2.toNatClampNeg 0), aZ cy (ma 10) 36 m_shut]) := hD
            refine lv_iinc (v := (x3_2 + 1)) (lv' := [(3, .int (x3_2 + 1)), (0, .ref mo), (1, .int p1), (2, .int p2)]) hx hb dX10_ways_60 hl (k := 3) rfl rfl (by decide) rfl (fun ls hl => ?_)
            refine lv_goto (tgt := 35) hx hb dX10_ways_63 (by decide) ?_
            exact hL28 (x3_2 + 1) (vp_updL m_ways_9 x3_2.toNatClampNeg 0) hf _ _ _ ⟨hP, hD, hS⟩ (lv_sub hl [1, 2, 3, 0] rfl)
          · have hf := qob_t hf c30
            refine lv_lconst (v := 1) hx hb dX10_ways_54 (by decide) ?_
            refine lv_goto (tgt := 59) hx hb dX10_ways_55 (by decide) ?_
            obtain ⟨i32, hf⟩ := qob_gd hf
            refine va_last hx hb hK hP hD hS 5 1 rfl rfl i32 dX10_ways_59 (fun H locs hP hD hS => ?_)
            have hP : va_P D vwCl ([oX10 mo ma 0 m_textSize m_rows m_columns m_a m_b m_readRows m_readColumns m_at m_looks m_came m_draw m_turnedRows m_turnedColumns, aZ cy (ma 1) 36 m_right, aZ cy (ma 2) 36 m_down, aI cy (ma 7) 36 m_dist_1, aI cy (ma 8) 36 m_queue_1, aJ cy (ma 9) 36 (vp_updL m_ways_9 x3_2.toNatClampNeg 1), aZ cy (ma 10) 36 m_shut]) H := hP
            have hD : va_D A ([oX10 mo ma 0 m_textSize m_rows m_columns m_a m_b m_readRows m_readColumns m_at m_looks m_came m_draw m_turnedRows m_turnedColumns, aZ cy (ma 1) 36 m_right, aZ cy (ma 2) 36 m_down, aI cy (ma 7) 36 m_dist_1, aI cy (ma 8) 36 m_queue_1, aJ cy (ma 9) 36 (vp_updL m_ways_9 x3_2.toNatClampNeg 1), aZ cy (ma 10) 36 m_shut]) := hD
            refine lv_iinc (v := (x3_2 + 1)) (lv' := [(3, .int (x3_2 + 1)), (0, .ref mo), (1, .int p1), (2, .int p2)]) hx hb dX10_ways_60 hl (k := 3) rfl rfl (by decide) rfl (fun ls hl => ?_)
            refine lv_goto (tgt := 35) hx hb dX10_ways_63 (by decide) ?_
            exact hL28 (x3_2 + 1) (vp_updL m_ways_9 x3_2.toNatClampNeg 1) hf _ _ _ ⟨hP, hD, hS⟩ (lv_sub hl [1, 2, 3, 0] rfl)
    · have hf := qob_t hf c2
      refine lv_ldc2 hx hb hown (hts (.constantLong RX10 201 (-1)) (List.mem_of_getElem? (i := 2) rfl)) dX10_ways_21 ?_
      cases qob_ret hf
      exact ct_lret X hQ hK hP hD hS rfl dX10_ways_24
theorem inwX10_step_X10 : ∀ w ∈ wsX100, w ∈ wsX10_step := fun _ h => List.mem_cons_of_mem _ (List.mem_append_right _ h)
abbrev rmX10_step : Room := { frames := 4, cells := 0, slots := 0, locals := 98 }
theorem hdX10_step : yX10_step.cls = RX10 ∧ yX10_step.cls ≠ "java/lang/invoke/MethodHandle" ∧ yX10_step.cls ≠ "java/lang/invoke/VarHandle" ∧ (parseMethodDescriptor yX10_step.desc).map (fun d => d.parameters.length) = some 3 := by decide +kernel
set_option maxHeartbeats 4000000 in
set_option maxRecDepth 100000 in
theorem KX10_step {l : Launch} {D : va_G} {cy : Nat → ClassId} {mo : Nat} {ma : Nat → Nat} {m_thrown : Int32} {m_textSize : Int32} {m_rows : Int32} {m_columns : Int32} {m_a : Int32} {m_b : Int32} {m_readRows : Int32} {m_readColumns : Int32} {m_at : Int32} {m_looks : Int32} {m_came : Int32} {m_draw : Int64} {m_turnedRows : Int32} {m_turnedColumns : Int32} {m_right : Nat → Int32} {m_down : Nat → Int32} {m_dist : Nat → Int32} {m_queue : Nat → Int32} {m_shut : Nat → Int32} {p1 : Int32} {p2 : Int32} {p3 : Int32} {r : Int32} {m_thrown' : Int32} {m_dist' : Nat → Int32} {m_queue' : Nat → Int32} (hf : fX10_step m_thrown m_rows m_columns m_right m_down m_dist m_queue m_shut p1 p2 p3 = some (r, m_thrown', m_dist', m_queue')) : CtI l yX10_step wsX10_step rmX10_step D cy [.ref mo, .int p1, .int p2, .int p3] ([oX10 mo ma m_thrown m_textSize m_rows m_columns m_a m_b m_readRows m_readColumns m_at m_looks m_came m_draw m_turnedRows m_turnedColumns, aZ cy (ma 1) 36 m_right, aZ cy (ma 2) 36 m_down, aI cy (ma 7) 36 m_dist, aI cy (ma 8) 36 m_queue, aZ cy (ma 10) 36 m_shut]) ([oX10 mo ma m_thrown' m_textSize m_rows m_columns m_a m_b m_readRows m_readColumns m_at m_looks m_came m_draw m_turnedRows m_turnedColumns, aZ cy (ma 1) 36 m_right, aZ cy (ma 2) 36 m_down, aI cy (ma 7) 36 m_dist', aI cy (ma 8) 36 m_queue', aZ cy (ma 10) 36 m_shut]) r := by
  refine CtI.of (cc := cX10_step) (maxL := 7) (ret := some .int) (own := RX10) (by decide) rfl rfl (Nat.le_of_ble_eq_true rfl) ?_
  intro p e s m args below meth c A Q X hQ hK hP hD hS ls hl
  obtain ⟨hx, hb, hml, hown, hts, hr, hlocks, hA, hZ⟩ := id X
  have hl : lv_has ls 7 [(0, .ref mo), (1, .int p1), (2, .int p2), (3, .int p3)] := hl
  unfold fX10_step at hf
  have hf := qob_top hf
  refine lv_aload_n hx hb dX10_step_0 rfl (lv_at hl 0 rfl) ?_
  refine lv_iconst (v := 0) hx hb dX10_step_1 (by decide) ?_
  refine va_put (D := D) (ci := 10) (v := .int 0) (ty := .int) (C := RX10) (T := TX10) (N := 34) hx hb hts inwX10_step_X10 tyX10 tyX10_ok nmX10 hown hK hP hD hS 0 rfl rfl 0 (by decide) (hts (.fieldLink RX10 79 "HedgeWaysModel" "thrown" "I") (List.mem_of_getElem? (i := 1) rfl)) (fun _ h9 => h9) rfl (tyX10_ok 0 (by decide)) rfl rfl (Nat.le_of_ble_eq_true rfl) dX10_step_2 (fun H locs hP hD hS => ?_)
  have hP : va_P D vwCl ([oX10 mo ma 0 m_textSize m_rows m_columns m_a m_b m_readRows m_readColumns m_at m_looks m_came m_draw m_turnedRows m_turnedColumns, aZ cy (ma 1) 36 m_right, aZ cy (ma 2) 36 m_down, aI cy (ma 7) 36 m_dist, aI cy (ma 8) 36 m_queue, aZ cy (ma 10) 36 m_shut]) H := hP
  have hD : va_D A ([oX10 mo ma 0 m_textSize m_rows m_columns m_a m_b m_readRows m_readColumns m_at m_looks m_came m_draw m_turnedRows m_turnedColumns, aZ cy (ma 1) 36 m_right, aZ cy (ma 2) 36 m_down, aI cy (ma 7) 36 m_dist, aI cy (ma 8) 36 m_queue, aZ cy (ma 10) 36 m_shut]) := hD
  refine lv_aload_n hx hb dX10_step_5 rfl (lv_at hl 0 rfl) ?_
  refine lv_iload_n hx hb dX10_step_6 rfl (lv_at hl 1 rfl) ?_
  refine ctV_i0 (r := (fX10_isCell m_rows m_columns p1)) (wc := [oX10 mo ma 0 m_textSize m_rows m_columns m_a m_b m_readRows m_readColumns m_at m_looks m_came m_draw m_turnedRows m_turnedColumns]) (As := [.int p1]) (rest := []) (q0 := 0) X hK hP hD hS [0] rfl rfl rfl (KX10_isCell rfl _) (cwV 1 hts gX10_step_X10_isCell rfl rfl rfl hdX10_isCell ⟨Nat.le_of_ble_eq_true rfl, Nat.le_of_ble_eq_true rfl⟩) rfl rfl rfl hl rfl (Nat.le_of_ble_eq_true rfl) dX10_step_7 (Nat.zero_le _) (Nat.zero_le _) (fun H locs hP hS => ?_)
  refine lv_if_eq (tgt := 21) hx hb dX10_step_10 (by decide) (fun c1 => ?_) (fun c1 => ?_)
  · have hf := qob_t hf c1
    refine lv_iconst (v := (-1)) hx hb dX10_step_21 (by decide) ?_
    cases qob_ret hf
    exact ct_iret X hQ hK hP hD hS rfl dX10_step_22
  · have hf := qob_f hf c1
    refine lv_aload_n hx hb dX10_step_13 rfl (lv_at hl 0 rfl) ?_
    refine lv_iload_n hx hb dX10_step_14 rfl (lv_at hl 2 rfl) ?_
    refine ctV_i0 (r := (fX10_isCell m_rows m_columns p2)) (wc := [oX10 mo ma 0 m_textSize m_rows m_columns m_a m_b m_readRows m_readColumns m_at m_looks m_came m_draw m_turnedRows m_turnedColumns]) (As := [.int p2]) (rest := []) (q0 := 0) X hK hP hD hS [0] rfl rfl rfl (KX10_isCell rfl _) (cwV 1 hts gX10_step_X10_isCell rfl rfl rfl hdX10_isCell ⟨Nat.le_of_ble_eq_true rfl, Nat.le_of_ble_eq_true rfl⟩) rfl rfl rfl hl rfl (Nat.le_of_ble_eq_true rfl) dX10_step_15 (Nat.zero_le _) (Nat.zero_le _) (fun H locs hP hS => ?_)
    refine lv_if_ne (tgt := 23) hx hb dX10_step_18 (by decide) (fun c2 => ?_) (fun c2 => ?_)
    · have hf := qob_f hf c2
      refine lv_aload_n hx hb dX10_step_23 rfl (lv_at hl 0 rfl) ?_
      refine lv_iload_n hx hb dX10_step_24 rfl (lv_at hl 2 rfl) ?_
      refine ctS_i0 (r := (fX10_index p2)) (wc := []) (As := [.int p2]) (rest := [.ref mo]) X hK hP hD hS [] rfl rfl rfl (KX10_index rfl _) (va_cwS 1 hts gX10_step_X10_index rfl rfl rfl hdX10_index ⟨Nat.le_of_ble_eq_true rfl, Nat.le_of_ble_eq_true rfl⟩) rfl hl rfl (Nat.le_of_ble_eq_true rfl) dX10_step_25 (Nat.zero_le _) (Nat.zero_le _) (fun H locs hP hS => ?_)
      obtain ⟨m_dist_1, m_queue_1, q3, hf⟩ := qcall2 hf
      refine ctV_v (wc := [oX10 mo ma 0 m_textSize m_rows m_columns m_a m_b m_readRows m_readColumns m_at m_looks m_came m_draw m_turnedRows m_turnedColumns, aZ cy (ma 1) 36 m_right, aZ cy (ma 2) 36 m_down, aI cy (ma 7) 36 m_dist, aI cy (ma 8) 36 m_queue, aZ cy (ma 10) 36 m_shut]) (w1 := [oX10 mo ma 0 m_textSize m_rows m_columns m_a m_b m_readRows m_readColumns m_at m_looks m_came m_draw m_turnedRows m_turnedColumns, aZ cy (ma 1) 36 m_right, aZ cy (ma 2) 36 m_down, aI cy (ma 7) 36 m_dist_1, aI cy (ma 8) 36 m_queue_1, aZ cy (ma 10) 36 m_shut]) (wr := []) (wn := [oX10 mo ma 0 m_textSize m_rows m_columns m_a m_b m_readRows m_readColumns m_at m_looks m_came m_draw m_turnedRows m_turnedColumns, aZ cy (ma 1) 36 m_right, aZ cy (ma 2) 36 m_down, aI cy (ma 7) 36 m_dist_1, aI cy (ma 8) 36 m_queue_1, aZ cy (ma 10) 36 m_shut]) (As := [.int (fX10_index p2)]) (rest := []) (q0 := 0) X hK hP hD hS [0, 1, 2, 3, 4, 5] [] [0, 1, 2, 3, 4, 5] rfl rfl rfl rfl rfl (by decide) rfl rfl rfl (KX10_layFar q3 _) (cwV 1 hts gX10_step_X10_layFar rfl rfl rfl hdX10_layFar ⟨Nat.le_of_ble_eq_true rfl, Nat.le_of_ble_eq_true rfl⟩) rfl rfl rfl hl rfl (Nat.le_of_ble_eq_true rfl) dX10_step_28 (Nat.zero_le _) (Nat.zero_le _) (fun H locs hP hD hS => ?_)
      refine lv_iload_n hx hb dX10_step_31 rfl (lv_at hl 1 rfl) ?_
      refine ctS_i0 (r := (fX10_index p1)) (wc := []) (As := [.int p1]) (rest := []) X hK hP hD hS [] rfl rfl rfl (KX10_index rfl _) (va_cwS 1 hts gX10_step_X10_index rfl rfl rfl hdX10_index ⟨Nat.le_of_ble_eq_true rfl, Nat.le_of_ble_eq_true rfl⟩) rfl hl rfl (Nat.le_of_ble_eq_true rfl) dX10_step_32 (Nat.zero_le _) (Nat.zero_le _) (fun H locs hP hS => ?_)
      refine lv_istore (lv' := [(4, .int (fX10_index p1)), (0, .ref mo), (1, .int p1), (2, .int p2), (3, .int p3)]) hx hb dX10_step_35 hl (by decide) rfl (fun ls hl => ?_)
      refine lv_aload_n hx hb dX10_step_37 rfl (lv_at hl 1 rfl) ?_
      refine va_get (D := D) (ci := 10) (v := .ref (ma 7)) (C := RX10) (T := TX10) (N := 34) hx hb hts inwX10_step_X10 hown hK hP 0 rfl rfl 15 (by decide) (hts (.fieldLink RX10 39 "HedgeWaysModel" "dist" "[I") (List.mem_of_getElem? (i := 2) rfl)) (fun _ h9 => h9) rfl dX10_step_38 ?_
      refine lv_iload hx hb dX10_step_41 (lv_at hl 0 rfl) ?_
      obtain ⟨i4, hf⟩ := qob_gd hf
      refine va_iald hx hb hK hP 3 0 rfl rfl i4 dX10_step_43 ?_
      refine lv_sipush (v := 9999) hx hb dX10_step_44 (by decide) ?_
      refine lv_icmp_eq (tgt := 67) hx hb dX10_step_47 (by decide) (fun c5 => ?_) (fun c5 => ?_)
      · have hf := qob_t hf c5
        refine lv_bipush (v := (-9)) hx hb dX10_step_67 (by decide) ?_
        cases qob_ret hf
        exact ct_iret X hQ hK hP hD hS rfl dX10_step_69
      · have hf := qob_f hf c5
        refine lv_iload_n hx hb dX10_step_50 rfl (lv_at hl 4 rfl) ?_
        refine lv_i2l (v := p3.toInt64) hx hb dX10_step_51 rfl ?_
        refine lv_lconst (v := 0) hx hb dX10_step_52 (by decide) ?_
        refine lv_aload_n hx hb dX10_step_53 rfl (lv_at hl 1 rfl) ?_
        refine va_get (D := D) (ci := 10) (v := .ref (ma 7)) (C := RX10) (T := TX10) (N := 34) hx hb hts inwX10_step_X10 hown hK hP 0 rfl rfl 15 (by decide) (hts (.fieldLink RX10 39 "HedgeWaysModel" "dist" "[I") (List.mem_of_getElem? (i := 2) rfl)) (fun _ h9 => h9) rfl dX10_step_54 ?_
        refine lv_iload hx hb dX10_step_57 (lv_at hl 0 rfl) ?_
        obtain ⟨i6, hf⟩ := qob_gd hf
        refine va_iald hx hb hK hP 3 0 rfl rfl i6 dX10_step_59 ?_
        refine lv_i2l (v := (m_dist_1 ((fX10_index p1)).toNatClampNeg).toInt64) hx hb dX10_step_60 rfl ?_
        refine ctS_i0 (r := (fX10_in p3.toInt64 0 ((m_dist_1 ((fX10_index p1)).toNatClampNeg).toInt64))) (wc := []) (As := [.long p3.toInt64, .long 0, .long ((m_dist_1 ((fX10_index p1)).toNatClampNeg).toInt64)]) (rest := []) X hK hP hD hS [] rfl rfl rfl (KX10_in rfl _) (va_cwS 3 hts gX10_step_X10_in rfl rfl rfl hdX10_in ⟨Nat.le_of_ble_eq_true rfl, Nat.le_of_ble_eq_true rfl⟩) rfl hl rfl (Nat.le_of_ble_eq_true rfl) dX10_step_61 (Nat.zero_le _) (Nat.zero_le _) (fun H locs hP hS => ?_)
        refine lv_if_ne (tgt := 70) hx hb dX10_step_64 (by decide) (fun c7 => ?_) (fun c7 => ?_)
        · have hf := qob_f hf c7
          refine lv_iconst (v := 0) hx hb dX10_step_70 (by decide) ?_
          refine lv_istore (lv' := [(5, .int 0), (4, .int (fX10_index p1)), (0, .ref mo), (1, .int p1), (2, .int p2), (3, .int p3)]) hx hb dX10_step_71 hl (by decide) rfl (fun ls hl => ?_)
          refine qjoin1 hf (fun (x4_1 : Int32) => ∀ (H : Heap) (locs : List Loc) (ls : Array Slot), ctW D A s ([oX10 mo ma 0 m_textSize m_rows m_columns m_a m_b m_readRows m_readColumns m_at m_looks m_came m_draw m_turnedRows m_turnedColumns, aZ cy (ma 1) 36 m_right, aZ cy (ma 2) 36 m_down, aI cy (ma 7) 36 m_dist_1, aI cy (ma 8) 36 m_queue_1, aZ cy (ma 10) 36 m_shut]) H locs → lv_has ls 7 [(4, .int x4_1)] → W p l e rmX10_step s m args below meth c H locs 0 0 Q (F0 m 140 ls [])) ?_ ?_
          · intro x4_1 hf H locs ls ⟨hP, hD, hS⟩ hl
            refine lv_iload hx hb dX10_step_140 (lv_at hl 0 rfl) ?_
            refine ctS_i0 (r := (fX10_code x4_1)) (wc := []) (As := [.int x4_1]) (rest := []) X hK hP hD hS [] rfl rfl rfl (KX10_code rfl _) (va_cwS 1 hts gX10_step_X10_code rfl rfl rfl hdX10_code ⟨Nat.le_of_ble_eq_true rfl, Nat.le_of_ble_eq_true rfl⟩) rfl hl rfl (Nat.le_of_ble_eq_true rfl) dX10_step_142 (Nat.zero_le _) (Nat.zero_le _) (fun H locs hP hS => ?_)
            cases qob_ret hf
            exact ct_iret X hQ hK hP hD hS rfl dX10_step_145
          · intro J8 hJ8 hf
            refine qwalk2 (fun (x4_2 : Int32) (x5_1 : Int32) => ∀ (H : Heap) (locs : List Loc) (ls : Array Slot), ctW D A s ([oX10 mo ma 0 m_textSize m_rows m_columns m_a m_b m_readRows m_readColumns m_at m_looks m_came m_draw m_turnedRows m_turnedColumns, aZ cy (ma 1) 36 m_right, aZ cy (ma 2) 36 m_down, aI cy (ma 7) 36 m_dist_1, aI cy (ma 8) 36 m_queue_1, aZ cy (ma 10) 36 m_shut]) H locs → lv_has ls 7 [(0, .ref mo), (3, .int p3), (4, .int x4_2), (5, .int x5_1)] → W p l e rmX10_step s m args below meth c H locs 0 0 Q (F0 m 73 ls [])) ?_ _ (fX10_index p1) (0 : Int32) hf _ _ _ ⟨hP, hD, hS⟩ (lv_sub hl [2, 5, 1, 0] rfl)
            intro J9 hL9 x4_2 x5_1 hf H locs ls ⟨hP, hD, hS⟩ hl
            refine lv_iload hx hb dX10_step_73 (lv_at hl 3 rfl) ?_
            refine lv_iload_n hx hb dX10_step_75 rfl (lv_at hl 1 rfl) ?_
            refine lv_icmp_ge (tgt := 140) hx hb dX10_step_76 (by decide) (fun c10 => ?_) (fun c10 => ?_)
            · have hf := qob_t hf c10
              have hf := qob_esc hf
              exact hJ8 x4_2 hf _ _ _ ⟨hP, hD, hS⟩ (lv_sub hl [2] rfl)
            · have hf := qob_f hf c10
              refine lv_iconst (v := 0) hx hb dX10_step_79 (by decide) ?_
              refine lv_istore (lv' := [(6, .int 0), (0, .ref mo), (3, .int p3), (4, .int x4_2), (5, .int x5_1)]) hx hb dX10_step_80 hl (by decide) rfl (fun ls hl => ?_)
              refine qjoin1 hf (fun (x6_1 : Int32) => ∀ (H : Heap) (locs : List Loc) (ls : Array Slot), ctW D A s ([oX10 mo ma 0 m_textSize m_rows m_columns m_a m_b m_readRows m_readColumns m_at m_looks m_came m_draw m_turnedRows m_turnedColumns, aZ cy (ma 1) 36 m_right, aZ cy (ma 2) 36 m_down, aI cy (ma 7) 36 m_dist_1, aI cy (ma 8) 36 m_queue_1, aZ cy (ma 10) 36 m_shut]) H locs → lv_has ls 7 [(0, .ref mo), (3, .int p3), (4, .int x4_2), (5, .int x5_1), (6, .int x6_1)] → W p l e rmX10_step s m args below meth c H locs 0 0 Q (F0 m 124 ls [])) ?_ ?_
              · intro x6_1 hf H locs ls ⟨hP, hD, hS⟩ hl
                refine lv_aload_n hx hb dX10_step_124 rfl (lv_at hl 0 rfl) ?_
                refine lv_iload hx hb dX10_step_125 (lv_at hl 2 rfl) ?_
                refine lv_iload hx hb dX10_step_127 (lv_at hl 4 rfl) ?_
                refine ctV_i0 (r := (fX10_beside m_rows m_columns x4_2 x6_1)) (wc := [oX10 mo ma 0 m_textSize m_rows m_columns m_a m_b m_readRows m_readColumns m_at m_looks m_came m_draw m_turnedRows m_turnedColumns]) (As := [.int x4_2, .int x6_1]) (rest := []) (q0 := 0) X hK hP hD hS [0] rfl rfl rfl (KX10_beside rfl _) (cwV 2 hts gX10_step_X10_beside rfl rfl rfl hdX10_beside ⟨Nat.le_of_ble_eq_true rfl, Nat.le_of_ble_eq_true rfl⟩) rfl rfl rfl hl rfl (Nat.le_of_ble_eq_true rfl) dX10_step_129 (Nat.zero_le _) (Nat.zero_le _) (fun H locs hP hS => ?_)
                refine lv_istore (lv' := [(4, .int (fX10_beside m_rows m_columns x4_2 x6_1)), (0, .ref mo), (3, .int p3), (5, .int x5_1), (6, .int x6_1)]) hx hb dX10_step_132 hl (by decide) rfl (fun ls hl => ?_)
                refine lv_iinc (v := (x5_1 + 1)) (lv' := [(5, .int (x5_1 + 1)), (4, .int (fX10_beside m_rows m_columns x4_2 x6_1)), (0, .ref mo), (3, .int p3), (6, .int x6_1)]) hx hb dX10_step_134 hl (k := 3) rfl rfl (by decide) rfl (fun ls hl => ?_)
                refine lv_goto (tgt := 73) hx hb dX10_step_137 (by decide) ?_
                exact hL9 (fX10_beside m_rows m_columns x4_2 x6_1) (x5_1 + 1) hf _ _ _ ⟨hP, hD, hS⟩ (lv_sub hl [2, 3, 1, 0] rfl)
              · intro J11 hJ11 hf
                refine qwalk1 (fun (x6_2 : Int32) => ∀ (H : Heap) (locs : List Loc) (ls : Array Slot), ctW D A s ([oX10 mo ma 0 m_textSize m_rows m_columns m_a m_b m_readRows m_readColumns m_at m_looks m_came m_draw m_turnedRows m_turnedColumns, aZ cy (ma 1) 36 m_right, aZ cy (ma 2) 36 m_down, aI cy (ma 7) 36 m_dist_1, aI cy (ma 8) 36 m_queue_1, aZ cy (ma 10) 36 m_shut]) H locs → lv_has ls 7 [(0, .ref mo), (3, .int p3), (4, .int x4_2), (5, .int x5_1), (6, .int x6_2)] → W p l e rmX10_step s m args below meth c H locs 0 0 Q (F0 m 82 ls [])) ?_ _ (0 : Int32) hf _ _ _ ⟨hP, hD, hS⟩ (lv_sub hl [1, 2, 3, 4, 0] rfl)
                intro J12 hL12 x6_2 hf H locs ls ⟨hP, hD, hS⟩ hl
                refine lv_aload_n hx hb dX10_step_82 rfl (lv_at hl 0 rfl) ?_
                refine lv_iload hx hb dX10_step_83 (lv_at hl 2 rfl) ?_
                refine lv_iload hx hb dX10_step_85 (lv_at hl 4 rfl) ?_
                obtain ⟨r_1, q13, hf⟩ := qcall1 hf
                refine ctV_i0 (r := r_1) (wc := [oX10 mo ma 0 m_textSize m_rows m_columns m_a m_b m_readRows m_readColumns m_at m_looks m_came m_draw m_turnedRows m_turnedColumns, aZ cy (ma 1) 36 m_right, aZ cy (ma 2) 36 m_down]) (As := [.int x4_2, .int x6_2]) (rest := []) (q0 := 0) X hK hP hD hS [0, 1, 2] rfl rfl rfl (KX10_isOpen q13 _) (cwV 2 hts gX10_step_X10_isOpen rfl rfl rfl hdX10_isOpen ⟨Nat.le_of_ble_eq_true rfl, Nat.le_of_ble_eq_true rfl⟩) rfl rfl rfl hl rfl (Nat.le_of_ble_eq_true rfl) dX10_step_87 (Nat.zero_le _) (Nat.zero_le _) (fun H locs hP hS => ?_)
                refine lv_if_eq (tgt := 118) hx hb dX10_step_90 (by decide) (fun c14 => ?_) (fun c14 => ?_)
                · have hf := qob_t hf c14
                  refine lv_iinc (v := (x6_2 + 1)) (lv' := [(6, .int (x6_2 + 1)), (0, .ref mo), (3, .int p3), (4, .int x4_2), (5, .int x5_1)]) hx hb dX10_step_118 hl (k := 4) rfl rfl (by decide) rfl (fun ls hl => ?_)
                  refine lv_goto (tgt := 82) hx hb dX10_step_121 (by decide) ?_
                  exact hL12 (x6_2 + 1) hf _ _ _ ⟨hP, hD, hS⟩ (lv_sub hl [1, 2, 3, 4, 0] rfl)
                · have hf := qob_f hf c14
                  refine lv_aload_n hx hb dX10_step_93 rfl (lv_at hl 0 rfl) ?_
                  refine va_get (D := D) (ci := 10) (v := .ref (ma 7)) (C := RX10) (T := TX10) (N := 34) hx hb hts inwX10_step_X10 hown hK hP 0 rfl rfl 15 (by decide) (hts (.fieldLink RX10 39 "HedgeWaysModel" "dist" "[I") (List.mem_of_getElem? (i := 2) rfl)) (fun _ h9 => h9) rfl dX10_step_94 ?_
                  refine lv_aload_n hx hb dX10_step_97 rfl (lv_at hl 0 rfl) ?_
                  refine lv_iload hx hb dX10_step_98 (lv_at hl 2 rfl) ?_
                  refine lv_iload hx hb dX10_step_100 (lv_at hl 4 rfl) ?_
                  refine ctV_i0 (r := (fX10_beside m_rows m_columns x4_2 x6_2)) (wc := [oX10 mo ma 0 m_textSize m_rows m_columns m_a m_b m_readRows m_readColumns m_at m_looks m_came m_draw m_turnedRows m_turnedColumns]) (As := [.int x4_2, .int x6_2]) (rest := [.ref (ma 7)]) (q0 := 0) X hK hP hD hS [0] rfl rfl rfl (KX10_beside rfl _) (cwV 2 hts gX10_step_X10_beside rfl rfl rfl hdX10_beside ⟨Nat.le_of_ble_eq_true rfl, Nat.le_of_ble_eq_true rfl⟩) rfl rfl rfl hl rfl (Nat.le_of_ble_eq_true rfl) dX10_step_102 (Nat.zero_le _) (Nat.zero_le _) (fun H locs hP hS => ?_)
                  obtain ⟨i15, hf⟩ := qob_gd hf
                  refine va_iald hx hb hK hP 3 0 rfl rfl i15 dX10_step_105 ?_
                  refine lv_aload_n hx hb dX10_step_106 rfl (lv_at hl 0 rfl) ?_
                  refine va_get (D := D) (ci := 10) (v := .ref (ma 7)) (C := RX10) (T := TX10) (N := 34) hx hb hts inwX10_step_X10 hown hK hP 0 rfl rfl 15 (by decide) (hts (.fieldLink RX10 39 "HedgeWaysModel" "dist" "[I") (List.mem_of_getElem? (i := 2) rfl)) (fun _ h9 => h9) rfl dX10_step_107 ?_
                  refine lv_iload hx hb dX10_step_110 (lv_at hl 2 rfl) ?_
                  obtain ⟨i16, hf⟩ := qob_gd hf
                  refine va_iald hx hb hK hP 3 0 rfl rfl i16 dX10_step_112 ?_
                  refine lv_iconst (v := 1) hx hb dX10_step_113 (by decide) ?_
                  refine lv_isub hx hb dX10_step_114 ?_
                  refine lv_icmp_eq (tgt := 124) hx hb dX10_step_115 (by decide) (fun c17 => ?_) (fun c17 => ?_)
                  · have hf := qob_t hf c17
                    have hf := qob_esc hf
                    exact hJ11 x6_2 hf _ _ _ ⟨hP, hD, hS⟩ hl
                  · have hf := qob_f hf c17
                    refine lv_iinc (v := (x6_2 + 1)) (lv' := [(6, .int (x6_2 + 1)), (0, .ref mo), (3, .int p3), (4, .int x4_2), (5, .int x5_1)]) hx hb dX10_step_118 hl (k := 4) rfl rfl (by decide) rfl (fun ls hl => ?_)
                    refine lv_goto (tgt := 82) hx hb dX10_step_121 (by decide) ?_
                    exact hL12 (x6_2 + 1) hf _ _ _ ⟨hP, hD, hS⟩ (lv_sub hl [1, 2, 3, 4, 0] rfl)
        · have hf := qob_t hf c7
          refine lv_bipush (v := (-9)) hx hb dX10_step_67 (by decide) ?_
          cases qob_ret hf
          exact ct_iret X hQ hK hP hD hS rfl dX10_step_69
    · have hf := qob_t hf c2
      refine lv_iconst (v := (-1)) hx hb dX10_step_21 (by decide) ?_
      cases qob_ret hf
      exact ct_iret X hQ hK hP hD hS rfl dX10_step_22
theorem inwX10_widest_X10 : ∀ w ∈ wsX100, w ∈ wsX10_widest := fun _ h => List.mem_cons_of_mem _ (List.mem_append_right _ h)
abbrev rmX10_widest : Room := { frames := 5, cells := 0, slots := 0, locals := 121 }
theorem hdX10_widest : yX10_widest.cls = RX10 ∧ yX10_widest.cls ≠ "java/lang/invoke/MethodHandle" ∧ yX10_widest.cls ≠ "java/lang/invoke/VarHandle" ∧ (parseMethodDescriptor yX10_widest.desc).map (fun d => d.parameters.length) = some 1 := by decide +kernel
set_option maxHeartbeats 4000000 in
set_option maxRecDepth 100000 in
theorem KX10_widest {l : Launch} {D : va_G} {cy : Nat → ClassId} {mo : Nat} {ma : Nat → Nat} {m_thrown : Int32} {m_textSize : Int32} {m_rows : Int32} {m_columns : Int32} {m_a : Int32} {m_b : Int32} {m_readRows : Int32} {m_readColumns : Int32} {m_at : Int32} {m_looks : Int32} {m_came : Int32} {m_draw : Int64} {m_turnedRows : Int32} {m_turnedColumns : Int32} {m_right : Nat → Int32} {m_down : Nat → Int32} {m_dist : Nat → Int32} {m_queue : Nat → Int32} {m_shut : Nat → Int32} {m_parts : Nat → Int32} {p1 : Int32} {r : Int32} {m_thrown' : Int32} {m_dist' : Nat → Int32} {m_queue' : Nat → Int32} {m_parts' : Nat → Int32} (hf : fX10_widest m_thrown m_rows m_columns m_right m_down m_dist m_queue m_shut m_parts p1 = some (r, m_thrown', m_dist', m_queue', m_parts')) : CtI l yX10_widest wsX10_widest rmX10_widest D cy [.ref mo, .int p1] ([oX10 mo ma m_thrown m_textSize m_rows m_columns m_a m_b m_readRows m_readColumns m_at m_looks m_came m_draw m_turnedRows m_turnedColumns, aZ cy (ma 1) 36 m_right, aZ cy (ma 2) 36 m_down, aI cy (ma 7) 36 m_dist, aI cy (ma 8) 36 m_queue, aZ cy (ma 10) 36 m_shut, aI cy (ma 11) 36 m_parts]) ([oX10 mo ma m_thrown' m_textSize m_rows m_columns m_a m_b m_readRows m_readColumns m_at m_looks m_came m_draw m_turnedRows m_turnedColumns, aZ cy (ma 1) 36 m_right, aZ cy (ma 2) 36 m_down, aI cy (ma 7) 36 m_dist', aI cy (ma 8) 36 m_queue', aZ cy (ma 10) 36 m_shut, aI cy (ma 11) 36 m_parts']) r := by
  refine CtI.of (cc := cX10_widest) (maxL := 6) (ret := some .int) (own := RX10) (by decide) rfl rfl (Nat.le_of_ble_eq_true rfl) ?_
  intro p e s m args below meth c A Q X hQ hK hP hD hS ls hl
  obtain ⟨hx, hb, hml, hown, hts, hr, hlocks, hA, hZ⟩ := id X
  have hl : lv_has ls 6 [(0, .ref mo), (1, .int p1)] := hl
  unfold fX10_widest at hf
  have hf := qob_top hf
  refine lv_aload_n hx hb dX10_widest_0 rfl (lv_at hl 0 rfl) ?_
  refine lv_iconst (v := 0) hx hb dX10_widest_1 (by decide) ?_
  refine va_put (D := D) (ci := 10) (v := .int 0) (ty := .int) (C := RX10) (T := TX10) (N := 34) hx hb hts inwX10_widest_X10 tyX10 tyX10_ok nmX10 hown hK hP hD hS 0 rfl rfl 0 (by decide) (hts (.fieldLink RX10 79 "HedgeWaysModel" "thrown" "I") (List.mem_of_getElem? (i := 1) rfl)) (fun _ h9 => h9) rfl (tyX10_ok 0 (by decide)) rfl rfl (Nat.le_of_ble_eq_true rfl) dX10_widest_2 (fun H locs hP hD hS => ?_)
  have hP : va_P D vwCl ([oX10 mo ma 0 m_textSize m_rows m_columns m_a m_b m_readRows m_readColumns m_at m_looks m_came m_draw m_turnedRows m_turnedColumns, aZ cy (ma 1) 36 m_right, aZ cy (ma 2) 36 m_down, aI cy (ma 7) 36 m_dist, aI cy (ma 8) 36 m_queue, aZ cy (ma 10) 36 m_shut, aI cy (ma 11) 36 m_parts]) H := hP
  have hD : va_D A ([oX10 mo ma 0 m_textSize m_rows m_columns m_a m_b m_readRows m_readColumns m_at m_looks m_came m_draw m_turnedRows m_turnedColumns, aZ cy (ma 1) 36 m_right, aZ cy (ma 2) 36 m_down, aI cy (ma 7) 36 m_dist, aI cy (ma 8) 36 m_queue, aZ cy (ma 10) 36 m_shut, aI cy (ma 11) 36 m_parts]) := hD
  refine lv_aload_n hx hb dX10_widest_5 rfl (lv_at hl 0 rfl) ?_
  refine lv_iload_n hx hb dX10_widest_6 rfl (lv_at hl 1 rfl) ?_
  refine ctV_i0 (r := (fX10_isCell m_rows m_columns p1)) (wc := [oX10 mo ma 0 m_textSize m_rows m_columns m_a m_b m_readRows m_readColumns m_at m_looks m_came m_draw m_turnedRows m_turnedColumns]) (As := [.int p1]) (rest := []) (q0 := 0) X hK hP hD hS [0] rfl rfl rfl (KX10_isCell rfl _) (cwV 1 hts gX10_widest_X10_isCell rfl rfl rfl hdX10_isCell ⟨Nat.le_of_ble_eq_true rfl, Nat.le_of_ble_eq_true rfl⟩) rfl rfl rfl hl rfl (Nat.le_of_ble_eq_true rfl) dX10_widest_7 (Nat.zero_le _) (Nat.zero_le _) (fun H locs hP hS => ?_)
  refine lv_if_ne (tgt := 15) hx hb dX10_widest_10 (by decide) (fun c1 => ?_) (fun c1 => ?_)
  · have hf := qob_f hf c1
    refine lv_aload_n hx hb dX10_widest_15 rfl (lv_at hl 0 rfl) ?_
    obtain ⟨r_1, m_dist_1, m_queue_1, m_parts_1, q2, hf⟩ := qcall4 hf
    refine ctV_i (r := r_1) (wc := [oX10 mo ma 0 m_textSize m_rows m_columns m_a m_b m_readRows m_readColumns m_at m_looks m_came m_draw m_turnedRows m_turnedColumns, aZ cy (ma 1) 36 m_right, aZ cy (ma 2) 36 m_down, aI cy (ma 7) 36 m_dist, aI cy (ma 8) 36 m_queue, aZ cy (ma 10) 36 m_shut, aI cy (ma 11) 36 m_parts]) (w1 := [oX10 mo ma 0 m_textSize m_rows m_columns m_a m_b m_readRows m_readColumns m_at m_looks m_came m_draw m_turnedRows m_turnedColumns, aZ cy (ma 1) 36 m_right, aZ cy (ma 2) 36 m_down, aI cy (ma 7) 36 m_dist_1, aI cy (ma 8) 36 m_queue_1, aZ cy (ma 10) 36 m_shut, aI cy (ma 11) 36 m_parts_1]) (wr := []) (wn := [oX10 mo ma 0 m_textSize m_rows m_columns m_a m_b m_readRows m_readColumns m_at m_looks m_came m_draw m_turnedRows m_turnedColumns, aZ cy (ma 1) 36 m_right, aZ cy (ma 2) 36 m_down, aI cy (ma 7) 36 m_dist_1, aI cy (ma 8) 36 m_queue_1, aZ cy (ma 10) 36 m_shut, aI cy (ma 11) 36 m_parts_1]) (As := []) (rest := []) (q0 := 0) X hK hP hD hS [0, 1, 2, 3, 4, 5, 6] [] [0, 1, 2, 3, 4, 5, 6] rfl rfl rfl rfl rfl (by decide) rfl rfl rfl (KX10_layParts q2 _) (cwV 0 hts gX10_widest_X10_layParts rfl rfl rfl hdX10_layParts ⟨Nat.le_of_ble_eq_true rfl, Nat.le_of_ble_eq_true rfl⟩) rfl rfl rfl hl rfl (Nat.le_of_ble_eq_true rfl) dX10_widest_16 (Nat.zero_le _) (Nat.zero_le _) (fun H locs hP hD hS => ?_)
    refine lv_pop hx hb dX10_widest_19 rfl ?_
    refine lv_aload_n hx hb dX10_widest_20 rfl (lv_at hl 0 rfl) ?_
    refine va_get (D := D) (ci := 10) (v := .ref (ma 11)) (C := RX10) (T := TX10) (N := 34) hx hb hts inwX10_widest_X10 hown hK hP 0 rfl rfl 19 (by decide) (hts (.fieldLink RX10 52 "HedgeWaysModel" "parts" "[I") (List.mem_of_getElem? (i := 2) rfl)) (fun _ h9 => h9) rfl dX10_widest_21 ?_
    refine lv_iload_n hx hb dX10_widest_24 rfl (lv_at hl 1 rfl) ?_
    refine ctS_i0 (r := (fX10_index p1)) (wc := []) (As := [.int p1]) (rest := [.ref (ma 11)]) X hK hP hD hS [] rfl rfl rfl (KX10_index rfl _) (va_cwS 1 hts gX10_widest_X10_index rfl rfl rfl hdX10_index ⟨Nat.le_of_ble_eq_true rfl, Nat.le_of_ble_eq_true rfl⟩) rfl hl rfl (Nat.le_of_ble_eq_true rfl) dX10_widest_25 (Nat.zero_le _) (Nat.zero_le _) (fun H locs hP hS => ?_)
    obtain ⟨i3, hf⟩ := qob_gd hf
    refine va_iald hx hb hK hP 6 0 rfl rfl i3 dX10_widest_28 ?_
    refine lv_istore_n (lv' := [(2, .int (m_parts_1 ((fX10_index p1)).toNatClampNeg)), (0, .ref mo), (1, .int p1)]) hx hb dX10_widest_29 rfl hl (by decide) rfl (fun ls hl => ?_)
    refine lv_iconst (v := 0) hx hb dX10_widest_30 (by decide) ?_
    refine lv_istore_n (lv' := [(3, .int 0), (2, .int (m_parts_1 ((fX10_index p1)).toNatClampNeg)), (0, .ref mo), (1, .int p1)]) hx hb dX10_widest_31 rfl hl (by decide) rfl (fun ls hl => ?_)
    refine lv_iconst (v := 0) hx hb dX10_widest_32 (by decide) ?_
    refine lv_istore (lv' := [(4, .int 0), (3, .int 0), (2, .int (m_parts_1 ((fX10_index p1)).toNatClampNeg)), (0, .ref mo), (1, .int p1)]) hx hb dX10_widest_33 hl (by decide) rfl (fun ls hl => ?_)
    refine qjoin3 hf (fun (x3_1 : Int32) (m_dist_2 : Nat → Int32) (m_queue_2 : Nat → Int32) => ∀ (H : Heap) (locs : List Loc) (ls : Array Slot), ctW D A s ([oX10 mo ma 0 m_textSize m_rows m_columns m_a m_b m_readRows m_readColumns m_at m_looks m_came m_draw m_turnedRows m_turnedColumns, aZ cy (ma 1) 36 m_right, aZ cy (ma 2) 36 m_down, aI cy (ma 7) 36 m_dist_2, aI cy (ma 8) 36 m_queue_2, aZ cy (ma 10) 36 m_shut, aI cy (ma 11) 36 m_parts_1]) H locs → lv_has ls 6 [(3, .int x3_1)] → W p l e rmX10_widest s m args below meth c H locs 0 0 Q (F0 m 117 ls [])) ?_ ?_
    · intro x3_1 m_dist_2 m_queue_2 hf H locs ls ⟨hP, hD, hS⟩ hl
      refine lv_iload_n hx hb dX10_widest_117 rfl (lv_at hl 0 rfl) ?_
      cases qob_ret hf
      exact ct_iret X hQ hK hP hD hS rfl dX10_widest_118
    · intro J4 hJ4 hf
      refine qwalk4 (fun (x3_2 : Int32) (x4_1 : Int32) (m_dist_3 : Nat → Int32) (m_queue_3 : Nat → Int32) => ∀ (H : Heap) (locs : List Loc) (ls : Array Slot), ctW D A s ([oX10 mo ma 0 m_textSize m_rows m_columns m_a m_b m_readRows m_readColumns m_at m_looks m_came m_draw m_turnedRows m_turnedColumns, aZ cy (ma 1) 36 m_right, aZ cy (ma 2) 36 m_down, aI cy (ma 7) 36 m_dist_3, aI cy (ma 8) 36 m_queue_3, aZ cy (ma 10) 36 m_shut, aI cy (ma 11) 36 m_parts_1]) H locs → lv_has ls 6 [(0, .ref mo), (2, .int (m_parts_1 ((fX10_index p1)).toNatClampNeg)), (3, .int x3_2), (4, .int x4_1)] → W p l e rmX10_widest s m args below meth c H locs 0 0 Q (F0 m 35 ls [])) ?_ _ (0 : Int32) (0 : Int32) m_dist_1 m_queue_1 hf _ _ _ ⟨hP, hD, hS⟩ (lv_sub hl [3, 2, 1, 0] rfl)
      intro J5 hL5 x3_2 x4_1 m_dist_3 m_queue_3 hf H locs ls ⟨hP, hD, hS⟩ hl
      refine lv_iload hx hb dX10_widest_35 (lv_at hl 3 rfl) ?_
      refine lv_bipush (v := 36) hx hb dX10_widest_37 (by decide) ?_
      refine lv_icmp_ge (tgt := 117) hx hb dX10_widest_39 (by decide) (fun c6 => ?_) (fun c6 => ?_)
      · have hf := qob_t hf c6
        have hf := qob_esc hf
        exact hJ4 x3_2 m_dist_3 m_queue_3 hf _ _ _ ⟨hP, hD, hS⟩ (lv_sub hl [2] rfl)
      · have hf := qob_f hf c6
        refine lv_aload_n hx hb dX10_widest_42 rfl (lv_at hl 0 rfl) ?_
        refine va_get (D := D) (ci := 10) (v := .ref (ma 11)) (C := RX10) (T := TX10) (N := 34) hx hb hts inwX10_widest_X10 hown hK hP 0 rfl rfl 19 (by decide) (hts (.fieldLink RX10 52 "HedgeWaysModel" "parts" "[I") (List.mem_of_getElem? (i := 2) rfl)) (fun _ h9 => h9) rfl dX10_widest_43 ?_
        refine lv_iload hx hb dX10_widest_46 (lv_at hl 3 rfl) ?_
        obtain ⟨i7, hf⟩ := qob_gd hf
        refine va_iald hx hb hK hP 6 0 rfl rfl i7 dX10_widest_48 ?_
        refine lv_iload_n hx hb dX10_widest_49 rfl (lv_at hl 1 rfl) ?_
        refine lv_icmp_ne (tgt := 111) hx hb dX10_widest_50 (by decide) (fun c8 => ?_) (fun c8 => ?_)
        · have hf := qob_f hf c8
          refine lv_iinc (v := (x4_1 + 1)) (lv' := [(4, .int (x4_1 + 1)), (0, .ref mo), (2, .int (m_parts_1 ((fX10_index p1)).toNatClampNeg)), (3, .int x3_2)]) hx hb dX10_widest_111 hl (k := 3) rfl rfl (by decide) rfl (fun ls hl => ?_)
          refine lv_goto (tgt := 35) hx hb dX10_widest_114 (by decide) ?_
          exact hL5 x3_2 (x4_1 + 1) m_dist_3 m_queue_3 hf _ _ _ ⟨hP, hD, hS⟩ (lv_sub hl [1, 2, 3, 0] rfl)
        · have hf := qob_t hf c8
          refine lv_aload_n hx hb dX10_widest_53 rfl (lv_at hl 0 rfl) ?_
          refine lv_iload hx hb dX10_widest_54 (lv_at hl 3 rfl) ?_
          obtain ⟨m_dist_4, m_queue_4, q9, hf⟩ := qcall2 hf
          refine ctV_v (wc := [oX10 mo ma 0 m_textSize m_rows m_columns m_a m_b m_readRows m_readColumns m_at m_looks m_came m_draw m_turnedRows m_turnedColumns, aZ cy (ma 1) 36 m_right, aZ cy (ma 2) 36 m_down, aI cy (ma 7) 36 m_dist_3, aI cy (ma 8) 36 m_queue_3, aZ cy (ma 10) 36 m_shut]) (w1 := [oX10 mo ma 0 m_textSize m_rows m_columns m_a m_b m_readRows m_readColumns m_at m_looks m_came m_draw m_turnedRows m_turnedColumns, aZ cy (ma 1) 36 m_right, aZ cy (ma 2) 36 m_down, aI cy (ma 7) 36 m_dist_4, aI cy (ma 8) 36 m_queue_4, aZ cy (ma 10) 36 m_shut]) (wr := [aI cy (ma 11) 36 m_parts_1]) (wn := [oX10 mo ma 0 m_textSize m_rows m_columns m_a m_b m_readRows m_readColumns m_at m_looks m_came m_draw m_turnedRows m_turnedColumns, aZ cy (ma 1) 36 m_right, aZ cy (ma 2) 36 m_down, aI cy (ma 7) 36 m_dist_4, aI cy (ma 8) 36 m_queue_4, aZ cy (ma 10) 36 m_shut, aI cy (ma 11) 36 m_parts_1]) (As := [.int x4_1]) (rest := []) (q0 := 0) X hK hP hD hS [0, 1, 2, 3, 4, 5] [6] [1, 2, 3, 4, 5, 6, 0] rfl rfl rfl rfl rfl (by decide) rfl rfl rfl (KX10_layFar q9 _) (cwV 1 hts gX10_widest_X10_layFar rfl rfl rfl hdX10_layFar ⟨Nat.le_of_ble_eq_true rfl, Nat.le_of_ble_eq_true rfl⟩) rfl rfl rfl hl rfl (Nat.le_of_ble_eq_true rfl) dX10_widest_56 (Nat.zero_le _) (Nat.zero_le _) (fun H locs hP hD hS => ?_)
          refine lv_iconst (v := 0) hx hb dX10_widest_59 (by decide) ?_
          refine lv_istore (lv' := [(5, .int 0), (0, .ref mo), (2, .int (m_parts_1 ((fX10_index p1)).toNatClampNeg)), (3, .int x3_2), (4, .int x4_1)]) hx hb dX10_widest_60 hl (by decide) rfl (fun ls hl => ?_)
          refine qjoin1 hf (fun (x3_3 : Int32) => ∀ (H : Heap) (locs : List Loc) (ls : Array Slot), ctW D A s ([oX10 mo ma 0 m_textSize m_rows m_columns m_a m_b m_readRows m_readColumns m_at m_looks m_came m_draw m_turnedRows m_turnedColumns, aZ cy (ma 1) 36 m_right, aZ cy (ma 2) 36 m_down, aI cy (ma 7) 36 m_dist_4, aI cy (ma 8) 36 m_queue_4, aZ cy (ma 10) 36 m_shut, aI cy (ma 11) 36 m_parts_1]) H locs → lv_has ls 6 [(0, .ref mo), (2, .int (m_parts_1 ((fX10_index p1)).toNatClampNeg)), (3, .int x3_3), (4, .int x4_1)] → W p l e rmX10_widest s m args below meth c H locs 0 0 Q (F0 m 111 ls [])) ?_ ?_
          · intro x3_3 hf H locs ls ⟨hP, hD, hS⟩ hl
            refine lv_iinc (v := (x4_1 + 1)) (lv' := [(4, .int (x4_1 + 1)), (0, .ref mo), (2, .int (m_parts_1 ((fX10_index p1)).toNatClampNeg)), (3, .int x3_3)]) hx hb dX10_widest_111 hl (k := 3) rfl rfl (by decide) rfl (fun ls hl => ?_)
            refine lv_goto (tgt := 35) hx hb dX10_widest_114 (by decide) ?_
            exact hL5 x3_3 (x4_1 + 1) m_dist_4 m_queue_4 hf _ _ _ ⟨hP, hD, hS⟩ (lv_sub hl [1, 2, 3, 0] rfl)
          · intro J10 hJ10 hf
            refine qwalk2 (fun (x3_4 : Int32) (x5_1 : Int32) => ∀ (H : Heap) (locs : List Loc) (ls : Array Slot), ctW D A s ([oX10 mo ma 0 m_textSize m_rows m_columns m_a m_b m_readRows m_readColumns m_at m_looks m_came m_draw m_turnedRows m_turnedColumns, aZ cy (ma 1) 36 m_right, aZ cy (ma 2) 36 m_down, aI cy (ma 7) 36 m_dist_4, aI cy (ma 8) 36 m_queue_4, aZ cy (ma 10) 36 m_shut, aI cy (ma 11) 36 m_parts_1]) H locs → lv_has ls 6 [(0, .ref mo), (2, .int (m_parts_1 ((fX10_index p1)).toNatClampNeg)), (3, .int x3_4), (4, .int x4_1), (5, .int x5_1)] → W p l e rmX10_widest s m args below meth c H locs 0 0 Q (F0 m 62 ls [])) ?_ _ x3_2 (0 : Int32) hf _ _ _ ⟨hP, hD, hS⟩ (lv_sub hl [1, 2, 3, 4, 0] rfl)
            intro J11 hL11 x3_4 x5_1 hf H locs ls ⟨hP, hD, hS⟩ hl
            refine lv_iload hx hb dX10_widest_62 (lv_at hl 4 rfl) ?_
            refine lv_bipush (v := 36) hx hb dX10_widest_64 (by decide) ?_
            refine lv_icmp_ge (tgt := 111) hx hb dX10_widest_66 (by decide) (fun c12 => ?_) (fun c12 => ?_)
            · have hf := qob_t hf c12
              have hf := qob_esc hf
              exact hJ10 x3_4 hf _ _ _ ⟨hP, hD, hS⟩ (lv_sub hl [0, 1, 2, 3] rfl)
            · have hf := qob_f hf c12
              refine lv_aload_n hx hb dX10_widest_69 rfl (lv_at hl 0 rfl) ?_
              refine va_get (D := D) (ci := 10) (v := .ref (ma 7)) (C := RX10) (T := TX10) (N := 34) hx hb hts inwX10_widest_X10 hown hK hP 0 rfl rfl 15 (by decide) (hts (.fieldLink RX10 39 "HedgeWaysModel" "dist" "[I") (List.mem_of_getElem? (i := 3) rfl)) (fun _ h9 => h9) rfl dX10_widest_70 ?_
              refine lv_iload hx hb dX10_widest_73 (lv_at hl 4 rfl) ?_
              obtain ⟨i13, hf⟩ := qob_gd hf
              refine va_iald hx hb hK hP 3 0 rfl rfl i13 dX10_widest_75 ?_
              refine lv_sipush (v := 9999) hx hb dX10_widest_76 (by decide) ?_
              refine lv_icmp_ge (tgt := 103) hx hb dX10_widest_79 (by decide) (fun c14 => ?_) (fun c14 => ?_)
              · have hf := qob_t hf c14
                refine lv_iload_n hx hb dX10_widest_103 rfl (lv_at hl 2 rfl) ?_
                refine lv_istore_n (lv' := [(3, .int x3_4), (0, .ref mo), (2, .int (m_parts_1 ((fX10_index p1)).toNatClampNeg)), (4, .int x4_1), (5, .int x5_1)]) hx hb dX10_widest_104 rfl hl (by decide) rfl (fun ls hl => ?_)
                refine lv_iinc (v := (x5_1 + 1)) (lv' := [(5, .int (x5_1 + 1)), (3, .int x3_4), (0, .ref mo), (2, .int (m_parts_1 ((fX10_index p1)).toNatClampNeg)), (4, .int x4_1)]) hx hb dX10_widest_105 hl (k := 4) rfl rfl (by decide) rfl (fun ls hl => ?_)
                refine lv_goto (tgt := 62) hx hb dX10_widest_108 (by decide) ?_
                exact hL11 x3_4 (x5_1 + 1) hf _ _ _ ⟨hP, hD, hS⟩ (lv_sub hl [2, 3, 1, 4, 0] rfl)
              · have hf := qob_f hf c14
                refine lv_aload_n hx hb dX10_widest_82 rfl (lv_at hl 0 rfl) ?_
                refine va_get (D := D) (ci := 10) (v := .ref (ma 7)) (C := RX10) (T := TX10) (N := 34) hx hb hts inwX10_widest_X10 hown hK hP 0 rfl rfl 15 (by decide) (hts (.fieldLink RX10 39 "HedgeWaysModel" "dist" "[I") (List.mem_of_getElem? (i := 3) rfl)) (fun _ h9 => h9) rfl dX10_widest_83 ?_
                refine lv_iload hx hb dX10_widest_86 (lv_at hl 4 rfl) ?_
                obtain ⟨i15, hf⟩ := qob_gd hf
                refine va_iald hx hb hK hP 3 0 rfl rfl i15 dX10_widest_88 ?_
                refine lv_iload_n hx hb dX10_widest_89 rfl (lv_at hl 2 rfl) ?_
                refine lv_icmp_le (tgt := 103) hx hb dX10_widest_90 (by decide) (fun c16 => ?_) (fun c16 => ?_)
                · have hf := qob_t hf c16
                  refine lv_iload_n hx hb dX10_widest_103 rfl (lv_at hl 2 rfl) ?_
                  refine lv_istore_n (lv' := [(3, .int x3_4), (0, .ref mo), (2, .int (m_parts_1 ((fX10_index p1)).toNatClampNeg)), (4, .int x4_1), (5, .int x5_1)]) hx hb dX10_widest_104 rfl hl (by decide) rfl (fun ls hl => ?_)
                  refine lv_iinc (v := (x5_1 + 1)) (lv' := [(5, .int (x5_1 + 1)), (3, .int x3_4), (0, .ref mo), (2, .int (m_parts_1 ((fX10_index p1)).toNatClampNeg)), (4, .int x4_1)]) hx hb dX10_widest_105 hl (k := 4) rfl rfl (by decide) rfl (fun ls hl => ?_)
                  refine lv_goto (tgt := 62) hx hb dX10_widest_108 (by decide) ?_
                  exact hL11 x3_4 (x5_1 + 1) hf _ _ _ ⟨hP, hD, hS⟩ (lv_sub hl [2, 3, 1, 4, 0] rfl)
                · have hf := qob_f hf c16
                  refine lv_aload_n hx hb dX10_widest_93 rfl (lv_at hl 0 rfl) ?_
                  refine va_get (D := D) (ci := 10) (v := .ref (ma 7)) (C := RX10) (T := TX10) (N := 34) hx hb hts inwX10_widest_X10 hown hK hP 0 rfl rfl 15 (by decide) (hts (.fieldLink RX10 39 "HedgeWaysModel" "dist" "[I") (List.mem_of_getElem? (i := 3) rfl)) (fun _ h9 => h9) rfl dX10_widest_94 ?_
                  refine lv_iload hx hb dX10_widest_97 (lv_at hl 4 rfl) ?_
                  obtain ⟨i17, hf⟩ := qob_gd hf
                  refine va_iald hx hb hK hP 3 0 rfl rfl i17 dX10_widest_99 ?_
                  refine lv_goto (tgt := 104) hx hb dX10_widest_100 (by decide) ?_
                  refine lv_istore_n (lv' := [(3, .int (m_dist_4 x5_1.toNatClampNeg)), (0, .ref mo), (2, .int (m_parts_1 ((fX10_index p1)).toNatClampNeg)), (4, .int x4_1), (5, .int x5_1)]) hx hb dX10_widest_104 rfl hl (by decide) rfl (fun ls hl => ?_)
                  refine lv_iinc (v := (x5_1 + 1)) (lv' := [(5, .int (x5_1 + 1)), (3, .int (m_dist_4 x5_1.toNatClampNeg)), (0, .ref mo), (2, .int (m_parts_1 ((fX10_index p1)).toNatClampNeg)), (4, .int x4_1)]) hx hb dX10_widest_105 hl (k := 4) rfl rfl (by decide) rfl (fun ls hl => ?_)
                  refine lv_goto (tgt := 62) hx hb dX10_widest_108 (by decide) ?_
                  exact hL11 (m_dist_4 x5_1.toNatClampNeg) (x5_1 + 1) hf _ _ _ ⟨hP, hD, hS⟩ (lv_sub hl [2, 3, 1, 4, 0] rfl)
  · have hf := qob_t hf c1
    refine lv_iconst (v := (-1)) hx hb dX10_widest_13 (by decide) ?_
    cases qob_ret hf
    exact ct_iret X hQ hK hP hD hS rfl dX10_widest_14
theorem inwX10_handStep_X10 : ∀ w ∈ wsX100, w ∈ wsX10_handStep := fun _ h => List.mem_cons_of_mem _ (List.mem_append_right _ h)
abbrev rmX10_handStep : Room := { frames := 3, cells := 0, slots := 0, locals := 72 }
theorem hdX10_handStep : yX10_handStep.cls = RX10 ∧ yX10_handStep.cls ≠ "java/lang/invoke/MethodHandle" ∧ yX10_handStep.cls ≠ "java/lang/invoke/VarHandle" ∧ (parseMethodDescriptor yX10_handStep.desc).map (fun d => d.parameters.length) = some 1 := by decide +kernel
set_option maxHeartbeats 4000000 in
set_option maxRecDepth 100000 in
theorem KX10_handStep {l : Launch} {D : va_G} {cy : Nat → ClassId} {mo : Nat} {ma : Nat → Nat} {m_thrown : Int32} {m_textSize : Int32} {m_rows : Int32} {m_columns : Int32} {m_a : Int32} {m_b : Int32} {m_readRows : Int32} {m_readColumns : Int32} {m_at : Int32} {m_looks : Int32} {m_came : Int32} {m_draw : Int64} {m_turnedRows : Int32} {m_turnedColumns : Int32} {m_right : Nat → Int32} {m_down : Nat → Int32} {p1 : Int32} {m_at' : Int32} {m_looks' : Int32} (hf : fX10_handStep m_rows m_columns m_at m_looks m_right m_down p1 = some (m_at', m_looks')) : CtV l yX10_handStep wsX10_handStep rmX10_handStep D cy [.ref mo, .int p1] ([oX10 mo ma m_thrown m_textSize m_rows m_columns m_a m_b m_readRows m_readColumns m_at m_looks m_came m_draw m_turnedRows m_turnedColumns, aZ cy (ma 1) 36 m_right, aZ cy (ma 2) 36 m_down]) ([oX10 mo ma m_thrown m_textSize m_rows m_columns m_a m_b m_readRows m_readColumns m_at' m_looks' m_came m_draw m_turnedRows m_turnedColumns, aZ cy (ma 1) 36 m_right, aZ cy (ma 2) 36 m_down]) := by
  refine CtV.of (cc := cX10_handStep) (maxL := 5) (ret := none) (own := RX10) (by decide) rfl rfl (Nat.le_of_ble_eq_true rfl) ?_
  intro p e s m args below meth c A Q X hQ hK hP hD hS ls hl
  obtain ⟨hx, hb, hml, hown, hts, hr, hlocks, hA, hZ⟩ := id X
  have hl : lv_has ls 5 [(0, .ref mo), (1, .int p1)] := hl
  unfold fX10_handStep at hf
  have hf := qob_top hf
  refine lv_iload_n hx hb dX10_handStep_0 rfl (lv_at hl 1 rfl) ?_
  refine qjoin1 hf (fun (s_1 : Int32) => ∀ (H : Heap) (locs : List Loc) (ls : Array Slot), ctW D A s ([oX10 mo ma m_thrown m_textSize m_rows m_columns m_a m_b m_readRows m_readColumns m_at m_looks m_came m_draw m_turnedRows m_turnedColumns, aZ cy (ma 1) 36 m_right, aZ cy (ma 2) 36 m_down]) H locs → lv_has ls 5 [(0, .ref mo)] → W p l e rmX10_handStep s m args below meth c H locs 0 0 Q (F0 m 9 ls [.int s_1])) ?_ ?_
  · intro s_1 hf H locs ls ⟨hP, hD, hS⟩ hl
    refine lv_istore_n (lv' := [(2, .int s_1), (0, .ref mo)]) hx hb dX10_handStep_9 rfl hl (by decide) rfl (fun ls hl => ?_)
    refine lv_iconst (v := 0) hx hb dX10_handStep_10 (by decide) ?_
    refine lv_istore_n (lv' := [(3, .int 0), (2, .int s_1), (0, .ref mo)]) hx hb dX10_handStep_11 rfl hl (by decide) rfl (fun ls hl => ?_)
    refine qjoinE0 hf (∀ (H : Heap) (locs : List Loc) (ls : Array Slot), ctW D A s ([oX10 mo ma m_thrown m_textSize m_rows m_columns m_a m_b m_readRows m_readColumns m_at m_looks m_came m_draw m_turnedRows m_turnedColumns, aZ cy (ma 1) 36 m_right, aZ cy (ma 2) 36 m_down]) H locs → lv_has ls 5 [] → W p l e rmX10_handStep s m args below meth c H locs 0 0 Q (F0 m 102 ls [])) ?_ ?_
    · intro  hf H locs ls ⟨hP, hD, hS⟩ hl
      cases qob_ret hf
      exact ct_vret X hQ hK hP hD hS dX10_handStep_102
    · intro J1 hJ1 hf
      refine qwalk1 (fun (x3_1 : Int32) => ∀ (H : Heap) (locs : List Loc) (ls : Array Slot), ctW D A s ([oX10 mo ma m_thrown m_textSize m_rows m_columns m_a m_b m_readRows m_readColumns m_at m_looks m_came m_draw m_turnedRows m_turnedColumns, aZ cy (ma 1) 36 m_right, aZ cy (ma 2) 36 m_down]) H locs → lv_has ls 5 [(0, .ref mo), (2, .int s_1), (3, .int x3_1)] → W p l e rmX10_handStep s m args below meth c H locs 0 0 Q (F0 m 12 ls [])) ?_ _ (0 : Int32) hf _ _ _ ⟨hP, hD, hS⟩ (lv_sub hl [2, 1, 0] rfl)
      intro J2 hL2 x3_1 hf H locs ls ⟨hP, hD, hS⟩ hl
      refine lv_iload_n hx hb dX10_handStep_12 rfl (lv_at hl 2 rfl) ?_
      refine lv_iconst (v := 4) hx hb dX10_handStep_13 (by decide) ?_
      refine lv_icmp_ge (tgt := 102) hx hb dX10_handStep_14 (by decide) (fun c3 => ?_) (fun c3 => ?_)
      · have hf := qob_t hf c3
        have hf := qob_esc hf
        exact hJ1 hf _ _ _ ⟨hP, hD, hS⟩ (lv_sub hl [] rfl)
      · have hf := qob_f hf c3
        refine lv_iload_n hx hb dX10_handStep_17 rfl (lv_at hl 2 rfl) ?_
        refine lv_iconst (v := 3) hx hb dX10_handStep_18 (by decide) ?_
        refine qjoin1 hf (fun (s_2 : Int32) => ∀ (H : Heap) (locs : List Loc) (ls : Array Slot), ctW D A s ([oX10 mo ma m_thrown m_textSize m_rows m_columns m_a m_b m_readRows m_readColumns m_at m_looks m_came m_draw m_turnedRows m_turnedColumns, aZ cy (ma 1) 36 m_right, aZ cy (ma 2) 36 m_down]) H locs → lv_has ls 5 [(0, .ref mo), (2, .int s_1), (3, .int x3_1)] → W p l e rmX10_handStep s m args below meth c H locs 0 0 Q (F0 m 60 ls [.int s_2])) ?_ ?_
        · intro s_2 hf H locs ls ⟨hP, hD, hS⟩ hl
          refine lv_istore (lv' := [(4, .int s_2), (0, .ref mo), (2, .int s_1), (3, .int x3_1)]) hx hb dX10_handStep_60 hl (by decide) rfl (fun ls hl => ?_)
          refine lv_aload_n hx hb dX10_handStep_62 rfl (lv_at hl 1 rfl) ?_
          refine lv_aload_n hx hb dX10_handStep_63 rfl (lv_at hl 1 rfl) ?_
          refine va_get (D := D) (ci := 10) (v := .int m_at) (C := RX10) (T := TX10) (N := 34) hx hb hts inwX10_handStep_X10 hown hK hP 0 rfl rfl 20 (by decide) (hts (.fieldLink RX10 206 "HedgeWaysModel" "at" "I") (List.mem_of_getElem? (i := 2) rfl)) (fun _ h9 => h9) rfl dX10_handStep_64 ?_
          refine lv_iload hx hb dX10_handStep_67 (lv_at hl 0 rfl) ?_
          obtain ⟨r_1, q4, hf⟩ := qcall1 hf
          refine ctV_i0 (r := r_1) (wc := [oX10 mo ma m_thrown m_textSize m_rows m_columns m_a m_b m_readRows m_readColumns m_at m_looks m_came m_draw m_turnedRows m_turnedColumns, aZ cy (ma 1) 36 m_right, aZ cy (ma 2) 36 m_down]) (As := [.int m_at, .int s_2]) (rest := []) (q0 := 0) X hK hP hD hS [0, 1, 2] rfl rfl rfl (KX10_isOpen q4 _) (cwV 2 hts gX10_handStep_X10_isOpen rfl rfl rfl hdX10_isOpen ⟨Nat.le_of_ble_eq_true rfl, Nat.le_of_ble_eq_true rfl⟩) rfl rfl rfl hl rfl (Nat.le_of_ble_eq_true rfl) dX10_handStep_69 (Nat.zero_le _) (Nat.zero_le _) (fun H locs hP hS => ?_)
          refine lv_if_eq (tgt := 96) hx hb dX10_handStep_72 (by decide) (fun c5 => ?_) (fun c5 => ?_)
          · have hf := qob_t hf c5
            refine lv_iinc (v := (x3_1 + 1)) (lv' := [(3, .int (x3_1 + 1)), (4, .int s_2), (0, .ref mo), (2, .int s_1)]) hx hb dX10_handStep_96 hl (k := 3) rfl rfl (by decide) rfl (fun ls hl => ?_)
            refine lv_goto (tgt := 12) hx hb dX10_handStep_99 (by decide) ?_
            exact hL2 (x3_1 + 1) hf _ _ _ ⟨hP, hD, hS⟩ (lv_sub hl [2, 3, 0] rfl)
          · have hf := qob_f hf c5
            refine lv_aload_n hx hb dX10_handStep_75 rfl (lv_at hl 1 rfl) ?_
            refine lv_iload hx hb dX10_handStep_76 (lv_at hl 0 rfl) ?_
            refine va_put (D := D) (ci := 10) (v := .int s_2) (ty := .int) (C := RX10) (T := TX10) (N := 34) hx hb hts inwX10_handStep_X10 tyX10 tyX10_ok nmX10 hown hK hP hD hS 0 rfl rfl 21 (by decide) (hts (.fieldLink RX10 203 "HedgeWaysModel" "looks" "I") (List.mem_of_getElem? (i := 1) rfl)) (fun _ h9 => h9) rfl (tyX10_ok 21 (by decide)) rfl rfl (Nat.le_of_ble_eq_true rfl) dX10_handStep_78 (fun H locs hP hD hS => ?_)
            have hP : va_P D vwCl ([oX10 mo ma m_thrown m_textSize m_rows m_columns m_a m_b m_readRows m_readColumns m_at s_2 m_came m_draw m_turnedRows m_turnedColumns, aZ cy (ma 1) 36 m_right, aZ cy (ma 2) 36 m_down]) H := hP
            have hD : va_D A ([oX10 mo ma m_thrown m_textSize m_rows m_columns m_a m_b m_readRows m_readColumns m_at s_2 m_came m_draw m_turnedRows m_turnedColumns, aZ cy (ma 1) 36 m_right, aZ cy (ma 2) 36 m_down]) := hD
            refine lv_aload_n hx hb dX10_handStep_81 rfl (lv_at hl 1 rfl) ?_
            refine lv_aload_n hx hb dX10_handStep_82 rfl (lv_at hl 1 rfl) ?_
            refine lv_aload_n hx hb dX10_handStep_83 rfl (lv_at hl 1 rfl) ?_
            refine va_get (D := D) (ci := 10) (v := .int m_at) (C := RX10) (T := TX10) (N := 34) hx hb hts inwX10_handStep_X10 hown hK hP 0 rfl rfl 20 (by decide) (hts (.fieldLink RX10 206 "HedgeWaysModel" "at" "I") (List.mem_of_getElem? (i := 2) rfl)) (fun _ h9 => h9) rfl dX10_handStep_84 ?_
            refine lv_iload hx hb dX10_handStep_87 (lv_at hl 0 rfl) ?_
            refine ctV_i0 (r := (fX10_beside m_rows m_columns m_at s_2)) (wc := [oX10 mo ma m_thrown m_textSize m_rows m_columns m_a m_b m_readRows m_readColumns m_at s_2 m_came m_draw m_turnedRows m_turnedColumns]) (As := [.int m_at, .int s_2]) (rest := [.ref mo]) (q0 := 0) X hK hP hD hS [0] rfl rfl rfl (KX10_beside rfl _) (cwV 2 hts gX10_handStep_X10_beside rfl rfl rfl hdX10_beside ⟨Nat.le_of_ble_eq_true rfl, Nat.le_of_ble_eq_true rfl⟩) rfl rfl rfl hl rfl (Nat.le_of_ble_eq_true rfl) dX10_handStep_89 (Nat.zero_le _) (Nat.zero_le _) (fun H locs hP hS => ?_)
            refine lv_topi (fun m_at_1 e6 => ?_)
            have hf := qob_bd hf e6
            refine va_put (D := D) (ci := 10) (v := .int m_at_1) (ty := .int) (C := RX10) (T := TX10) (N := 34) hx hb hts inwX10_handStep_X10 tyX10 tyX10_ok nmX10 hown hK hP hD hS 0 rfl rfl 20 (by decide) (hts (.fieldLink RX10 206 "HedgeWaysModel" "at" "I") (List.mem_of_getElem? (i := 2) rfl)) (fun _ h9 => h9) rfl (tyX10_ok 20 (by decide)) rfl rfl (Nat.le_of_ble_eq_true rfl) dX10_handStep_92 (fun H locs hP hD hS => ?_)
            have hP : va_P D vwCl ([oX10 mo ma m_thrown m_textSize m_rows m_columns m_a m_b m_readRows m_readColumns m_at_1 s_2 m_came m_draw m_turnedRows m_turnedColumns, aZ cy (ma 1) 36 m_right, aZ cy (ma 2) 36 m_down]) H := hP
            have hD : va_D A ([oX10 mo ma m_thrown m_textSize m_rows m_columns m_a m_b m_readRows m_readColumns m_at_1 s_2 m_came m_draw m_turnedRows m_turnedColumns, aZ cy (ma 1) 36 m_right, aZ cy (ma 2) 36 m_down]) := hD
            have hf := qob_esc hf
            have hf := qob_esc hf
            cases qob_ret hf
            exact ct_vret X hQ hK hP hD hS dX10_handStep_95
        · intro J7 hJ7 hf
          refine lv_icmp_ne (tgt := 33) hx hb dX10_handStep_19 (by decide) (fun c8 => ?_) (fun c8 => ?_)
          · have hf := qob_f hf c8
            refine lv_aload_n hx hb dX10_handStep_33 rfl (lv_at hl 0 rfl) ?_
            refine va_get (D := D) (ci := 10) (v := .int m_looks) (C := RX10) (T := TX10) (N := 34) hx hb hts inwX10_handStep_X10 hown hK hP 0 rfl rfl 21 (by decide) (hts (.fieldLink RX10 203 "HedgeWaysModel" "looks" "I") (List.mem_of_getElem? (i := 1) rfl)) (fun _ h9 => h9) rfl dX10_handStep_34 ?_
            refine lv_iload_n hx hb dX10_handStep_37 rfl (lv_at hl 2 rfl) ?_
            refine lv_if_ne (tgt := 45) hx hb dX10_handStep_38 (by decide) (fun c9 => ?_) (fun c9 => ?_)
            · have hf := qob_f hf c9
              refine lv_iload_n hx hb dX10_handStep_45 rfl (lv_at hl 2 rfl) ?_
              refine lv_iconst (v := 1) hx hb dX10_handStep_46 (by decide) ?_
              refine lv_icmp_ne (tgt := 54) hx hb dX10_handStep_47 (by decide) (fun c10 => ?_) (fun c10 => ?_)
              · have hf := qob_f hf c10
                refine lv_iconst (v := 4) hx hb dX10_handStep_54 (by decide) ?_
                refine lv_iload_n hx hb dX10_handStep_55 rfl (lv_at hl 1 rfl) ?_
                refine lv_isub hx hb dX10_handStep_56 ?_
                refine lv_iadd hx hb dX10_handStep_57 ?_
                refine lv_iconst (v := 4) hx hb dX10_handStep_58 (by decide) ?_
                refine lv_irem hx hb dX10_handStep_59 (by decide) ?_
                exact hJ7 (qrem (m_looks + (4 - s_1)) 4) hf _ _ _ ⟨hP, hD, hS⟩ hl
              · have hf := qob_t hf c10
                refine lv_iconst (v := 0) hx hb dX10_handStep_50 (by decide) ?_
                refine lv_goto (tgt := 57) hx hb dX10_handStep_51 (by decide) ?_
                refine lv_iadd hx hb dX10_handStep_57 ?_
                refine lv_iconst (v := 4) hx hb dX10_handStep_58 (by decide) ?_
                refine lv_irem hx hb dX10_handStep_59 (by decide) ?_
                exact hJ7 (qrem (m_looks + 0) 4) hf _ _ _ ⟨hP, hD, hS⟩ hl
            · have hf := qob_t hf c9
              refine lv_iload_n hx hb dX10_handStep_41 rfl (lv_at hl 1 rfl) ?_
              refine lv_goto (tgt := 57) hx hb dX10_handStep_42 (by decide) ?_
              refine lv_iadd hx hb dX10_handStep_57 ?_
              refine lv_iconst (v := 4) hx hb dX10_handStep_58 (by decide) ?_
              refine lv_irem hx hb dX10_handStep_59 (by decide) ?_
              exact hJ7 (qrem (m_looks + s_1) 4) hf _ _ _ ⟨hP, hD, hS⟩ hl
          · have hf := qob_t hf c8
            refine lv_aload_n hx hb dX10_handStep_22 rfl (lv_at hl 0 rfl) ?_
            refine va_get (D := D) (ci := 10) (v := .int m_looks) (C := RX10) (T := TX10) (N := 34) hx hb hts inwX10_handStep_X10 hown hK hP 0 rfl rfl 21 (by decide) (hts (.fieldLink RX10 203 "HedgeWaysModel" "looks" "I") (List.mem_of_getElem? (i := 1) rfl)) (fun _ h9 => h9) rfl dX10_handStep_23 ?_
            refine lv_iconst (v := 2) hx hb dX10_handStep_26 (by decide) ?_
            refine lv_iadd hx hb dX10_handStep_27 ?_
            refine lv_iconst (v := 4) hx hb dX10_handStep_28 (by decide) ?_
            refine lv_irem hx hb dX10_handStep_29 (by decide) ?_
            refine lv_goto (tgt := 60) hx hb dX10_handStep_30 (by decide) ?_
            exact hJ7 (qrem (m_looks + 2) 4) hf _ _ _ ⟨hP, hD, hS⟩ hl
  · intro J11 hJ11 hf
    refine lv_if_eq (tgt := 8) hx hb dX10_handStep_1 (by decide) (fun c12 => ?_) (fun c12 => ?_)
    · have hf := qob_t hf c12
      refine lv_iconst (v := 3) hx hb dX10_handStep_8 (by decide) ?_
      exact hJ11 3 hf _ _ _ ⟨hP, hD, hS⟩ (lv_sub hl [0] rfl)
    · have hf := qob_f hf c12
      refine lv_iconst (v := 1) hx hb dX10_handStep_4 (by decide) ?_
      refine lv_goto (tgt := 9) hx hb dX10_handStep_5 (by decide) ?_
      exact hJ11 1 hf _ _ _ ⟨hP, hD, hS⟩ (lv_sub hl [0] rfl)
theorem inwX10_hand_X10 : ∀ w ∈ wsX100, w ∈ wsX10_hand := fun _ h => List.mem_cons_of_mem _ (List.mem_append_right _ h)
abbrev rmX10_hand : Room := { frames := 4, cells := 0, slots := 0, locals := 96 }
theorem hdX10_hand : yX10_hand.cls = RX10 ∧ yX10_hand.cls ≠ "java/lang/invoke/MethodHandle" ∧ yX10_hand.cls ≠ "java/lang/invoke/VarHandle" ∧ (parseMethodDescriptor yX10_hand.desc).map (fun d => d.parameters.length) = some 2 := by decide +kernel
set_option maxHeartbeats 4000000 in
set_option maxRecDepth 100000 in
theorem KX10_hand {l : Launch} {D : va_G} {cy : Nat → ClassId} {mo : Nat} {ma : Nat → Nat} {m_thrown : Int32} {m_textSize : Int32} {m_rows : Int32} {m_columns : Int32} {m_a : Int32} {m_b : Int32} {m_readRows : Int32} {m_readColumns : Int32} {m_at : Int32} {m_looks : Int32} {m_came : Int32} {m_draw : Int64} {m_turnedRows : Int32} {m_turnedColumns : Int32} {m_right : Nat → Int32} {m_down : Nat → Int32} {p1 : Int32} {p2 : Int32} {r : Int32} {m_thrown' : Int32} {m_at' : Int32} {m_looks' : Int32} (hf : fX10_hand m_thrown m_rows m_columns m_a m_b m_at m_looks m_right m_down p1 p2 = some (r, m_thrown', m_at', m_looks')) : CtI l yX10_hand wsX10_hand rmX10_hand D cy [.ref mo, .int p1, .int p2] ([oX10 mo ma m_thrown m_textSize m_rows m_columns m_a m_b m_readRows m_readColumns m_at m_looks m_came m_draw m_turnedRows m_turnedColumns, aZ cy (ma 1) 36 m_right, aZ cy (ma 2) 36 m_down]) ([oX10 mo ma m_thrown' m_textSize m_rows m_columns m_a m_b m_readRows m_readColumns m_at' m_looks' m_came m_draw m_turnedRows m_turnedColumns, aZ cy (ma 1) 36 m_right, aZ cy (ma 2) 36 m_down]) r := by
  refine CtI.of (cc := cX10_hand) (maxL := 4) (ret := some .int) (own := RX10) (by decide) rfl rfl (Nat.le_of_ble_eq_true rfl) ?_
  intro p e s m args below meth c A Q X hQ hK hP hD hS ls hl
  obtain ⟨hx, hb, hml, hown, hts, hr, hlocks, hA, hZ⟩ := id X
  have hl : lv_has ls 4 [(0, .ref mo), (1, .int p1), (2, .int p2)] := hl
  unfold fX10_hand at hf
  have hf := qob_top hf
  refine lv_aload_n hx hb dX10_hand_0 rfl (lv_at hl 0 rfl) ?_
  refine lv_iconst (v := 0) hx hb dX10_hand_1 (by decide) ?_
  refine va_put (D := D) (ci := 10) (v := .int 0) (ty := .int) (C := RX10) (T := TX10) (N := 34) hx hb hts inwX10_hand_X10 tyX10 tyX10_ok nmX10 hown hK hP hD hS 0 rfl rfl 0 (by decide) (hts (.fieldLink RX10 79 "HedgeWaysModel" "thrown" "I") (List.mem_of_getElem? (i := 1) rfl)) (fun _ h9 => h9) rfl (tyX10_ok 0 (by decide)) rfl rfl (Nat.le_of_ble_eq_true rfl) dX10_hand_2 (fun H locs hP hD hS => ?_)
  have hP : va_P D vwCl ([oX10 mo ma 0 m_textSize m_rows m_columns m_a m_b m_readRows m_readColumns m_at m_looks m_came m_draw m_turnedRows m_turnedColumns, aZ cy (ma 1) 36 m_right, aZ cy (ma 2) 36 m_down]) H := hP
  have hD : va_D A ([oX10 mo ma 0 m_textSize m_rows m_columns m_a m_b m_readRows m_readColumns m_at m_looks m_came m_draw m_turnedRows m_turnedColumns, aZ cy (ma 1) 36 m_right, aZ cy (ma 2) 36 m_down]) := hD
  refine lv_iload_n hx hb dX10_hand_5 rfl (lv_at hl 1 rfl) ?_
  refine ctS_i0 (r := (fX10_isSide p1)) (wc := []) (As := [.int p1]) (rest := []) X hK hP hD hS [] rfl rfl rfl (KX10_isSide rfl _) (va_cwS 1 hts gX10_hand_X10_isSide rfl rfl rfl hdX10_isSide ⟨Nat.le_of_ble_eq_true rfl, Nat.le_of_ble_eq_true rfl⟩) rfl hl rfl (Nat.le_of_ble_eq_true rfl) dX10_hand_6 (Nat.zero_le _) (Nat.zero_le _) (fun H locs hP hS => ?_)
  refine lv_if_ne (tgt := 14) hx hb dX10_hand_9 (by decide) (fun c1 => ?_) (fun c1 => ?_)
  · have hf := qob_f hf c1
    refine lv_aload_n hx hb dX10_hand_14 rfl (lv_at hl 0 rfl) ?_
    refine lv_aload_n hx hb dX10_hand_15 rfl (lv_at hl 0 rfl) ?_
    refine va_get (D := D) (ci := 10) (v := .int m_a) (C := RX10) (T := TX10) (N := 34) hx hb hts inwX10_hand_X10 hown hK hP 0 rfl rfl 7 (by decide) (hts (.fieldLink RX10 103 "HedgeWaysModel" "a" "I") (List.mem_of_getElem? (i := 2) rfl)) (fun _ h9 => h9) rfl dX10_hand_16 ?_
    refine va_put (D := D) (ci := 10) (v := .int m_a) (ty := .int) (C := RX10) (T := TX10) (N := 34) hx hb hts inwX10_hand_X10 tyX10 tyX10_ok nmX10 hown hK hP hD hS 0 rfl rfl 20 (by decide) (hts (.fieldLink RX10 206 "HedgeWaysModel" "at" "I") (List.mem_of_getElem? (i := 3) rfl)) (fun _ h9 => h9) rfl (tyX10_ok 20 (by decide)) rfl rfl (Nat.le_of_ble_eq_true rfl) dX10_hand_19 (fun H locs hP hD hS => ?_)
    have hP : va_P D vwCl ([oX10 mo ma 0 m_textSize m_rows m_columns m_a m_b m_readRows m_readColumns m_a m_looks m_came m_draw m_turnedRows m_turnedColumns, aZ cy (ma 1) 36 m_right, aZ cy (ma 2) 36 m_down]) H := hP
    have hD : va_D A ([oX10 mo ma 0 m_textSize m_rows m_columns m_a m_b m_readRows m_readColumns m_a m_looks m_came m_draw m_turnedRows m_turnedColumns, aZ cy (ma 1) 36 m_right, aZ cy (ma 2) 36 m_down]) := hD
    refine lv_aload_n hx hb dX10_hand_22 rfl (lv_at hl 0 rfl) ?_
    refine lv_iload_n hx hb dX10_hand_23 rfl (lv_at hl 1 rfl) ?_
    refine va_put (D := D) (ci := 10) (v := .int p1) (ty := .int) (C := RX10) (T := TX10) (N := 34) hx hb hts inwX10_hand_X10 tyX10 tyX10_ok nmX10 hown hK hP hD hS 0 rfl rfl 21 (by decide) (hts (.fieldLink RX10 203 "HedgeWaysModel" "looks" "I") (List.mem_of_getElem? (i := 4) rfl)) (fun _ h9 => h9) rfl (tyX10_ok 21 (by decide)) rfl rfl (Nat.le_of_ble_eq_true rfl) dX10_hand_24 (fun H locs hP hD hS => ?_)
    have hP : va_P D vwCl ([oX10 mo ma 0 m_textSize m_rows m_columns m_a m_b m_readRows m_readColumns m_a p1 m_came m_draw m_turnedRows m_turnedColumns, aZ cy (ma 1) 36 m_right, aZ cy (ma 2) 36 m_down]) H := hP
    have hD : va_D A ([oX10 mo ma 0 m_textSize m_rows m_columns m_a m_b m_readRows m_readColumns m_a p1 m_came m_draw m_turnedRows m_turnedColumns, aZ cy (ma 1) 36 m_right, aZ cy (ma 2) 36 m_down]) := hD
    refine lv_iconst (v := 0) hx hb dX10_hand_27 (by decide) ?_
    refine lv_istore_n (lv' := [(3, .int 0), (0, .ref mo), (1, .int p1), (2, .int p2)]) hx hb dX10_hand_28 rfl hl (by decide) rfl (fun ls hl => ?_)
    refine qjoinE2 hf (fun (m_at_1 : Int32) (m_looks_1 : Int32) => ∀ (H : Heap) (locs : List Loc) (ls : Array Slot), ctW D A s ([oX10 mo ma 0 m_textSize m_rows m_columns m_a m_b m_readRows m_readColumns m_at_1 m_looks_1 m_came m_draw m_turnedRows m_turnedColumns, aZ cy (ma 1) 36 m_right, aZ cy (ma 2) 36 m_down]) H locs → lv_has ls 4 [] → W p l e rmX10_hand s m args below meth c H locs 0 0 Q (F0 m 60 ls [])) ?_ ?_
    · intro m_at_1 m_looks_1 hf H locs ls ⟨hP, hD, hS⟩ hl
      refine lv_bipush (v := (-9)) hx hb dX10_hand_60 (by decide) ?_
      cases qob_ret hf
      exact ct_iret X hQ hK hP hD hS rfl dX10_hand_62
    · intro J2 hJ2 hf
      refine qwalk3 (fun (x3_1 : Int32) (m_at_2 : Int32) (m_looks_2 : Int32) => ∀ (H : Heap) (locs : List Loc) (ls : Array Slot), ctW D A s ([oX10 mo ma 0 m_textSize m_rows m_columns m_a m_b m_readRows m_readColumns m_at_2 m_looks_2 m_came m_draw m_turnedRows m_turnedColumns, aZ cy (ma 1) 36 m_right, aZ cy (ma 2) 36 m_down]) H locs → lv_has ls 4 [(0, .ref mo), (2, .int p2), (3, .int x3_1)] → W p l e rmX10_hand s m args below meth c H locs 0 0 Q (F0 m 29 ls [])) ?_ _ (0 : Int32) m_a p1 hf _ _ _ ⟨hP, hD, hS⟩ (lv_sub hl [1, 3, 0] rfl)
      intro J3 hL3 x3_1 m_at_2 m_looks_2 hf H locs ls ⟨hP, hD, hS⟩ hl
      refine lv_iload_n hx hb dX10_hand_29 rfl (lv_at hl 2 rfl) ?_
      refine lv_sipush (v := 144) hx hb dX10_hand_30 (by decide) ?_
      refine lv_icmp_gt (tgt := 60) hx hb dX10_hand_33 (by decide) (fun c4 => ?_) (fun c4 => ?_)
      · have hf := qob_t hf c4
        have hf := qob_esc hf
        exact hJ2 m_at_2 m_looks_2 hf _ _ _ ⟨hP, hD, hS⟩ (lv_sub hl [] rfl)
      · have hf := qob_f hf c4
        refine lv_aload_n hx hb dX10_hand_36 rfl (lv_at hl 0 rfl) ?_
        refine va_get (D := D) (ci := 10) (v := .int m_at_2) (C := RX10) (T := TX10) (N := 34) hx hb hts inwX10_hand_X10 hown hK hP 0 rfl rfl 20 (by decide) (hts (.fieldLink RX10 206 "HedgeWaysModel" "at" "I") (List.mem_of_getElem? (i := 3) rfl)) (fun _ h9 => h9) rfl dX10_hand_37 ?_
        refine lv_aload_n hx hb dX10_hand_40 rfl (lv_at hl 0 rfl) ?_
        refine va_get (D := D) (ci := 10) (v := .int m_b) (C := RX10) (T := TX10) (N := 34) hx hb hts inwX10_hand_X10 hown hK hP 0 rfl rfl 8 (by decide) (hts (.fieldLink RX10 106 "HedgeWaysModel" "b" "I") (List.mem_of_getElem? (i := 5) rfl)) (fun _ h9 => h9) rfl dX10_hand_41 ?_
        refine lv_icmp_ne (tgt := 49) hx hb dX10_hand_44 (by decide) (fun c5 => ?_) (fun c5 => ?_)
        · have hf := qob_f hf c5
          refine lv_aload_n hx hb dX10_hand_49 rfl (lv_at hl 0 rfl) ?_
          refine lv_iload_n hx hb dX10_hand_50 rfl (lv_at hl 1 rfl) ?_
          obtain ⟨m_at_3, m_looks_3, q6, hf⟩ := qcall2 hf
          refine ctV_v (wc := [oX10 mo ma 0 m_textSize m_rows m_columns m_a m_b m_readRows m_readColumns m_at_2 m_looks_2 m_came m_draw m_turnedRows m_turnedColumns, aZ cy (ma 1) 36 m_right, aZ cy (ma 2) 36 m_down]) (w1 := [oX10 mo ma 0 m_textSize m_rows m_columns m_a m_b m_readRows m_readColumns m_at_3 m_looks_3 m_came m_draw m_turnedRows m_turnedColumns, aZ cy (ma 1) 36 m_right, aZ cy (ma 2) 36 m_down]) (wr := []) (wn := [oX10 mo ma 0 m_textSize m_rows m_columns m_a m_b m_readRows m_readColumns m_at_3 m_looks_3 m_came m_draw m_turnedRows m_turnedColumns, aZ cy (ma 1) 36 m_right, aZ cy (ma 2) 36 m_down]) (As := [.int p2]) (rest := []) (q0 := 0) X hK hP hD hS [0, 1, 2] [] [0, 1, 2] rfl rfl rfl rfl rfl (by decide) rfl rfl rfl (KX10_handStep q6 _) (cwV 1 hts gX10_hand_X10_handStep rfl rfl rfl hdX10_handStep ⟨Nat.le_of_ble_eq_true rfl, Nat.le_of_ble_eq_true rfl⟩) rfl rfl rfl hl rfl (Nat.le_of_ble_eq_true rfl) dX10_hand_51 (Nat.zero_le _) (Nat.zero_le _) (fun H locs hP hD hS => ?_)
          refine lv_iinc (v := (x3_1 + 1)) (lv' := [(3, .int (x3_1 + 1)), (0, .ref mo), (2, .int p2)]) hx hb dX10_hand_54 hl (k := 2) rfl rfl (by decide) rfl (fun ls hl => ?_)
          refine lv_goto (tgt := 29) hx hb dX10_hand_57 (by decide) ?_
          exact hL3 (x3_1 + 1) m_at_3 m_looks_3 hf _ _ _ ⟨hP, hD, hS⟩ (lv_sub hl [1, 2, 0] rfl)
        · have hf := qob_t hf c5
          refine lv_iload_n hx hb dX10_hand_47 rfl (lv_at hl 2 rfl) ?_
          have hf := qob_esc hf
          have hf := qob_esc hf
          cases qob_ret hf
          exact ct_iret X hQ hK hP hD hS rfl dX10_hand_48
  · have hf := qob_t hf c1
    refine lv_iconst (v := (-1)) hx hb dX10_hand_12 (by decide) ?_
    cases qob_ret hf
    exact ct_iret X hQ hK hP hD hS rfl dX10_hand_13
theorem inwX10_handAt_X10 : ∀ w ∈ wsX100, w ∈ wsX10_handAt := fun _ h => List.mem_cons_of_mem _ (List.mem_append_right _ h)
abbrev rmX10_handAt : Room := { frames := 4, cells := 0, slots := 0, locals := 96 }
theorem hdX10_handAt : yX10_handAt.cls = RX10 ∧ yX10_handAt.cls ≠ "java/lang/invoke/MethodHandle" ∧ yX10_handAt.cls ≠ "java/lang/invoke/VarHandle" ∧ (parseMethodDescriptor yX10_handAt.desc).map (fun d => d.parameters.length) = some 3 := by decide +kernel
set_option maxHeartbeats 4000000 in
set_option maxRecDepth 100000 in
theorem KX10_handAt {l : Launch} {D : va_G} {cy : Nat → ClassId} {mo : Nat} {ma : Nat → Nat} {m_thrown : Int32} {m_textSize : Int32} {m_rows : Int32} {m_columns : Int32} {m_a : Int32} {m_b : Int32} {m_readRows : Int32} {m_readColumns : Int32} {m_at : Int32} {m_looks : Int32} {m_came : Int32} {m_draw : Int64} {m_turnedRows : Int32} {m_turnedColumns : Int32} {m_right : Nat → Int32} {m_down : Nat → Int32} {p1 : Int32} {p2 : Int32} {p3 : Int32} {r : Int32} {m_thrown' : Int32} {m_at' : Int32} {m_looks' : Int32} (hf : fX10_handAt m_thrown m_rows m_columns m_a m_at m_looks m_right m_down p1 p2 p3 = some (r, m_thrown', m_at', m_looks')) : CtI l yX10_handAt wsX10_handAt rmX10_handAt D cy [.ref mo, .int p1, .int p2, .int p3] ([oX10 mo ma m_thrown m_textSize m_rows m_columns m_a m_b m_readRows m_readColumns m_at m_looks m_came m_draw m_turnedRows m_turnedColumns, aZ cy (ma 1) 36 m_right, aZ cy (ma 2) 36 m_down]) ([oX10 mo ma m_thrown' m_textSize m_rows m_columns m_a m_b m_readRows m_readColumns m_at' m_looks' m_came m_draw m_turnedRows m_turnedColumns, aZ cy (ma 1) 36 m_right, aZ cy (ma 2) 36 m_down]) r := by
  refine CtI.of (cc := cX10_handAt) (maxL := 5) (ret := some .int) (own := RX10) (by decide) rfl rfl (Nat.le_of_ble_eq_true rfl) ?_
  intro p e s m args below meth c A Q X hQ hK hP hD hS ls hl
  obtain ⟨hx, hb, hml, hown, hts, hr, hlocks, hA, hZ⟩ := id X
  have hl : lv_has ls 5 [(0, .ref mo), (1, .int p1), (2, .int p2), (3, .int p3)] := hl
  unfold fX10_handAt at hf
  have hf := qob_top hf
  refine lv_aload_n hx hb dX10_handAt_0 rfl (lv_at hl 0 rfl) ?_
  refine lv_iconst (v := 0) hx hb dX10_handAt_1 (by decide) ?_
  refine va_put (D := D) (ci := 10) (v := .int 0) (ty := .int) (C := RX10) (T := TX10) (N := 34) hx hb hts inwX10_handAt_X10 tyX10 tyX10_ok nmX10 hown hK hP hD hS 0 rfl rfl 0 (by decide) (hts (.fieldLink RX10 79 "HedgeWaysModel" "thrown" "I") (List.mem_of_getElem? (i := 1) rfl)) (fun _ h9 => h9) rfl (tyX10_ok 0 (by decide)) rfl rfl (Nat.le_of_ble_eq_true rfl) dX10_handAt_2 (fun H locs hP hD hS => ?_)
  have hP : va_P D vwCl ([oX10 mo ma 0 m_textSize m_rows m_columns m_a m_b m_readRows m_readColumns m_at m_looks m_came m_draw m_turnedRows m_turnedColumns, aZ cy (ma 1) 36 m_right, aZ cy (ma 2) 36 m_down]) H := hP
  have hD : va_D A ([oX10 mo ma 0 m_textSize m_rows m_columns m_a m_b m_readRows m_readColumns m_at m_looks m_came m_draw m_turnedRows m_turnedColumns, aZ cy (ma 1) 36 m_right, aZ cy (ma 2) 36 m_down]) := hD
  refine lv_iload_n hx hb dX10_handAt_5 rfl (lv_at hl 1 rfl) ?_
  refine ctS_i0 (r := (fX10_isSide p1)) (wc := []) (As := [.int p1]) (rest := []) X hK hP hD hS [] rfl rfl rfl (KX10_isSide rfl _) (va_cwS 1 hts gX10_handAt_X10_isSide rfl rfl rfl hdX10_isSide ⟨Nat.le_of_ble_eq_true rfl, Nat.le_of_ble_eq_true rfl⟩) rfl hl rfl (Nat.le_of_ble_eq_true rfl) dX10_handAt_6 (Nat.zero_le _) (Nat.zero_le _) (fun H locs hP hS => ?_)
  refine lv_if_ne (tgt := 14) hx hb dX10_handAt_9 (by decide) (fun c1 => ?_) (fun c1 => ?_)
  · have hf := qob_f hf c1
    refine lv_iload_n hx hb dX10_handAt_14 rfl (lv_at hl 3 rfl) ?_
    refine lv_i2l (v := p3.toInt64) hx hb dX10_handAt_15 rfl ?_
    refine lv_lconst (v := 0) hx hb dX10_handAt_16 (by decide) ?_
    refine lv_ldc2 hx hb hown (hts (.constantLong RX10 213 (999)) (List.mem_of_getElem? (i := 2) rfl)) dX10_handAt_17 ?_
    refine ctS_i0 (r := (fX10_in p3.toInt64 0 999)) (wc := []) (As := [.long p3.toInt64, .long 0, .long 999]) (rest := []) X hK hP hD hS [] rfl rfl rfl (KX10_in rfl _) (va_cwS 3 hts gX10_handAt_X10_in rfl rfl rfl hdX10_in ⟨Nat.le_of_ble_eq_true rfl, Nat.le_of_ble_eq_true rfl⟩) rfl hl rfl (Nat.le_of_ble_eq_true rfl) dX10_handAt_20 (Nat.zero_le _) (Nat.zero_le _) (fun H locs hP hS => ?_)
    refine lv_if_ne (tgt := 29) hx hb dX10_handAt_23 (by decide) (fun c2 => ?_) (fun c2 => ?_)
    · have hf := qob_f hf c2
      refine lv_aload_n hx hb dX10_handAt_29 rfl (lv_at hl 0 rfl) ?_
      refine lv_aload_n hx hb dX10_handAt_30 rfl (lv_at hl 0 rfl) ?_
      refine va_get (D := D) (ci := 10) (v := .int m_a) (C := RX10) (T := TX10) (N := 34) hx hb hts inwX10_handAt_X10 hown hK hP 0 rfl rfl 7 (by decide) (hts (.fieldLink RX10 103 "HedgeWaysModel" "a" "I") (List.mem_of_getElem? (i := 3) rfl)) (fun _ h9 => h9) rfl dX10_handAt_31 ?_
      refine va_put (D := D) (ci := 10) (v := .int m_a) (ty := .int) (C := RX10) (T := TX10) (N := 34) hx hb hts inwX10_handAt_X10 tyX10 tyX10_ok nmX10 hown hK hP hD hS 0 rfl rfl 20 (by decide) (hts (.fieldLink RX10 206 "HedgeWaysModel" "at" "I") (List.mem_of_getElem? (i := 4) rfl)) (fun _ h9 => h9) rfl (tyX10_ok 20 (by decide)) rfl rfl (Nat.le_of_ble_eq_true rfl) dX10_handAt_34 (fun H locs hP hD hS => ?_)
      have hP : va_P D vwCl ([oX10 mo ma 0 m_textSize m_rows m_columns m_a m_b m_readRows m_readColumns m_a m_looks m_came m_draw m_turnedRows m_turnedColumns, aZ cy (ma 1) 36 m_right, aZ cy (ma 2) 36 m_down]) H := hP
      have hD : va_D A ([oX10 mo ma 0 m_textSize m_rows m_columns m_a m_b m_readRows m_readColumns m_a m_looks m_came m_draw m_turnedRows m_turnedColumns, aZ cy (ma 1) 36 m_right, aZ cy (ma 2) 36 m_down]) := hD
      refine lv_aload_n hx hb dX10_handAt_37 rfl (lv_at hl 0 rfl) ?_
      refine lv_iload_n hx hb dX10_handAt_38 rfl (lv_at hl 1 rfl) ?_
      refine va_put (D := D) (ci := 10) (v := .int p1) (ty := .int) (C := RX10) (T := TX10) (N := 34) hx hb hts inwX10_handAt_X10 tyX10 tyX10_ok nmX10 hown hK hP hD hS 0 rfl rfl 21 (by decide) (hts (.fieldLink RX10 203 "HedgeWaysModel" "looks" "I") (List.mem_of_getElem? (i := 5) rfl)) (fun _ h9 => h9) rfl (tyX10_ok 21 (by decide)) rfl rfl (Nat.le_of_ble_eq_true rfl) dX10_handAt_39 (fun H locs hP hD hS => ?_)
      have hP : va_P D vwCl ([oX10 mo ma 0 m_textSize m_rows m_columns m_a m_b m_readRows m_readColumns m_a p1 m_came m_draw m_turnedRows m_turnedColumns, aZ cy (ma 1) 36 m_right, aZ cy (ma 2) 36 m_down]) H := hP
      have hD : va_D A ([oX10 mo ma 0 m_textSize m_rows m_columns m_a m_b m_readRows m_readColumns m_a p1 m_came m_draw m_turnedRows m_turnedColumns, aZ cy (ma 1) 36 m_right, aZ cy (ma 2) 36 m_down]) := hD
      refine lv_iconst (v := 0) hx hb dX10_handAt_42 (by decide) ?_
      refine lv_istore (lv' := [(4, .int 0), (0, .ref mo), (1, .int p1), (2, .int p2), (3, .int p3)]) hx hb dX10_handAt_43 hl (by decide) rfl (fun ls hl => ?_)
      refine qjoin2 hf (fun (m_at_1 : Int32) (m_looks_1 : Int32) => ∀ (H : Heap) (locs : List Loc) (ls : Array Slot), ctW D A s ([oX10 mo ma 0 m_textSize m_rows m_columns m_a m_b m_readRows m_readColumns m_at_1 m_looks_1 m_came m_draw m_turnedRows m_turnedColumns, aZ cy (ma 1) 36 m_right, aZ cy (ma 2) 36 m_down]) H locs → lv_has ls 5 [(0, .ref mo)] → W p l e rmX10_handAt s m args below meth c H locs 0 0 Q (F0 m 62 ls [])) ?_ ?_
      · intro m_at_1 m_looks_1 hf H locs ls ⟨hP, hD, hS⟩ hl
        refine lv_aload_n hx hb dX10_handAt_62 rfl (lv_at hl 0 rfl) ?_
        refine va_get (D := D) (ci := 10) (v := .int m_at_1) (C := RX10) (T := TX10) (N := 34) hx hb hts inwX10_handAt_X10 hown hK hP 0 rfl rfl 20 (by decide) (hts (.fieldLink RX10 206 "HedgeWaysModel" "at" "I") (List.mem_of_getElem? (i := 4) rfl)) (fun _ h9 => h9) rfl dX10_handAt_63 ?_
        refine ctS_i0 (r := (fX10_code m_at_1)) (wc := []) (As := [.int m_at_1]) (rest := []) X hK hP hD hS [] rfl rfl rfl (KX10_code rfl _) (va_cwS 1 hts gX10_handAt_X10_code rfl rfl rfl hdX10_code ⟨Nat.le_of_ble_eq_true rfl, Nat.le_of_ble_eq_true rfl⟩) rfl hl rfl (Nat.le_of_ble_eq_true rfl) dX10_handAt_66 (Nat.zero_le _) (Nat.zero_le _) (fun H locs hP hS => ?_)
        cases qob_ret hf
        exact ct_iret X hQ hK hP hD hS rfl dX10_handAt_69
      · intro J3 hJ3 hf
        refine qwalk3 (fun (x4_1 : Int32) (m_at_2 : Int32) (m_looks_2 : Int32) => ∀ (H : Heap) (locs : List Loc) (ls : Array Slot), ctW D A s ([oX10 mo ma 0 m_textSize m_rows m_columns m_a m_b m_readRows m_readColumns m_at_2 m_looks_2 m_came m_draw m_turnedRows m_turnedColumns, aZ cy (ma 1) 36 m_right, aZ cy (ma 2) 36 m_down]) H locs → lv_has ls 5 [(0, .ref mo), (2, .int p2), (3, .int p3), (4, .int x4_1)] → W p l e rmX10_handAt s m args below meth c H locs 0 0 Q (F0 m 45 ls [])) ?_ _ (0 : Int32) m_a p1 hf _ _ _ ⟨hP, hD, hS⟩ (lv_sub hl [1, 3, 4, 0] rfl)
        intro J4 hL4 x4_1 m_at_2 m_looks_2 hf H locs ls ⟨hP, hD, hS⟩ hl
        refine lv_iload hx hb dX10_handAt_45 (lv_at hl 3 rfl) ?_
        refine lv_iload_n hx hb dX10_handAt_47 rfl (lv_at hl 2 rfl) ?_
        refine lv_icmp_ge (tgt := 62) hx hb dX10_handAt_48 (by decide) (fun c5 => ?_) (fun c5 => ?_)
        · have hf := qob_t hf c5
          have hf := qob_esc hf
          exact hJ3 m_at_2 m_looks_2 hf _ _ _ ⟨hP, hD, hS⟩ (lv_sub hl [0] rfl)
        · have hf := qob_f hf c5
          refine lv_aload_n hx hb dX10_handAt_51 rfl (lv_at hl 0 rfl) ?_
          refine lv_iload_n hx hb dX10_handAt_52 rfl (lv_at hl 1 rfl) ?_
          obtain ⟨m_at_3, m_looks_3, q6, hf⟩ := qcall2 hf
          refine ctV_v (wc := [oX10 mo ma 0 m_textSize m_rows m_columns m_a m_b m_readRows m_readColumns m_at_2 m_looks_2 m_came m_draw m_turnedRows m_turnedColumns, aZ cy (ma 1) 36 m_right, aZ cy (ma 2) 36 m_down]) (w1 := [oX10 mo ma 0 m_textSize m_rows m_columns m_a m_b m_readRows m_readColumns m_at_3 m_looks_3 m_came m_draw m_turnedRows m_turnedColumns, aZ cy (ma 1) 36 m_right, aZ cy (ma 2) 36 m_down]) (wr := []) (wn := [oX10 mo ma 0 m_textSize m_rows m_columns m_a m_b m_readRows m_readColumns m_at_3 m_looks_3 m_came m_draw m_turnedRows m_turnedColumns, aZ cy (ma 1) 36 m_right, aZ cy (ma 2) 36 m_down]) (As := [.int p2]) (rest := []) (q0 := 0) X hK hP hD hS [0, 1, 2] [] [0, 1, 2] rfl rfl rfl rfl rfl (by decide) rfl rfl rfl (KX10_handStep q6 _) (cwV 1 hts gX10_handAt_X10_handStep rfl rfl rfl hdX10_handStep ⟨Nat.le_of_ble_eq_true rfl, Nat.le_of_ble_eq_true rfl⟩) rfl rfl rfl hl rfl (Nat.le_of_ble_eq_true rfl) dX10_handAt_53 (Nat.zero_le _) (Nat.zero_le _) (fun H locs hP hD hS => ?_)
          refine lv_iinc (v := (x4_1 + 1)) (lv' := [(4, .int (x4_1 + 1)), (0, .ref mo), (2, .int p2), (3, .int p3)]) hx hb dX10_handAt_56 hl (k := 3) rfl rfl (by decide) rfl (fun ls hl => ?_)
          refine lv_goto (tgt := 45) hx hb dX10_handAt_59 (by decide) ?_
          exact hL4 (x4_1 + 1) m_at_3 m_looks_3 hf _ _ _ ⟨hP, hD, hS⟩ (lv_sub hl [1, 2, 3, 0] rfl)
    · have hf := qob_t hf c2
      refine lv_bipush (v := (-2)) hx hb dX10_handAt_26 (by decide) ?_
      cases qob_ret hf
      exact ct_iret X hQ hK hP hD hS rfl dX10_handAt_28
  · have hf := qob_t hf c1
    refine lv_iconst (v := (-1)) hx hb dX10_handAt_12 (by decide) ?_
    cases qob_ret hf
    exact ct_iret X hQ hK hP hD hS rfl dX10_handAt_13
theorem inwX10_goThread_X10 : ∀ w ∈ wsX100, w ∈ wsX10_goThread := fun _ h => List.mem_cons_of_mem _ (List.mem_append_right _ h)
abbrev rmX10_goThread : Room := { frames := 3, cells := 0, slots := 0, locals := 72 }
theorem hdX10_goThread : yX10_goThread.cls = RX10 ∧ yX10_goThread.cls ≠ "java/lang/invoke/MethodHandle" ∧ yX10_goThread.cls ≠ "java/lang/invoke/VarHandle" ∧ (parseMethodDescriptor yX10_goThread.desc).map (fun d => d.parameters.length) = some 0 := by decide +kernel
set_option maxHeartbeats 4000000 in
set_option maxRecDepth 100000 in
theorem KX10_goThread {l : Launch} {D : va_G} {cy : Nat → ClassId} {mo : Nat} {ma : Nat → Nat} {m_thrown : Int32} {m_textSize : Int32} {m_rows : Int32} {m_columns : Int32} {m_a : Int32} {m_b : Int32} {m_readRows : Int32} {m_readColumns : Int32} {m_at : Int32} {m_looks : Int32} {m_came : Int32} {m_draw : Int64} {m_turnedRows : Int32} {m_turnedColumns : Int32} {m_right : Nat → Int32} {m_down : Nat → Int32} {m_back : Nat → Int32} {m_was : Nat → Int32}  {r : Int32} {m_at' : Int32} {m_came' : Int32} {m_back' : Nat → Int32} {m_was' : Nat → Int32} (hf : fX10_goThread m_rows m_columns m_a m_b m_at m_came m_right m_down m_back m_was = some (r, m_at', m_came', m_back', m_was')) : CtI l yX10_goThread wsX10_goThread rmX10_goThread D cy [.ref mo] ([oX10 mo ma m_thrown m_textSize m_rows m_columns m_a m_b m_readRows m_readColumns m_at m_looks m_came m_draw m_turnedRows m_turnedColumns, aZ cy (ma 1) 36 m_right, aZ cy (ma 2) 36 m_down, aI cy (ma 12) 36 m_back, aZ cy (ma 13) 36 m_was]) ([oX10 mo ma m_thrown m_textSize m_rows m_columns m_a m_b m_readRows m_readColumns m_at' m_looks m_came' m_draw m_turnedRows m_turnedColumns, aZ cy (ma 1) 36 m_right, aZ cy (ma 2) 36 m_down, aI cy (ma 12) 36 m_back', aZ cy (ma 13) 36 m_was']) r := by
  refine CtI.of (cc := cX10_goThread) (maxL := 4) (ret := some .int) (own := RX10) (by decide) rfl rfl (Nat.le_of_ble_eq_true rfl) ?_
  intro p e s m args below meth c A Q X hQ hK hP hD hS ls hl
  obtain ⟨hx, hb, hml, hown, hts, hr, hlocks, hA, hZ⟩ := id X
  have hl : lv_has ls 4 [(0, .ref mo)] := hl
  unfold fX10_goThread at hf
  have hf := qob_top hf
  refine lv_iconst (v := 0) hx hb dX10_goThread_0 (by decide) ?_
  refine lv_istore_n (lv' := [(1, .int 0), (0, .ref mo)]) hx hb dX10_goThread_1 rfl hl (by decide) rfl (fun ls hl => ?_)
  refine qjoin1 hf (fun (m_was_1 : Nat → Int32) => ∀ (H : Heap) (locs : List Loc) (ls : Array Slot), ctW D A s ([oX10 mo ma m_thrown m_textSize m_rows m_columns m_a m_b m_readRows m_readColumns m_at m_looks m_came m_draw m_turnedRows m_turnedColumns, aZ cy (ma 1) 36 m_right, aZ cy (ma 2) 36 m_down, aI cy (ma 12) 36 m_back, aZ cy (ma 13) 36 m_was_1]) H locs → lv_has ls 4 [(0, .ref mo)] → W p l e rmX10_goThread s m args below meth c H locs 0 0 Q (F0 m 21 ls [])) ?_ ?_
  · intro m_was_1 hf H locs ls ⟨hP, hD, hS⟩ hl
    refine lv_aload_n hx hb dX10_goThread_21 rfl (lv_at hl 0 rfl) ?_
    refine lv_aload_n hx hb dX10_goThread_22 rfl (lv_at hl 0 rfl) ?_
    refine va_get (D := D) (ci := 10) (v := .int m_a) (C := RX10) (T := TX10) (N := 34) hx hb hts inwX10_goThread_X10 hown hK hP 0 rfl rfl 7 (by decide) (hts (.fieldLink RX10 103 "HedgeWaysModel" "a" "I") (List.mem_of_getElem? (i := 2) rfl)) (fun _ h9 => h9) rfl dX10_goThread_23 ?_
    refine va_put (D := D) (ci := 10) (v := .int m_a) (ty := .int) (C := RX10) (T := TX10) (N := 34) hx hb hts inwX10_goThread_X10 tyX10 tyX10_ok nmX10 hown hK hP hD hS 0 rfl rfl 20 (by decide) (hts (.fieldLink RX10 206 "HedgeWaysModel" "at" "I") (List.mem_of_getElem? (i := 3) rfl)) (fun _ h9 => h9) rfl (tyX10_ok 20 (by decide)) rfl rfl (Nat.le_of_ble_eq_true rfl) dX10_goThread_26 (fun H locs hP hD hS => ?_)
    have hP : va_P D vwCl ([oX10 mo ma m_thrown m_textSize m_rows m_columns m_a m_b m_readRows m_readColumns m_a m_looks m_came m_draw m_turnedRows m_turnedColumns, aZ cy (ma 1) 36 m_right, aZ cy (ma 2) 36 m_down, aI cy (ma 12) 36 m_back, aZ cy (ma 13) 36 m_was_1]) H := hP
    have hD : va_D A ([oX10 mo ma m_thrown m_textSize m_rows m_columns m_a m_b m_readRows m_readColumns m_a m_looks m_came m_draw m_turnedRows m_turnedColumns, aZ cy (ma 1) 36 m_right, aZ cy (ma 2) 36 m_down, aI cy (ma 12) 36 m_back, aZ cy (ma 13) 36 m_was_1]) := hD
    refine lv_aload_n hx hb dX10_goThread_29 rfl (lv_at hl 0 rfl) ?_
    refine va_get (D := D) (ci := 10) (v := .ref (ma 13)) (C := RX10) (T := TX10) (N := 34) hx hb hts inwX10_goThread_X10 hown hK hP 0 rfl rfl 24 (by decide) (hts (.fieldLink RX10 58 "HedgeWaysModel" "was" "[Z") (List.mem_of_getElem? (i := 1) rfl)) (fun _ h9 => h9) rfl dX10_goThread_30 ?_
    refine lv_aload_n hx hb dX10_goThread_33 rfl (lv_at hl 0 rfl) ?_
    refine va_get (D := D) (ci := 10) (v := .int m_a) (C := RX10) (T := TX10) (N := 34) hx hb hts inwX10_goThread_X10 hown hK hP 0 rfl rfl 7 (by decide) (hts (.fieldLink RX10 103 "HedgeWaysModel" "a" "I") (List.mem_of_getElem? (i := 2) rfl)) (fun _ h9 => h9) rfl dX10_goThread_34 ?_
    refine lv_iconst (v := 1) hx hb dX10_goThread_37 (by decide) ?_
    obtain ⟨i1, hf⟩ := qob_gd hf
    refine va_zast hx hb hK hP hD hS 4 2 rfl rfl i1 dX10_goThread_38 (fun H locs hP hD hS => ?_)
    have hP : va_P D vwCl ([oX10 mo ma m_thrown m_textSize m_rows m_columns m_a m_b m_readRows m_readColumns m_a m_looks m_came m_draw m_turnedRows m_turnedColumns, aZ cy (ma 1) 36 m_right, aZ cy (ma 2) 36 m_down, aI cy (ma 12) 36 m_back, aZ cy (ma 13) 36 (upd m_was_1 m_a.toNatClampNeg (qnb 1))]) H := hP
    have hD : va_D A ([oX10 mo ma m_thrown m_textSize m_rows m_columns m_a m_b m_readRows m_readColumns m_a m_looks m_came m_draw m_turnedRows m_turnedColumns, aZ cy (ma 1) 36 m_right, aZ cy (ma 2) 36 m_down, aI cy (ma 12) 36 m_back, aZ cy (ma 13) 36 (upd m_was_1 m_a.toNatClampNeg (qnb 1))]) := hD
    refine lv_aload_n hx hb dX10_goThread_39 rfl (lv_at hl 0 rfl) ?_
    refine va_get (D := D) (ci := 10) (v := .ref (ma 12)) (C := RX10) (T := TX10) (N := 34) hx hb hts inwX10_goThread_X10 hown hK hP 0 rfl rfl 23 (by decide) (hts (.fieldLink RX10 55 "HedgeWaysModel" "back" "[I") (List.mem_of_getElem? (i := 4) rfl)) (fun _ h9 => h9) rfl dX10_goThread_40 ?_
    refine lv_aload_n hx hb dX10_goThread_43 rfl (lv_at hl 0 rfl) ?_
    refine va_get (D := D) (ci := 10) (v := .int m_a) (C := RX10) (T := TX10) (N := 34) hx hb hts inwX10_goThread_X10 hown hK hP 0 rfl rfl 7 (by decide) (hts (.fieldLink RX10 103 "HedgeWaysModel" "a" "I") (List.mem_of_getElem? (i := 2) rfl)) (fun _ h9 => h9) rfl dX10_goThread_44 ?_
    refine lv_bipush (v := (-9)) hx hb dX10_goThread_47 (by decide) ?_
    obtain ⟨i2, hf⟩ := qob_gd hf
    refine va_iast hx hb hK hP hD hS 3 0 rfl rfl i2 dX10_goThread_49 (fun H locs hP hD hS => ?_)
    have hP : va_P D vwCl ([oX10 mo ma m_thrown m_textSize m_rows m_columns m_a m_b m_readRows m_readColumns m_a m_looks m_came m_draw m_turnedRows m_turnedColumns, aZ cy (ma 1) 36 m_right, aZ cy (ma 2) 36 m_down, aI cy (ma 12) 36 (upd m_back m_a.toNatClampNeg (-9)), aZ cy (ma 13) 36 (upd m_was_1 m_a.toNatClampNeg (qnb 1))]) H := hP
    have hD : va_D A ([oX10 mo ma m_thrown m_textSize m_rows m_columns m_a m_b m_readRows m_readColumns m_a m_looks m_came m_draw m_turnedRows m_turnedColumns, aZ cy (ma 1) 36 m_right, aZ cy (ma 2) 36 m_down, aI cy (ma 12) 36 (upd m_back m_a.toNatClampNeg (-9)), aZ cy (ma 13) 36 (upd m_was_1 m_a.toNatClampNeg (qnb 1))]) := hD
    refine lv_aload_n hx hb dX10_goThread_50 rfl (lv_at hl 0 rfl) ?_
    refine lv_iconst (v := 1) hx hb dX10_goThread_51 (by decide) ?_
    refine va_put (D := D) (ci := 10) (v := .int 1) (ty := .int) (C := RX10) (T := TX10) (N := 34) hx hb hts inwX10_goThread_X10 tyX10 tyX10_ok nmX10 hown hK hP hD hS 0 rfl rfl 22 (by decide) (hts (.fieldLink RX10 215 "HedgeWaysModel" "came" "I") (List.mem_of_getElem? (i := 5) rfl)) (fun _ h9 => h9) rfl (tyX10_ok 22 (by decide)) rfl rfl (Nat.le_of_ble_eq_true rfl) dX10_goThread_52 (fun H locs hP hD hS => ?_)
    have hP : va_P D vwCl ([oX10 mo ma m_thrown m_textSize m_rows m_columns m_a m_b m_readRows m_readColumns m_a m_looks 1 m_draw m_turnedRows m_turnedColumns, aZ cy (ma 1) 36 m_right, aZ cy (ma 2) 36 m_down, aI cy (ma 12) 36 (upd m_back m_a.toNatClampNeg (-9)), aZ cy (ma 13) 36 (upd m_was_1 m_a.toNatClampNeg (qnb 1))]) H := hP
    have hD : va_D A ([oX10 mo ma m_thrown m_textSize m_rows m_columns m_a m_b m_readRows m_readColumns m_a m_looks 1 m_draw m_turnedRows m_turnedColumns, aZ cy (ma 1) 36 m_right, aZ cy (ma 2) 36 m_down, aI cy (ma 12) 36 (upd m_back m_a.toNatClampNeg (-9)), aZ cy (ma 13) 36 (upd m_was_1 m_a.toNatClampNeg (qnb 1))]) := hD
    refine lv_iconst (v := 0) hx hb dX10_goThread_55 (by decide) ?_
    refine lv_istore_n (lv' := [(1, .int 0), (0, .ref mo)]) hx hb dX10_goThread_56 rfl hl (by decide) rfl (fun ls hl => ?_)
    refine qjoinE5 hf (fun (x1_1 : Int32) (m_at_1 : Int32) (m_came_1 : Int32) (m_back_1 : Nat → Int32) (m_was_2 : Nat → Int32) => ∀ (H : Heap) (locs : List Loc) (ls : Array Slot), ctW D A s ([oX10 mo ma m_thrown m_textSize m_rows m_columns m_a m_b m_readRows m_readColumns m_at_1 m_looks m_came_1 m_draw m_turnedRows m_turnedColumns, aZ cy (ma 1) 36 m_right, aZ cy (ma 2) 36 m_down, aI cy (ma 12) 36 m_back_1, aZ cy (ma 13) 36 m_was_2]) H locs → lv_has ls 4 [(1, .int x1_1)] → W p l e rmX10_goThread s m args below meth c H locs 0 0 Q (F0 m 209 ls [])) ?_ ?_
    · intro x1_1 m_at_1 m_came_1 m_back_1 m_was_2 hf H locs ls ⟨hP, hD, hS⟩ hl
      refine lv_iload_n hx hb dX10_goThread_209 rfl (lv_at hl 0 rfl) ?_
      cases qob_ret hf
      exact ct_iret X hQ hK hP hD hS rfl dX10_goThread_210
    · intro J3 hJ3 hf
      refine qwalk5 (fun (x1_2 : Int32) (m_at_2 : Int32) (m_came_2 : Int32) (m_back_2 : Nat → Int32) (m_was_3 : Nat → Int32) => ∀ (H : Heap) (locs : List Loc) (ls : Array Slot), ctW D A s ([oX10 mo ma m_thrown m_textSize m_rows m_columns m_a m_b m_readRows m_readColumns m_at_2 m_looks m_came_2 m_draw m_turnedRows m_turnedColumns, aZ cy (ma 1) 36 m_right, aZ cy (ma 2) 36 m_down, aI cy (ma 12) 36 m_back_2, aZ cy (ma 13) 36 m_was_3]) H locs → lv_has ls 4 [(0, .ref mo), (1, .int x1_2)] → W p l e rmX10_goThread s m args below meth c H locs 0 0 Q (F0 m 57 ls [])) ?_ _ (0 : Int32) m_a (1 : Int32) (upd m_back m_a.toNatClampNeg (-9)) (upd m_was_1 m_a.toNatClampNeg (qnb 1)) hf _ _ _ ⟨hP, hD, hS⟩ (lv_sub hl [1, 0] rfl)
      intro J4 hL4 x1_2 m_at_2 m_came_2 m_back_2 m_was_3 hf H locs ls ⟨hP, hD, hS⟩ hl
      refine lv_aload_n hx hb dX10_goThread_57 rfl (lv_at hl 0 rfl) ?_
      refine va_get (D := D) (ci := 10) (v := .int m_at_2) (C := RX10) (T := TX10) (N := 34) hx hb hts inwX10_goThread_X10 hown hK hP 0 rfl rfl 20 (by decide) (hts (.fieldLink RX10 206 "HedgeWaysModel" "at" "I") (List.mem_of_getElem? (i := 3) rfl)) (fun _ h9 => h9) rfl dX10_goThread_58 ?_
      refine lv_aload_n hx hb dX10_goThread_61 rfl (lv_at hl 0 rfl) ?_
      refine va_get (D := D) (ci := 10) (v := .int m_b) (C := RX10) (T := TX10) (N := 34) hx hb hts inwX10_goThread_X10 hown hK hP 0 rfl rfl 8 (by decide) (hts (.fieldLink RX10 106 "HedgeWaysModel" "b" "I") (List.mem_of_getElem? (i := 6) rfl)) (fun _ h9 => h9) rfl dX10_goThread_62 ?_
      refine lv_icmp_eq (tgt := 209) hx hb dX10_goThread_65 (by decide) (fun c5 => ?_) (fun c5 => ?_)
      · have hf := qob_t hf c5
        have hf := qob_esc hf
        exact hJ3 x1_2 m_at_2 m_came_2 m_back_2 m_was_3 hf _ _ _ ⟨hP, hD, hS⟩ (lv_sub hl [1] rfl)
      · have hf := qob_f hf c5
        refine lv_bipush (v := (-9)) hx hb dX10_goThread_68 (by decide) ?_
        refine lv_istore_n (lv' := [(2, .int (-9)), (0, .ref mo), (1, .int x1_2)]) hx hb dX10_goThread_70 rfl hl (by decide) rfl (fun ls hl => ?_)
        refine lv_iconst (v := 3) hx hb dX10_goThread_71 (by decide) ?_
        refine lv_istore_n (lv' := [(3, .int 3), (2, .int (-9)), (0, .ref mo), (1, .int x1_2)]) hx hb dX10_goThread_72 rfl hl (by decide) rfl (fun ls hl => ?_)
        refine qjoin1 hf (fun (x2_1 : Int32) => ∀ (H : Heap) (locs : List Loc) (ls : Array Slot), ctW D A s ([oX10 mo ma m_thrown m_textSize m_rows m_columns m_a m_b m_readRows m_readColumns m_at_2 m_looks m_came_2 m_draw m_turnedRows m_turnedColumns, aZ cy (ma 1) 36 m_right, aZ cy (ma 2) 36 m_down, aI cy (ma 12) 36 m_back_2, aZ cy (ma 13) 36 m_was_3]) H locs → lv_has ls 4 [(0, .ref mo), (1, .int x1_2), (2, .int x2_1)] → W p l e rmX10_goThread s m args below meth c H locs 0 0 Q (F0 m 126 ls [])) ?_ ?_
        · intro x2_1 hf H locs ls ⟨hP, hD, hS⟩ hl
          refine lv_iload_n hx hb dX10_goThread_126 rfl (lv_at hl 2 rfl) ?_
          refine lv_bipush (v := (-9)) hx hb dX10_goThread_127 (by decide) ?_
          refine qjoinE0 hf (∀ (H : Heap) (locs : List Loc) (ls : Array Slot), ctW D A s ([oX10 mo ma m_thrown m_textSize m_rows m_columns m_a m_b m_readRows m_readColumns m_at_2 m_looks m_came_2 m_draw m_turnedRows m_turnedColumns, aZ cy (ma 1) 36 m_right, aZ cy (ma 2) 36 m_down, aI cy (ma 12) 36 m_back_2, aZ cy (ma 13) 36 m_was_3]) H locs → lv_has ls 4 [(0, .ref mo), (1, .int x1_2), (2, .int x2_1)] → W p l e rmX10_goThread s m args below meth c H locs 0 0 Q (F0 m 149 ls [])) ?_ ?_
          · intro  hf H locs ls ⟨hP, hD, hS⟩ hl
            refine lv_iload_n hx hb dX10_goThread_149 rfl (lv_at hl 2 rfl) ?_
            refine lv_bipush (v := (-9)) hx hb dX10_goThread_150 (by decide) ?_
            refine lv_icmp_ne (tgt := 171) hx hb dX10_goThread_152 (by decide) (fun c6 => ?_) (fun c6 => ?_)
            · have hf := qob_f hf c6
              refine lv_aload_n hx hb dX10_goThread_171 rfl (lv_at hl 0 rfl) ?_
              refine va_get (D := D) (ci := 10) (v := .ref (ma 12)) (C := RX10) (T := TX10) (N := 34) hx hb hts inwX10_goThread_X10 hown hK hP 0 rfl rfl 23 (by decide) (hts (.fieldLink RX10 55 "HedgeWaysModel" "back" "[I") (List.mem_of_getElem? (i := 4) rfl)) (fun _ h9 => h9) rfl dX10_goThread_172 ?_
              refine lv_iload_n hx hb dX10_goThread_175 rfl (lv_at hl 2 rfl) ?_
              refine lv_aload_n hx hb dX10_goThread_176 rfl (lv_at hl 0 rfl) ?_
              refine va_get (D := D) (ci := 10) (v := .int m_at_2) (C := RX10) (T := TX10) (N := 34) hx hb hts inwX10_goThread_X10 hown hK hP 0 rfl rfl 20 (by decide) (hts (.fieldLink RX10 206 "HedgeWaysModel" "at" "I") (List.mem_of_getElem? (i := 3) rfl)) (fun _ h9 => h9) rfl dX10_goThread_177 ?_
              obtain ⟨i7, hf⟩ := qob_gd hf
              refine va_iast hx hb hK hP hD hS 3 0 rfl rfl i7 dX10_goThread_180 (fun H locs hP hD hS => ?_)
              have hP : va_P D vwCl ([oX10 mo ma m_thrown m_textSize m_rows m_columns m_a m_b m_readRows m_readColumns m_at_2 m_looks m_came_2 m_draw m_turnedRows m_turnedColumns, aZ cy (ma 1) 36 m_right, aZ cy (ma 2) 36 m_down, aI cy (ma 12) 36 (upd m_back_2 x2_1.toNatClampNeg m_at_2), aZ cy (ma 13) 36 m_was_3]) H := hP
              have hD : va_D A ([oX10 mo ma m_thrown m_textSize m_rows m_columns m_a m_b m_readRows m_readColumns m_at_2 m_looks m_came_2 m_draw m_turnedRows m_turnedColumns, aZ cy (ma 1) 36 m_right, aZ cy (ma 2) 36 m_down, aI cy (ma 12) 36 (upd m_back_2 x2_1.toNatClampNeg m_at_2), aZ cy (ma 13) 36 m_was_3]) := hD
              refine lv_aload_n hx hb dX10_goThread_181 rfl (lv_at hl 0 rfl) ?_
              refine va_get (D := D) (ci := 10) (v := .ref (ma 13)) (C := RX10) (T := TX10) (N := 34) hx hb hts inwX10_goThread_X10 hown hK hP 0 rfl rfl 24 (by decide) (hts (.fieldLink RX10 58 "HedgeWaysModel" "was" "[Z") (List.mem_of_getElem? (i := 1) rfl)) (fun _ h9 => h9) rfl dX10_goThread_182 ?_
              refine lv_iload_n hx hb dX10_goThread_185 rfl (lv_at hl 2 rfl) ?_
              refine lv_iconst (v := 1) hx hb dX10_goThread_186 (by decide) ?_
              obtain ⟨i8, hf⟩ := qob_gd hf
              refine va_zast hx hb hK hP hD hS 4 2 rfl rfl i8 dX10_goThread_187 (fun H locs hP hD hS => ?_)
              have hP : va_P D vwCl ([oX10 mo ma m_thrown m_textSize m_rows m_columns m_a m_b m_readRows m_readColumns m_at_2 m_looks m_came_2 m_draw m_turnedRows m_turnedColumns, aZ cy (ma 1) 36 m_right, aZ cy (ma 2) 36 m_down, aI cy (ma 12) 36 (upd m_back_2 x2_1.toNatClampNeg m_at_2), aZ cy (ma 13) 36 (upd m_was_3 x2_1.toNatClampNeg (qnb 1))]) H := hP
              have hD : va_D A ([oX10 mo ma m_thrown m_textSize m_rows m_columns m_a m_b m_readRows m_readColumns m_at_2 m_looks m_came_2 m_draw m_turnedRows m_turnedColumns, aZ cy (ma 1) 36 m_right, aZ cy (ma 2) 36 m_down, aI cy (ma 12) 36 (upd m_back_2 x2_1.toNatClampNeg m_at_2), aZ cy (ma 13) 36 (upd m_was_3 x2_1.toNatClampNeg (qnb 1))]) := hD
              refine lv_aload_n hx hb dX10_goThread_188 rfl (lv_at hl 0 rfl) ?_
              refine lv_dup hx hb dX10_goThread_189 rfl ?_
              refine va_get (D := D) (ci := 10) (v := .int m_came_2) (C := RX10) (T := TX10) (N := 34) hx hb hts inwX10_goThread_X10 hown hK hP 0 rfl rfl 22 (by decide) (hts (.fieldLink RX10 215 "HedgeWaysModel" "came" "I") (List.mem_of_getElem? (i := 5) rfl)) (fun _ h9 => h9) rfl dX10_goThread_190 ?_
              refine lv_iconst (v := 1) hx hb dX10_goThread_193 (by decide) ?_
              refine lv_iadd hx hb dX10_goThread_194 ?_
              refine va_put (D := D) (ci := 10) (v := .int (m_came_2 + 1)) (ty := .int) (C := RX10) (T := TX10) (N := 34) hx hb hts inwX10_goThread_X10 tyX10 tyX10_ok nmX10 hown hK hP hD hS 0 rfl rfl 22 (by decide) (hts (.fieldLink RX10 215 "HedgeWaysModel" "came" "I") (List.mem_of_getElem? (i := 5) rfl)) (fun _ h9 => h9) rfl (tyX10_ok 22 (by decide)) rfl rfl (Nat.le_of_ble_eq_true rfl) dX10_goThread_195 (fun H locs hP hD hS => ?_)
              have hP : va_P D vwCl ([oX10 mo ma m_thrown m_textSize m_rows m_columns m_a m_b m_readRows m_readColumns m_at_2 m_looks (m_came_2 + 1) m_draw m_turnedRows m_turnedColumns, aZ cy (ma 1) 36 m_right, aZ cy (ma 2) 36 m_down, aI cy (ma 12) 36 (upd m_back_2 x2_1.toNatClampNeg m_at_2), aZ cy (ma 13) 36 (upd m_was_3 x2_1.toNatClampNeg (qnb 1))]) H := hP
              have hD : va_D A ([oX10 mo ma m_thrown m_textSize m_rows m_columns m_a m_b m_readRows m_readColumns m_at_2 m_looks (m_came_2 + 1) m_draw m_turnedRows m_turnedColumns, aZ cy (ma 1) 36 m_right, aZ cy (ma 2) 36 m_down, aI cy (ma 12) 36 (upd m_back_2 x2_1.toNatClampNeg m_at_2), aZ cy (ma 13) 36 (upd m_was_3 x2_1.toNatClampNeg (qnb 1))]) := hD
              refine lv_aload_n hx hb dX10_goThread_198 rfl (lv_at hl 0 rfl) ?_
              refine lv_iload_n hx hb dX10_goThread_199 rfl (lv_at hl 2 rfl) ?_
              refine va_put (D := D) (ci := 10) (v := .int x2_1) (ty := .int) (C := RX10) (T := TX10) (N := 34) hx hb hts inwX10_goThread_X10 tyX10 tyX10_ok nmX10 hown hK hP hD hS 0 rfl rfl 20 (by decide) (hts (.fieldLink RX10 206 "HedgeWaysModel" "at" "I") (List.mem_of_getElem? (i := 3) rfl)) (fun _ h9 => h9) rfl (tyX10_ok 20 (by decide)) rfl rfl (Nat.le_of_ble_eq_true rfl) dX10_goThread_200 (fun H locs hP hD hS => ?_)
              have hP : va_P D vwCl ([oX10 mo ma m_thrown m_textSize m_rows m_columns m_a m_b m_readRows m_readColumns x2_1 m_looks (m_came_2 + 1) m_draw m_turnedRows m_turnedColumns, aZ cy (ma 1) 36 m_right, aZ cy (ma 2) 36 m_down, aI cy (ma 12) 36 (upd m_back_2 x2_1.toNatClampNeg m_at_2), aZ cy (ma 13) 36 (upd m_was_3 x2_1.toNatClampNeg (qnb 1))]) H := hP
              have hD : va_D A ([oX10 mo ma m_thrown m_textSize m_rows m_columns m_a m_b m_readRows m_readColumns x2_1 m_looks (m_came_2 + 1) m_draw m_turnedRows m_turnedColumns, aZ cy (ma 1) 36 m_right, aZ cy (ma 2) 36 m_down, aI cy (ma 12) 36 (upd m_back_2 x2_1.toNatClampNeg m_at_2), aZ cy (ma 13) 36 (upd m_was_3 x2_1.toNatClampNeg (qnb 1))]) := hD
              refine lv_iinc (v := (x1_2 + 1)) (lv' := [(1, .int (x1_2 + 1)), (0, .ref mo), (2, .int x2_1)]) hx hb dX10_goThread_203 hl (k := 1) rfl rfl (by decide) rfl (fun ls hl => ?_)
              refine lv_goto (tgt := 57) hx hb dX10_goThread_206 (by decide) ?_
              exact hL4 (x1_2 + 1) x2_1 (m_came_2 + 1) (upd m_back_2 x2_1.toNatClampNeg m_at_2) (upd m_was_3 x2_1.toNatClampNeg (qnb 1)) hf _ _ _ ⟨hP, hD, hS⟩ (lv_sub hl [1, 0] rfl)
            · have hf := qob_t hf c6
              refine lv_aload_n hx hb dX10_goThread_155 rfl (lv_at hl 0 rfl) ?_
              refine lv_aload_n hx hb dX10_goThread_156 rfl (lv_at hl 0 rfl) ?_
              refine va_get (D := D) (ci := 10) (v := .ref (ma 12)) (C := RX10) (T := TX10) (N := 34) hx hb hts inwX10_goThread_X10 hown hK hP 0 rfl rfl 23 (by decide) (hts (.fieldLink RX10 55 "HedgeWaysModel" "back" "[I") (List.mem_of_getElem? (i := 4) rfl)) (fun _ h9 => h9) rfl dX10_goThread_157 ?_
              refine lv_aload_n hx hb dX10_goThread_160 rfl (lv_at hl 0 rfl) ?_
              refine va_get (D := D) (ci := 10) (v := .int m_at_2) (C := RX10) (T := TX10) (N := 34) hx hb hts inwX10_goThread_X10 hown hK hP 0 rfl rfl 20 (by decide) (hts (.fieldLink RX10 206 "HedgeWaysModel" "at" "I") (List.mem_of_getElem? (i := 3) rfl)) (fun _ h9 => h9) rfl dX10_goThread_161 ?_
              obtain ⟨i9, hf⟩ := qob_gd hf
              refine va_iald hx hb hK hP 3 0 rfl rfl i9 dX10_goThread_164 ?_
              refine lv_topi (fun m_at_3 e10 => ?_)
              have hf := qob_bd hf e10
              refine va_put (D := D) (ci := 10) (v := .int m_at_3) (ty := .int) (C := RX10) (T := TX10) (N := 34) hx hb hts inwX10_goThread_X10 tyX10 tyX10_ok nmX10 hown hK hP hD hS 0 rfl rfl 20 (by decide) (hts (.fieldLink RX10 206 "HedgeWaysModel" "at" "I") (List.mem_of_getElem? (i := 3) rfl)) (fun _ h9 => h9) rfl (tyX10_ok 20 (by decide)) rfl rfl (Nat.le_of_ble_eq_true rfl) dX10_goThread_165 (fun H locs hP hD hS => ?_)
              have hP : va_P D vwCl ([oX10 mo ma m_thrown m_textSize m_rows m_columns m_a m_b m_readRows m_readColumns m_at_3 m_looks m_came_2 m_draw m_turnedRows m_turnedColumns, aZ cy (ma 1) 36 m_right, aZ cy (ma 2) 36 m_down, aI cy (ma 12) 36 m_back_2, aZ cy (ma 13) 36 m_was_3]) H := hP
              have hD : va_D A ([oX10 mo ma m_thrown m_textSize m_rows m_columns m_a m_b m_readRows m_readColumns m_at_3 m_looks m_came_2 m_draw m_turnedRows m_turnedColumns, aZ cy (ma 1) 36 m_right, aZ cy (ma 2) 36 m_down, aI cy (ma 12) 36 m_back_2, aZ cy (ma 13) 36 m_was_3]) := hD
              refine lv_goto (tgt := 203) hx hb dX10_goThread_168 (by decide) ?_
              refine lv_iinc (v := (x1_2 + 1)) (lv' := [(1, .int (x1_2 + 1)), (0, .ref mo), (2, .int x2_1)]) hx hb dX10_goThread_203 hl (k := 1) rfl rfl (by decide) rfl (fun ls hl => ?_)
              refine lv_goto (tgt := 57) hx hb dX10_goThread_206 (by decide) ?_
              exact hL4 (x1_2 + 1) m_at_3 m_came_2 m_back_2 m_was_3 hf _ _ _ ⟨hP, hD, hS⟩ (lv_sub hl [1, 0] rfl)
          · intro J11 hJ11 hf
            refine lv_icmp_ne (tgt := 149) hx hb dX10_goThread_129 (by decide) (fun c12 => ?_) (fun c12 => ?_)
            · have hf := qob_f hf c12
              exact hJ11 hf _ _ _ ⟨hP, hD, hS⟩ hl
            · have hf := qob_t hf c12
              refine lv_aload_n hx hb dX10_goThread_132 rfl (lv_at hl 0 rfl) ?_
              refine va_get (D := D) (ci := 10) (v := .ref (ma 12)) (C := RX10) (T := TX10) (N := 34) hx hb hts inwX10_goThread_X10 hown hK hP 0 rfl rfl 23 (by decide) (hts (.fieldLink RX10 55 "HedgeWaysModel" "back" "[I") (List.mem_of_getElem? (i := 4) rfl)) (fun _ h9 => h9) rfl dX10_goThread_133 ?_
              refine lv_aload_n hx hb dX10_goThread_136 rfl (lv_at hl 0 rfl) ?_
              refine va_get (D := D) (ci := 10) (v := .int m_at_2) (C := RX10) (T := TX10) (N := 34) hx hb hts inwX10_goThread_X10 hown hK hP 0 rfl rfl 20 (by decide) (hts (.fieldLink RX10 206 "HedgeWaysModel" "at" "I") (List.mem_of_getElem? (i := 3) rfl)) (fun _ h9 => h9) rfl dX10_goThread_137 ?_
              obtain ⟨i13, hf⟩ := qob_gd hf
              refine va_iald hx hb hK hP 3 0 rfl rfl i13 dX10_goThread_140 ?_
              refine lv_bipush (v := (-9)) hx hb dX10_goThread_141 (by decide) ?_
              refine lv_icmp_ne (tgt := 149) hx hb dX10_goThread_143 (by decide) (fun c14 => ?_) (fun c14 => ?_)
              · have hf := qob_f hf c14
                exact hJ11 hf _ _ _ ⟨hP, hD, hS⟩ hl
              · have hf := qob_t hf c14
                refine lv_bipush (v := (-9)) hx hb dX10_goThread_146 (by decide) ?_
                have hf := qob_esc hf
                have hf := qob_esc hf
                have hf := qob_esc hf
                cases qob_ret hf
                exact ct_iret X hQ hK hP hD hS rfl dX10_goThread_148
        · intro J15 hJ15 hf
          refine qwalk2 (fun (x2_2 : Int32) (x3_1 : Int32) => ∀ (H : Heap) (locs : List Loc) (ls : Array Slot), ctW D A s ([oX10 mo ma m_thrown m_textSize m_rows m_columns m_a m_b m_readRows m_readColumns m_at_2 m_looks m_came_2 m_draw m_turnedRows m_turnedColumns, aZ cy (ma 1) 36 m_right, aZ cy (ma 2) 36 m_down, aI cy (ma 12) 36 m_back_2, aZ cy (ma 13) 36 m_was_3]) H locs → lv_has ls 4 [(0, .ref mo), (1, .int x1_2), (2, .int x2_2), (3, .int x3_1)] → W p l e rmX10_goThread s m args below meth c H locs 0 0 Q (F0 m 73 ls [])) ?_ _ (-9 : Int32) (3 : Int32) hf _ _ _ ⟨hP, hD, hS⟩ (lv_sub hl [2, 3, 1, 0] rfl)
          intro J16 hL16 x2_2 x3_1 hf H locs ls ⟨hP, hD, hS⟩ hl
          refine lv_iload_n hx hb dX10_goThread_73 rfl (lv_at hl 3 rfl) ?_
          refine lv_if_lt (tgt := 126) hx hb dX10_goThread_74 (by decide) (fun c17 => ?_) (fun c17 => ?_)
          · have hf := qob_t hf c17
            have hf := qob_esc hf
            exact hJ15 x2_2 hf _ _ _ ⟨hP, hD, hS⟩ (lv_sub hl [0, 1, 2] rfl)
          · have hf := qob_f hf c17
            refine lv_aload_n hx hb dX10_goThread_77 rfl (lv_at hl 0 rfl) ?_
            refine lv_aload_n hx hb dX10_goThread_78 rfl (lv_at hl 0 rfl) ?_
            refine va_get (D := D) (ci := 10) (v := .int m_at_2) (C := RX10) (T := TX10) (N := 34) hx hb hts inwX10_goThread_X10 hown hK hP 0 rfl rfl 20 (by decide) (hts (.fieldLink RX10 206 "HedgeWaysModel" "at" "I") (List.mem_of_getElem? (i := 3) rfl)) (fun _ h9 => h9) rfl dX10_goThread_79 ?_
            refine lv_iload_n hx hb dX10_goThread_82 rfl (lv_at hl 3 rfl) ?_
            obtain ⟨r_1, q18, hf⟩ := qcall1 hf
            refine ctV_i0 (r := r_1) (wc := [oX10 mo ma m_thrown m_textSize m_rows m_columns m_a m_b m_readRows m_readColumns m_at_2 m_looks m_came_2 m_draw m_turnedRows m_turnedColumns, aZ cy (ma 1) 36 m_right, aZ cy (ma 2) 36 m_down]) (As := [.int m_at_2, .int x3_1]) (rest := []) (q0 := 0) X hK hP hD hS [0, 1, 2] rfl rfl rfl (KX10_isOpen q18 _) (cwV 2 hts gX10_goThread_X10_isOpen rfl rfl rfl hdX10_isOpen ⟨Nat.le_of_ble_eq_true rfl, Nat.le_of_ble_eq_true rfl⟩) rfl rfl rfl hl rfl (Nat.le_of_ble_eq_true rfl) dX10_goThread_83 (Nat.zero_le _) (Nat.zero_le _) (fun H locs hP hS => ?_)
            refine lv_if_eq (tgt := 118) hx hb dX10_goThread_86 (by decide) (fun c19 => ?_) (fun c19 => ?_)
            · have hf := qob_t hf c19
              refine lv_iload_n hx hb dX10_goThread_118 rfl (lv_at hl 2 rfl) ?_
              refine lv_istore_n (lv' := [(2, .int x2_2), (0, .ref mo), (1, .int x1_2), (3, .int x3_1)]) hx hb dX10_goThread_119 rfl hl (by decide) rfl (fun ls hl => ?_)
              refine lv_iinc (v := (x3_1 + (-1))) (lv' := [(3, .int (x3_1 + (-1))), (2, .int x2_2), (0, .ref mo), (1, .int x1_2)]) hx hb dX10_goThread_120 hl (k := 3) rfl rfl (by decide) rfl (fun ls hl => ?_)
              refine lv_goto (tgt := 73) hx hb dX10_goThread_123 (by decide) ?_
              exact hL16 x2_2 (x3_1 + (-1)) hf _ _ _ ⟨hP, hD, hS⟩ (lv_sub hl [2, 3, 1, 0] rfl)
            · have hf := qob_f hf c19
              refine lv_aload_n hx hb dX10_goThread_89 rfl (lv_at hl 0 rfl) ?_
              refine va_get (D := D) (ci := 10) (v := .ref (ma 13)) (C := RX10) (T := TX10) (N := 34) hx hb hts inwX10_goThread_X10 hown hK hP 0 rfl rfl 24 (by decide) (hts (.fieldLink RX10 58 "HedgeWaysModel" "was" "[Z") (List.mem_of_getElem? (i := 1) rfl)) (fun _ h9 => h9) rfl dX10_goThread_90 ?_
              refine lv_aload_n hx hb dX10_goThread_93 rfl (lv_at hl 0 rfl) ?_
              refine lv_aload_n hx hb dX10_goThread_94 rfl (lv_at hl 0 rfl) ?_
              refine va_get (D := D) (ci := 10) (v := .int m_at_2) (C := RX10) (T := TX10) (N := 34) hx hb hts inwX10_goThread_X10 hown hK hP 0 rfl rfl 20 (by decide) (hts (.fieldLink RX10 206 "HedgeWaysModel" "at" "I") (List.mem_of_getElem? (i := 3) rfl)) (fun _ h9 => h9) rfl dX10_goThread_95 ?_
              refine lv_iload_n hx hb dX10_goThread_98 rfl (lv_at hl 3 rfl) ?_
              refine ctV_i0 (r := (fX10_beside m_rows m_columns m_at_2 x3_1)) (wc := [oX10 mo ma m_thrown m_textSize m_rows m_columns m_a m_b m_readRows m_readColumns m_at_2 m_looks m_came_2 m_draw m_turnedRows m_turnedColumns]) (As := [.int m_at_2, .int x3_1]) (rest := [.ref (ma 13)]) (q0 := 0) X hK hP hD hS [0] rfl rfl rfl (KX10_beside rfl _) (cwV 2 hts gX10_goThread_X10_beside rfl rfl rfl hdX10_beside ⟨Nat.le_of_ble_eq_true rfl, Nat.le_of_ble_eq_true rfl⟩) rfl rfl rfl hl rfl (Nat.le_of_ble_eq_true rfl) dX10_goThread_99 (Nat.zero_le _) (Nat.zero_le _) (fun H locs hP hS => ?_)
              obtain ⟨i20, hf⟩ := qob_gd hf
              refine va_zald hx hb hK hP 4 2 rfl rfl i20 dX10_goThread_102 ?_
              refine lv_if_ne (tgt := 118) hx hb dX10_goThread_103 (by decide) (fun c21 => ?_) (fun c21 => ?_)
              · have hf := qob_f hf c21
                refine lv_iload_n hx hb dX10_goThread_118 rfl (lv_at hl 2 rfl) ?_
                refine lv_istore_n (lv' := [(2, .int x2_2), (0, .ref mo), (1, .int x1_2), (3, .int x3_1)]) hx hb dX10_goThread_119 rfl hl (by decide) rfl (fun ls hl => ?_)
                refine lv_iinc (v := (x3_1 + (-1))) (lv' := [(3, .int (x3_1 + (-1))), (2, .int x2_2), (0, .ref mo), (1, .int x1_2)]) hx hb dX10_goThread_120 hl (k := 3) rfl rfl (by decide) rfl (fun ls hl => ?_)
                refine lv_goto (tgt := 73) hx hb dX10_goThread_123 (by decide) ?_
                exact hL16 x2_2 (x3_1 + (-1)) hf _ _ _ ⟨hP, hD, hS⟩ (lv_sub hl [2, 3, 1, 0] rfl)
              · have hf := qob_t hf c21
                refine lv_aload_n hx hb dX10_goThread_106 rfl (lv_at hl 0 rfl) ?_
                refine lv_aload_n hx hb dX10_goThread_107 rfl (lv_at hl 0 rfl) ?_
                refine va_get (D := D) (ci := 10) (v := .int m_at_2) (C := RX10) (T := TX10) (N := 34) hx hb hts inwX10_goThread_X10 hown hK hP 0 rfl rfl 20 (by decide) (hts (.fieldLink RX10 206 "HedgeWaysModel" "at" "I") (List.mem_of_getElem? (i := 3) rfl)) (fun _ h9 => h9) rfl dX10_goThread_108 ?_
                refine lv_iload_n hx hb dX10_goThread_111 rfl (lv_at hl 3 rfl) ?_
                refine ctV_i0 (r := (fX10_beside m_rows m_columns m_at_2 x3_1)) (wc := [oX10 mo ma m_thrown m_textSize m_rows m_columns m_a m_b m_readRows m_readColumns m_at_2 m_looks m_came_2 m_draw m_turnedRows m_turnedColumns]) (As := [.int m_at_2, .int x3_1]) (rest := []) (q0 := 0) X hK hP hD hS [0] rfl rfl rfl (KX10_beside rfl _) (cwV 2 hts gX10_goThread_X10_beside rfl rfl rfl hdX10_beside ⟨Nat.le_of_ble_eq_true rfl, Nat.le_of_ble_eq_true rfl⟩) rfl rfl rfl hl rfl (Nat.le_of_ble_eq_true rfl) dX10_goThread_112 (Nat.zero_le _) (Nat.zero_le _) (fun H locs hP hS => ?_)
                refine lv_goto (tgt := 119) hx hb dX10_goThread_115 (by decide) ?_
                refine lv_istore_n (lv' := [(2, .int (fX10_beside m_rows m_columns m_at_2 x3_1)), (0, .ref mo), (1, .int x1_2), (3, .int x3_1)]) hx hb dX10_goThread_119 rfl hl (by decide) rfl (fun ls hl => ?_)
                refine lv_iinc (v := (x3_1 + (-1))) (lv' := [(3, .int (x3_1 + (-1))), (2, .int (fX10_beside m_rows m_columns m_at_2 x3_1)), (0, .ref mo), (1, .int x1_2)]) hx hb dX10_goThread_120 hl (k := 3) rfl rfl (by decide) rfl (fun ls hl => ?_)
                refine lv_goto (tgt := 73) hx hb dX10_goThread_123 (by decide) ?_
                exact hL16 (fX10_beside m_rows m_columns m_at_2 x3_1) (x3_1 + (-1)) hf _ _ _ ⟨hP, hD, hS⟩ (lv_sub hl [2, 3, 1, 0] rfl)
  · intro J22 hJ22 hf
    refine qwalk2 (fun (x1_3 : Int32) (m_was_4 : Nat → Int32) => ∀ (H : Heap) (locs : List Loc) (ls : Array Slot), ctW D A s ([oX10 mo ma m_thrown m_textSize m_rows m_columns m_a m_b m_readRows m_readColumns m_at m_looks m_came m_draw m_turnedRows m_turnedColumns, aZ cy (ma 1) 36 m_right, aZ cy (ma 2) 36 m_down, aI cy (ma 12) 36 m_back, aZ cy (ma 13) 36 m_was_4]) H locs → lv_has ls 4 [(0, .ref mo), (1, .int x1_3)] → W p l e rmX10_goThread s m args below meth c H locs 0 0 Q (F0 m 2 ls [])) ?_ _ (0 : Int32) m_was hf _ _ _ ⟨hP, hD, hS⟩ (lv_sub hl [1, 0] rfl)
    intro J23 hL23 x1_3 m_was_4 hf H locs ls ⟨hP, hD, hS⟩ hl
    refine lv_iload_n hx hb dX10_goThread_2 rfl (lv_at hl 1 rfl) ?_
    refine lv_bipush (v := 36) hx hb dX10_goThread_3 (by decide) ?_
    refine lv_icmp_ge (tgt := 21) hx hb dX10_goThread_5 (by decide) (fun c24 => ?_) (fun c24 => ?_)
    · have hf := qob_t hf c24
      have hf := qob_esc hf
      exact hJ22 m_was_4 hf _ _ _ ⟨hP, hD, hS⟩ (lv_sub hl [0] rfl)
    · have hf := qob_f hf c24
      refine lv_aload_n hx hb dX10_goThread_8 rfl (lv_at hl 0 rfl) ?_
      refine va_get (D := D) (ci := 10) (v := .ref (ma 13)) (C := RX10) (T := TX10) (N := 34) hx hb hts inwX10_goThread_X10 hown hK hP 0 rfl rfl 24 (by decide) (hts (.fieldLink RX10 58 "HedgeWaysModel" "was" "[Z") (List.mem_of_getElem? (i := 1) rfl)) (fun _ h9 => h9) rfl dX10_goThread_9 ?_
      refine lv_iload_n hx hb dX10_goThread_12 rfl (lv_at hl 1 rfl) ?_
      refine lv_iconst (v := 0) hx hb dX10_goThread_13 (by decide) ?_
      obtain ⟨i25, hf⟩ := qob_gd hf
      refine va_zast hx hb hK hP hD hS 4 2 rfl rfl i25 dX10_goThread_14 (fun H locs hP hD hS => ?_)
      have hP : va_P D vwCl ([oX10 mo ma m_thrown m_textSize m_rows m_columns m_a m_b m_readRows m_readColumns m_at m_looks m_came m_draw m_turnedRows m_turnedColumns, aZ cy (ma 1) 36 m_right, aZ cy (ma 2) 36 m_down, aI cy (ma 12) 36 m_back, aZ cy (ma 13) 36 (upd m_was_4 x1_3.toNatClampNeg (qnb 0))]) H := hP
      have hD : va_D A ([oX10 mo ma m_thrown m_textSize m_rows m_columns m_a m_b m_readRows m_readColumns m_at m_looks m_came m_draw m_turnedRows m_turnedColumns, aZ cy (ma 1) 36 m_right, aZ cy (ma 2) 36 m_down, aI cy (ma 12) 36 m_back, aZ cy (ma 13) 36 (upd m_was_4 x1_3.toNatClampNeg (qnb 0))]) := hD
      refine lv_iinc (v := (x1_3 + 1)) (lv' := [(1, .int (x1_3 + 1)), (0, .ref mo)]) hx hb dX10_goThread_15 hl (k := 1) rfl rfl (by decide) rfl (fun ls hl => ?_)
      refine lv_goto (tgt := 2) hx hb dX10_goThread_18 (by decide) ?_
      exact hL23 (x1_3 + 1) (upd m_was_4 x1_3.toNatClampNeg (qnb 0)) hf _ _ _ ⟨hP, hD, hS⟩ (lv_sub hl [1, 0] rfl)
theorem inwX10_thread_X10 : ∀ w ∈ wsX100, w ∈ wsX10_thread := fun _ h => List.mem_cons_of_mem _ (List.mem_append_right _ h)
abbrev rmX10_thread : Room := { frames := 4, cells := 0, slots := 0, locals := 95 }
theorem hdX10_thread : yX10_thread.cls = RX10 ∧ yX10_thread.cls ≠ "java/lang/invoke/MethodHandle" ∧ yX10_thread.cls ≠ "java/lang/invoke/VarHandle" ∧ (parseMethodDescriptor yX10_thread.desc).map (fun d => d.parameters.length) = some 0 := by decide +kernel
set_option maxHeartbeats 4000000 in
set_option maxRecDepth 100000 in
theorem KX10_thread {l : Launch} {D : va_G} {cy : Nat → ClassId} {mo : Nat} {ma : Nat → Nat} {m_thrown : Int32} {m_textSize : Int32} {m_rows : Int32} {m_columns : Int32} {m_a : Int32} {m_b : Int32} {m_readRows : Int32} {m_readColumns : Int32} {m_at : Int32} {m_looks : Int32} {m_came : Int32} {m_draw : Int64} {m_turnedRows : Int32} {m_turnedColumns : Int32} {m_right : Nat → Int32} {m_down : Nat → Int32} {m_back : Nat → Int32} {m_was : Nat → Int32}  {r : Int32} {m_thrown' : Int32} {m_at' : Int32} {m_came' : Int32} {m_back' : Nat → Int32} {m_was' : Nat → Int32} (hf : fX10_thread m_thrown m_rows m_columns m_a m_b m_at m_came m_right m_down m_back m_was = some (r, m_thrown', m_at', m_came', m_back', m_was')) : CtI l yX10_thread wsX10_thread rmX10_thread D cy [.ref mo] ([oX10 mo ma m_thrown m_textSize m_rows m_columns m_a m_b m_readRows m_readColumns m_at m_looks m_came m_draw m_turnedRows m_turnedColumns, aZ cy (ma 1) 36 m_right, aZ cy (ma 2) 36 m_down, aI cy (ma 12) 36 m_back, aZ cy (ma 13) 36 m_was]) ([oX10 mo ma m_thrown' m_textSize m_rows m_columns m_a m_b m_readRows m_readColumns m_at' m_looks m_came' m_draw m_turnedRows m_turnedColumns, aZ cy (ma 1) 36 m_right, aZ cy (ma 2) 36 m_down, aI cy (ma 12) 36 m_back', aZ cy (ma 13) 36 m_was']) r := by
  refine CtI.of (cc := cX10_thread) (maxL := 1) (ret := some .int) (own := RX10) (by decide) rfl rfl (Nat.le_of_ble_eq_true rfl) ?_
  intro p e s m args below meth c A Q X hQ hK hP hD hS ls hl
  obtain ⟨hx, hb, hml, hown, hts, hr, hlocks, hA, hZ⟩ := id X
  have hl : lv_has ls 1 [(0, .ref mo)] := hl
  unfold fX10_thread at hf
  have hf := qob_top hf
  refine lv_aload_n hx hb dX10_thread_0 rfl (lv_at hl 0 rfl) ?_
  refine lv_iconst (v := 0) hx hb dX10_thread_1 (by decide) ?_
  refine va_put (D := D) (ci := 10) (v := .int 0) (ty := .int) (C := RX10) (T := TX10) (N := 34) hx hb hts inwX10_thread_X10 tyX10 tyX10_ok nmX10 hown hK hP hD hS 0 rfl rfl 0 (by decide) (hts (.fieldLink RX10 79 "HedgeWaysModel" "thrown" "I") (List.mem_of_getElem? (i := 1) rfl)) (fun _ h9 => h9) rfl (tyX10_ok 0 (by decide)) rfl rfl (Nat.le_of_ble_eq_true rfl) dX10_thread_2 (fun H locs hP hD hS => ?_)
  have hP : va_P D vwCl ([oX10 mo ma 0 m_textSize m_rows m_columns m_a m_b m_readRows m_readColumns m_at m_looks m_came m_draw m_turnedRows m_turnedColumns, aZ cy (ma 1) 36 m_right, aZ cy (ma 2) 36 m_down, aI cy (ma 12) 36 m_back, aZ cy (ma 13) 36 m_was]) H := hP
  have hD : va_D A ([oX10 mo ma 0 m_textSize m_rows m_columns m_a m_b m_readRows m_readColumns m_at m_looks m_came m_draw m_turnedRows m_turnedColumns, aZ cy (ma 1) 36 m_right, aZ cy (ma 2) 36 m_down, aI cy (ma 12) 36 m_back, aZ cy (ma 13) 36 m_was]) := hD
  refine lv_aload_n hx hb dX10_thread_5 rfl (lv_at hl 0 rfl) ?_
  obtain ⟨r_1, m_at_1, m_came_1, m_back_1, m_was_1, q1, hf⟩ := qcall5 hf
  refine ctV_i (r := r_1) (wc := [oX10 mo ma 0 m_textSize m_rows m_columns m_a m_b m_readRows m_readColumns m_at m_looks m_came m_draw m_turnedRows m_turnedColumns, aZ cy (ma 1) 36 m_right, aZ cy (ma 2) 36 m_down, aI cy (ma 12) 36 m_back, aZ cy (ma 13) 36 m_was]) (w1 := [oX10 mo ma 0 m_textSize m_rows m_columns m_a m_b m_readRows m_readColumns m_at_1 m_looks m_came_1 m_draw m_turnedRows m_turnedColumns, aZ cy (ma 1) 36 m_right, aZ cy (ma 2) 36 m_down, aI cy (ma 12) 36 m_back_1, aZ cy (ma 13) 36 m_was_1]) (wr := []) (wn := [oX10 mo ma 0 m_textSize m_rows m_columns m_a m_b m_readRows m_readColumns m_at_1 m_looks m_came_1 m_draw m_turnedRows m_turnedColumns, aZ cy (ma 1) 36 m_right, aZ cy (ma 2) 36 m_down, aI cy (ma 12) 36 m_back_1, aZ cy (ma 13) 36 m_was_1]) (As := []) (rest := []) (q0 := 0) X hK hP hD hS [0, 1, 2, 3, 4] [] [0, 1, 2, 3, 4] rfl rfl rfl rfl rfl (by decide) rfl rfl rfl (KX10_goThread q1 _) (cwV 0 hts gX10_thread_X10_goThread rfl rfl rfl hdX10_goThread ⟨Nat.le_of_ble_eq_true rfl, Nat.le_of_ble_eq_true rfl⟩) rfl rfl rfl hl rfl (Nat.le_of_ble_eq_true rfl) dX10_thread_6 (Nat.zero_le _) (Nat.zero_le _) (fun H locs hP hD hS => ?_)
  cases qob_ret hf
  exact ct_iret X hQ hK hP hD hS rfl dX10_thread_9
theorem inwX10_seen_X10 : ∀ w ∈ wsX100, w ∈ wsX10_seen := fun _ h => List.mem_cons_of_mem _ (List.mem_append_right _ h)
abbrev rmX10_seen : Room := { frames := 4, cells := 0, slots := 0, locals := 95 }
theorem hdX10_seen : yX10_seen.cls = RX10 ∧ yX10_seen.cls ≠ "java/lang/invoke/MethodHandle" ∧ yX10_seen.cls ≠ "java/lang/invoke/VarHandle" ∧ (parseMethodDescriptor yX10_seen.desc).map (fun d => d.parameters.length) = some 0 := by decide +kernel
set_option maxHeartbeats 4000000 in
set_option maxRecDepth 100000 in
theorem KX10_seen {l : Launch} {D : va_G} {cy : Nat → ClassId} {mo : Nat} {ma : Nat → Nat} {m_thrown : Int32} {m_textSize : Int32} {m_rows : Int32} {m_columns : Int32} {m_a : Int32} {m_b : Int32} {m_readRows : Int32} {m_readColumns : Int32} {m_at : Int32} {m_looks : Int32} {m_came : Int32} {m_draw : Int64} {m_turnedRows : Int32} {m_turnedColumns : Int32} {m_right : Nat → Int32} {m_down : Nat → Int32} {m_back : Nat → Int32} {m_was : Nat → Int32}  {r : Int32} {m_thrown' : Int32} {m_at' : Int32} {m_came' : Int32} {m_back' : Nat → Int32} {m_was' : Nat → Int32} (hf : fX10_seen m_thrown m_rows m_columns m_a m_b m_at m_came m_right m_down m_back m_was = some (r, m_thrown', m_at', m_came', m_back', m_was')) : CtI l yX10_seen wsX10_seen rmX10_seen D cy [.ref mo] ([oX10 mo ma m_thrown m_textSize m_rows m_columns m_a m_b m_readRows m_readColumns m_at m_looks m_came m_draw m_turnedRows m_turnedColumns, aZ cy (ma 1) 36 m_right, aZ cy (ma 2) 36 m_down, aI cy (ma 12) 36 m_back, aZ cy (ma 13) 36 m_was]) ([oX10 mo ma m_thrown' m_textSize m_rows m_columns m_a m_b m_readRows m_readColumns m_at' m_looks m_came' m_draw m_turnedRows m_turnedColumns, aZ cy (ma 1) 36 m_right, aZ cy (ma 2) 36 m_down, aI cy (ma 12) 36 m_back', aZ cy (ma 13) 36 m_was']) r := by
  refine CtI.of (cc := cX10_seen) (maxL := 1) (ret := some .int) (own := RX10) (by decide) rfl rfl (Nat.le_of_ble_eq_true rfl) ?_
  intro p e s m args below meth c A Q X hQ hK hP hD hS ls hl
  obtain ⟨hx, hb, hml, hown, hts, hr, hlocks, hA, hZ⟩ := id X
  have hl : lv_has ls 1 [(0, .ref mo)] := hl
  unfold fX10_seen at hf
  have hf := qob_top hf
  refine lv_aload_n hx hb dX10_seen_0 rfl (lv_at hl 0 rfl) ?_
  refine lv_iconst (v := 0) hx hb dX10_seen_1 (by decide) ?_
  refine va_put (D := D) (ci := 10) (v := .int 0) (ty := .int) (C := RX10) (T := TX10) (N := 34) hx hb hts inwX10_seen_X10 tyX10 tyX10_ok nmX10 hown hK hP hD hS 0 rfl rfl 0 (by decide) (hts (.fieldLink RX10 79 "HedgeWaysModel" "thrown" "I") (List.mem_of_getElem? (i := 1) rfl)) (fun _ h9 => h9) rfl (tyX10_ok 0 (by decide)) rfl rfl (Nat.le_of_ble_eq_true rfl) dX10_seen_2 (fun H locs hP hD hS => ?_)
  have hP : va_P D vwCl ([oX10 mo ma 0 m_textSize m_rows m_columns m_a m_b m_readRows m_readColumns m_at m_looks m_came m_draw m_turnedRows m_turnedColumns, aZ cy (ma 1) 36 m_right, aZ cy (ma 2) 36 m_down, aI cy (ma 12) 36 m_back, aZ cy (ma 13) 36 m_was]) H := hP
  have hD : va_D A ([oX10 mo ma 0 m_textSize m_rows m_columns m_a m_b m_readRows m_readColumns m_at m_looks m_came m_draw m_turnedRows m_turnedColumns, aZ cy (ma 1) 36 m_right, aZ cy (ma 2) 36 m_down, aI cy (ma 12) 36 m_back, aZ cy (ma 13) 36 m_was]) := hD
  refine lv_aload_n hx hb dX10_seen_5 rfl (lv_at hl 0 rfl) ?_
  obtain ⟨r_1, m_at_1, m_came_1, m_back_1, m_was_1, q1, hf⟩ := qcall5 hf
  refine ctV_i (r := r_1) (wc := [oX10 mo ma 0 m_textSize m_rows m_columns m_a m_b m_readRows m_readColumns m_at m_looks m_came m_draw m_turnedRows m_turnedColumns, aZ cy (ma 1) 36 m_right, aZ cy (ma 2) 36 m_down, aI cy (ma 12) 36 m_back, aZ cy (ma 13) 36 m_was]) (w1 := [oX10 mo ma 0 m_textSize m_rows m_columns m_a m_b m_readRows m_readColumns m_at_1 m_looks m_came_1 m_draw m_turnedRows m_turnedColumns, aZ cy (ma 1) 36 m_right, aZ cy (ma 2) 36 m_down, aI cy (ma 12) 36 m_back_1, aZ cy (ma 13) 36 m_was_1]) (wr := []) (wn := [oX10 mo ma 0 m_textSize m_rows m_columns m_a m_b m_readRows m_readColumns m_at_1 m_looks m_came_1 m_draw m_turnedRows m_turnedColumns, aZ cy (ma 1) 36 m_right, aZ cy (ma 2) 36 m_down, aI cy (ma 12) 36 m_back_1, aZ cy (ma 13) 36 m_was_1]) (As := []) (rest := []) (q0 := 0) X hK hP hD hS [0, 1, 2, 3, 4] [] [0, 1, 2, 3, 4] rfl rfl rfl rfl rfl (by decide) rfl rfl rfl (KX10_goThread q1 _) (cwV 0 hts gX10_seen_X10_goThread rfl rfl rfl hdX10_goThread ⟨Nat.le_of_ble_eq_true rfl, Nat.le_of_ble_eq_true rfl⟩) rfl rfl rfl hl rfl (Nat.le_of_ble_eq_true rfl) dX10_seen_6 (Nat.zero_le _) (Nat.zero_le _) (fun H locs hP hD hS => ?_)
  refine lv_pop hx hb dX10_seen_9 rfl ?_
  refine lv_aload_n hx hb dX10_seen_10 rfl (lv_at hl 0 rfl) ?_
  refine va_get (D := D) (ci := 10) (v := .int m_came_1) (C := RX10) (T := TX10) (N := 34) hx hb hts inwX10_seen_X10 hown hK hP 0 rfl rfl 22 (by decide) (hts (.fieldLink RX10 215 "HedgeWaysModel" "came" "I") (List.mem_of_getElem? (i := 2) rfl)) (fun _ h9 => h9) rfl dX10_seen_11 ?_
  cases qob_ret hf
  exact ct_iret X hQ hK hP hD hS rfl dX10_seen_14
theorem inwX10_layMembers_X10 : ∀ w ∈ wsX100, w ∈ wsX10_layMembers := fun _ h => List.mem_cons_of_mem _ (List.mem_append_right _ h)
abbrev rmX10_layMembers : Room := { frames := 5, cells := 0, slots := 0, locals := 121 }
theorem hdX10_layMembers : yX10_layMembers.cls = RX10 ∧ yX10_layMembers.cls ≠ "java/lang/invoke/MethodHandle" ∧ yX10_layMembers.cls ≠ "java/lang/invoke/VarHandle" ∧ (parseMethodDescriptor yX10_layMembers.desc).map (fun d => d.parameters.length) = some 2 := by decide +kernel
set_option maxHeartbeats 4000000 in
set_option maxRecDepth 100000 in
theorem KX10_layMembers {l : Launch} {D : va_G} {cy : Nat → ClassId} {mo : Nat} {ma : Nat → Nat} {m_thrown : Int32} {m_textSize : Int32} {m_rows : Int32} {m_columns : Int32} {m_a : Int32} {m_b : Int32} {m_readRows : Int32} {m_readColumns : Int32} {m_at : Int32} {m_looks : Int32} {m_came : Int32} {m_draw : Int64} {m_turnedRows : Int32} {m_turnedColumns : Int32} {m_right : Nat → Int32} {m_down : Nat → Int32} {m_dist : Nat → Int32} {m_queue : Nat → Int32} {m_shut : Nat → Int32} {m_parts : Nat → Int32} {m_member : Nat → Int32} {m_place : Nat → Int32} {p1 : Int32} {p2 : Int32} {r : Int32} {m_dist' : Nat → Int32} {m_queue' : Nat → Int32} {m_parts' : Nat → Int32} {m_member' : Nat → Int32} {m_place' : Nat → Int32} (hf : fX10_layMembers m_rows m_columns m_right m_down m_dist m_queue m_shut m_parts m_member m_place p1 p2 = some (r, m_dist', m_queue', m_parts', m_member', m_place')) : CtI l yX10_layMembers wsX10_layMembers rmX10_layMembers D cy [.ref mo, .int p1, .int p2] ([oX10 mo ma m_thrown m_textSize m_rows m_columns m_a m_b m_readRows m_readColumns m_at m_looks m_came m_draw m_turnedRows m_turnedColumns, aZ cy (ma 1) 36 m_right, aZ cy (ma 2) 36 m_down, aI cy (ma 7) 36 m_dist, aI cy (ma 8) 36 m_queue, aZ cy (ma 10) 36 m_shut, aI cy (ma 11) 36 m_parts, aI cy (ma 15) 36 m_member, aI cy (ma 16) 36 m_place]) ([oX10 mo ma m_thrown m_textSize m_rows m_columns m_a m_b m_readRows m_readColumns m_at m_looks m_came m_draw m_turnedRows m_turnedColumns, aZ cy (ma 1) 36 m_right, aZ cy (ma 2) 36 m_down, aI cy (ma 7) 36 m_dist', aI cy (ma 8) 36 m_queue', aZ cy (ma 10) 36 m_shut, aI cy (ma 11) 36 m_parts', aI cy (ma 15) 36 m_member', aI cy (ma 16) 36 m_place']) r := by
  refine CtI.of (cc := cX10_layMembers) (maxL := 6) (ret := some .int) (own := RX10) (by decide) rfl rfl (Nat.le_of_ble_eq_true rfl) ?_
  intro p e s m args below meth c A Q X hQ hK hP hD hS ls hl
  obtain ⟨hx, hb, hml, hown, hts, hr, hlocks, hA, hZ⟩ := id X
  have hl : lv_has ls 6 [(0, .ref mo), (1, .int p1), (2, .int p2)] := hl
  unfold fX10_layMembers at hf
  have hf := qob_top hf
  refine lv_aload_n hx hb dX10_layMembers_0 rfl (lv_at hl 0 rfl) ?_
  obtain ⟨r_1, m_dist_1, m_queue_1, m_parts_1, q1, hf⟩ := qcall4 hf
  refine ctV_i (r := r_1) (wc := [oX10 mo ma m_thrown m_textSize m_rows m_columns m_a m_b m_readRows m_readColumns m_at m_looks m_came m_draw m_turnedRows m_turnedColumns, aZ cy (ma 1) 36 m_right, aZ cy (ma 2) 36 m_down, aI cy (ma 7) 36 m_dist, aI cy (ma 8) 36 m_queue, aZ cy (ma 10) 36 m_shut, aI cy (ma 11) 36 m_parts]) (w1 := [oX10 mo ma m_thrown m_textSize m_rows m_columns m_a m_b m_readRows m_readColumns m_at m_looks m_came m_draw m_turnedRows m_turnedColumns, aZ cy (ma 1) 36 m_right, aZ cy (ma 2) 36 m_down, aI cy (ma 7) 36 m_dist_1, aI cy (ma 8) 36 m_queue_1, aZ cy (ma 10) 36 m_shut, aI cy (ma 11) 36 m_parts_1]) (wr := [aI cy (ma 15) 36 m_member, aI cy (ma 16) 36 m_place]) (wn := [oX10 mo ma m_thrown m_textSize m_rows m_columns m_a m_b m_readRows m_readColumns m_at m_looks m_came m_draw m_turnedRows m_turnedColumns, aZ cy (ma 1) 36 m_right, aZ cy (ma 2) 36 m_down, aI cy (ma 7) 36 m_dist_1, aI cy (ma 8) 36 m_queue_1, aZ cy (ma 10) 36 m_shut, aI cy (ma 11) 36 m_parts_1, aI cy (ma 15) 36 m_member, aI cy (ma 16) 36 m_place]) (As := []) (rest := []) (q0 := 0) X hK hP hD hS [0, 1, 2, 3, 4, 5, 6] [7, 8] [2, 3, 4, 5, 6, 7, 8, 0, 1] rfl rfl rfl rfl rfl (by decide) rfl rfl rfl (KX10_layParts q1 _) (cwV 0 hts gX10_layMembers_X10_layParts rfl rfl rfl hdX10_layParts ⟨Nat.le_of_ble_eq_true rfl, Nat.le_of_ble_eq_true rfl⟩) rfl rfl rfl hl rfl (Nat.le_of_ble_eq_true rfl) dX10_layMembers_1 (Nat.zero_le _) (Nat.zero_le _) (fun H locs hP hD hS => ?_)
  refine lv_pop hx hb dX10_layMembers_4 rfl ?_
  refine lv_aload_n hx hb dX10_layMembers_5 rfl (lv_at hl 0 rfl) ?_
  refine va_get (D := D) (ci := 10) (v := .ref (ma 11)) (C := RX10) (T := TX10) (N := 34) hx hb hts inwX10_layMembers_X10 hown hK hP 0 rfl rfl 19 (by decide) (hts (.fieldLink RX10 52 "HedgeWaysModel" "parts" "[I") (List.mem_of_getElem? (i := 1) rfl)) (fun _ h9 => h9) rfl dX10_layMembers_6 ?_
  refine lv_iload_n hx hb dX10_layMembers_9 rfl (lv_at hl 1 rfl) ?_
  obtain ⟨i2, hf⟩ := qob_gd hf
  refine va_iald hx hb hK hP 6 0 rfl rfl i2 dX10_layMembers_10 ?_
  refine lv_istore_n (lv' := [(3, .int (m_parts_1 p1.toNatClampNeg)), (0, .ref mo), (1, .int p1), (2, .int p2)]) hx hb dX10_layMembers_11 rfl hl (by decide) rfl (fun ls hl => ?_)
  refine lv_iconst (v := 0) hx hb dX10_layMembers_12 (by decide) ?_
  refine lv_istore (lv' := [(4, .int 0), (3, .int (m_parts_1 p1.toNatClampNeg)), (0, .ref mo), (1, .int p1), (2, .int p2)]) hx hb dX10_layMembers_13 hl (by decide) rfl (fun ls hl => ?_)
  refine lv_iconst (v := 0) hx hb dX10_layMembers_15 (by decide) ?_
  refine lv_istore (lv' := [(5, .int 0), (4, .int 0), (3, .int (m_parts_1 p1.toNatClampNeg)), (0, .ref mo), (1, .int p1), (2, .int p2)]) hx hb dX10_layMembers_16 hl (by decide) rfl (fun ls hl => ?_)
  refine qjoin3 hf (fun (x4_1 : Int32) (m_member_1 : Nat → Int32) (m_place_1 : Nat → Int32) => ∀ (H : Heap) (locs : List Loc) (ls : Array Slot), ctW D A s ([oX10 mo ma m_thrown m_textSize m_rows m_columns m_a m_b m_readRows m_readColumns m_at m_looks m_came m_draw m_turnedRows m_turnedColumns, aZ cy (ma 1) 36 m_right, aZ cy (ma 2) 36 m_down, aI cy (ma 7) 36 m_dist_1, aI cy (ma 8) 36 m_queue_1, aZ cy (ma 10) 36 m_shut, aI cy (ma 11) 36 m_parts_1, aI cy (ma 15) 36 m_member_1, aI cy (ma 16) 36 m_place_1]) H locs → lv_has ls 6 [(4, .int x4_1)] → W p l e rmX10_layMembers s m args below meth c H locs 0 0 Q (F0 m 78 ls [])) ?_ ?_
  · intro x4_1 m_member_1 m_place_1 hf H locs ls ⟨hP, hD, hS⟩ hl
    refine lv_iload hx hb dX10_layMembers_78 (lv_at hl 0 rfl) ?_
    cases qob_ret hf
    exact ct_iret X hQ hK hP hD hS rfl dX10_layMembers_80
  · intro J3 hJ3 hf
    refine qwalk4 (fun (x4_2 : Int32) (x5_1 : Int32) (m_member_2 : Nat → Int32) (m_place_2 : Nat → Int32) => ∀ (H : Heap) (locs : List Loc) (ls : Array Slot), ctW D A s ([oX10 mo ma m_thrown m_textSize m_rows m_columns m_a m_b m_readRows m_readColumns m_at m_looks m_came m_draw m_turnedRows m_turnedColumns, aZ cy (ma 1) 36 m_right, aZ cy (ma 2) 36 m_down, aI cy (ma 7) 36 m_dist_1, aI cy (ma 8) 36 m_queue_1, aZ cy (ma 10) 36 m_shut, aI cy (ma 11) 36 m_parts_1, aI cy (ma 15) 36 m_member_2, aI cy (ma 16) 36 m_place_2]) H locs → lv_has ls 6 [(0, .ref mo), (2, .int p2), (3, .int (m_parts_1 p1.toNatClampNeg)), (4, .int x4_2), (5, .int x5_1)] → W p l e rmX10_layMembers s m args below meth c H locs 0 0 Q (F0 m 18 ls [])) ?_ _ (0 : Int32) (0 : Int32) m_member m_place hf _ _ _ ⟨hP, hD, hS⟩ (lv_sub hl [3, 5, 2, 1, 0] rfl)
    intro J4 hL4 x4_2 x5_1 m_member_2 m_place_2 hf H locs ls ⟨hP, hD, hS⟩ hl
    refine lv_iload hx hb dX10_layMembers_18 (lv_at hl 4 rfl) ?_
    refine lv_bipush (v := 36) hx hb dX10_layMembers_20 (by decide) ?_
    refine lv_icmp_ge (tgt := 78) hx hb dX10_layMembers_22 (by decide) (fun c5 => ?_) (fun c5 => ?_)
    · have hf := qob_t hf c5
      have hf := qob_esc hf
      exact hJ3 x4_2 m_member_2 m_place_2 hf _ _ _ ⟨hP, hD, hS⟩ (lv_sub hl [3] rfl)
    · have hf := qob_f hf c5
      refine lv_aload_n hx hb dX10_layMembers_25 rfl (lv_at hl 0 rfl) ?_
      refine va_get (D := D) (ci := 10) (v := .ref (ma 16)) (C := RX10) (T := TX10) (N := 34) hx hb hts inwX10_layMembers_X10 hown hK hP 0 rfl rfl 27 (by decide) (hts (.fieldLink RX10 67 "HedgeWaysModel" "place" "[I") (List.mem_of_getElem? (i := 2) rfl)) (fun _ h9 => h9) rfl dX10_layMembers_26 ?_
      refine lv_iload hx hb dX10_layMembers_29 (lv_at hl 4 rfl) ?_
      refine lv_bipush (v := (-9)) hx hb dX10_layMembers_31 (by decide) ?_
      obtain ⟨i6, hf⟩ := qob_gd hf
      refine va_iast hx hb hK hP hD hS 8 0 rfl rfl i6 dX10_layMembers_33 (fun H locs hP hD hS => ?_)
      have hP : va_P D vwCl ([oX10 mo ma m_thrown m_textSize m_rows m_columns m_a m_b m_readRows m_readColumns m_at m_looks m_came m_draw m_turnedRows m_turnedColumns, aZ cy (ma 1) 36 m_right, aZ cy (ma 2) 36 m_down, aI cy (ma 7) 36 m_dist_1, aI cy (ma 8) 36 m_queue_1, aZ cy (ma 10) 36 m_shut, aI cy (ma 11) 36 m_parts_1, aI cy (ma 15) 36 m_member_2, aI cy (ma 16) 36 (upd m_place_2 x5_1.toNatClampNeg (-9))]) H := hP
      have hD : va_D A ([oX10 mo ma m_thrown m_textSize m_rows m_columns m_a m_b m_readRows m_readColumns m_at m_looks m_came m_draw m_turnedRows m_turnedColumns, aZ cy (ma 1) 36 m_right, aZ cy (ma 2) 36 m_down, aI cy (ma 7) 36 m_dist_1, aI cy (ma 8) 36 m_queue_1, aZ cy (ma 10) 36 m_shut, aI cy (ma 11) 36 m_parts_1, aI cy (ma 15) 36 m_member_2, aI cy (ma 16) 36 (upd m_place_2 x5_1.toNatClampNeg (-9))]) := hD
      refine lv_aload_n hx hb dX10_layMembers_34 rfl (lv_at hl 0 rfl) ?_
      refine va_get (D := D) (ci := 10) (v := .ref (ma 11)) (C := RX10) (T := TX10) (N := 34) hx hb hts inwX10_layMembers_X10 hown hK hP 0 rfl rfl 19 (by decide) (hts (.fieldLink RX10 52 "HedgeWaysModel" "parts" "[I") (List.mem_of_getElem? (i := 1) rfl)) (fun _ h9 => h9) rfl dX10_layMembers_35 ?_
      refine lv_iload hx hb dX10_layMembers_38 (lv_at hl 4 rfl) ?_
      obtain ⟨i7, hf⟩ := qob_gd hf
      refine va_iald hx hb hK hP 6 0 rfl rfl i7 dX10_layMembers_40 ?_
      refine lv_iload_n hx hb dX10_layMembers_41 rfl (lv_at hl 2 rfl) ?_
      refine lv_icmp_ne (tgt := 72) hx hb dX10_layMembers_42 (by decide) (fun c8 => ?_) (fun c8 => ?_)
      · have hf := qob_f hf c8
        refine lv_iinc (v := (x5_1 + 1)) (lv' := [(5, .int (x5_1 + 1)), (0, .ref mo), (2, .int p2), (3, .int (m_parts_1 p1.toNatClampNeg)), (4, .int x4_2)]) hx hb dX10_layMembers_72 hl (k := 4) rfl rfl (by decide) rfl (fun ls hl => ?_)
        refine lv_goto (tgt := 18) hx hb dX10_layMembers_75 (by decide) ?_
        exact hL4 x4_2 (x5_1 + 1) m_member_2 (upd m_place_2 x5_1.toNatClampNeg (-9)) hf _ _ _ ⟨hP, hD, hS⟩ (lv_sub hl [1, 2, 3, 4, 0] rfl)
      · have hf := qob_t hf c8
        refine lv_iload hx hb dX10_layMembers_45 (lv_at hl 4 rfl) ?_
        refine lv_iload_n hx hb dX10_layMembers_47 rfl (lv_at hl 1 rfl) ?_
        refine lv_icmp_eq (tgt := 72) hx hb dX10_layMembers_48 (by decide) (fun c9 => ?_) (fun c9 => ?_)
        · have hf := qob_t hf c9
          refine lv_iinc (v := (x5_1 + 1)) (lv' := [(5, .int (x5_1 + 1)), (0, .ref mo), (2, .int p2), (3, .int (m_parts_1 p1.toNatClampNeg)), (4, .int x4_2)]) hx hb dX10_layMembers_72 hl (k := 4) rfl rfl (by decide) rfl (fun ls hl => ?_)
          refine lv_goto (tgt := 18) hx hb dX10_layMembers_75 (by decide) ?_
          exact hL4 x4_2 (x5_1 + 1) m_member_2 (upd m_place_2 x5_1.toNatClampNeg (-9)) hf _ _ _ ⟨hP, hD, hS⟩ (lv_sub hl [1, 2, 3, 4, 0] rfl)
        · have hf := qob_f hf c9
          refine lv_aload_n hx hb dX10_layMembers_51 rfl (lv_at hl 0 rfl) ?_
          refine va_get (D := D) (ci := 10) (v := .ref (ma 15)) (C := RX10) (T := TX10) (N := 34) hx hb hts inwX10_layMembers_X10 hown hK hP 0 rfl rfl 26 (by decide) (hts (.fieldLink RX10 64 "HedgeWaysModel" "member" "[I") (List.mem_of_getElem? (i := 3) rfl)) (fun _ h9 => h9) rfl dX10_layMembers_52 ?_
          refine lv_iload hx hb dX10_layMembers_55 (lv_at hl 3 rfl) ?_
          refine lv_iload hx hb dX10_layMembers_57 (lv_at hl 4 rfl) ?_
          obtain ⟨i10, hf⟩ := qob_gd hf
          refine va_iast hx hb hK hP hD hS 7 0 rfl rfl i10 dX10_layMembers_59 (fun H locs hP hD hS => ?_)
          have hP : va_P D vwCl ([oX10 mo ma m_thrown m_textSize m_rows m_columns m_a m_b m_readRows m_readColumns m_at m_looks m_came m_draw m_turnedRows m_turnedColumns, aZ cy (ma 1) 36 m_right, aZ cy (ma 2) 36 m_down, aI cy (ma 7) 36 m_dist_1, aI cy (ma 8) 36 m_queue_1, aZ cy (ma 10) 36 m_shut, aI cy (ma 11) 36 m_parts_1, aI cy (ma 15) 36 (upd m_member_2 x4_2.toNatClampNeg x5_1), aI cy (ma 16) 36 (upd m_place_2 x5_1.toNatClampNeg (-9))]) H := hP
          have hD : va_D A ([oX10 mo ma m_thrown m_textSize m_rows m_columns m_a m_b m_readRows m_readColumns m_at m_looks m_came m_draw m_turnedRows m_turnedColumns, aZ cy (ma 1) 36 m_right, aZ cy (ma 2) 36 m_down, aI cy (ma 7) 36 m_dist_1, aI cy (ma 8) 36 m_queue_1, aZ cy (ma 10) 36 m_shut, aI cy (ma 11) 36 m_parts_1, aI cy (ma 15) 36 (upd m_member_2 x4_2.toNatClampNeg x5_1), aI cy (ma 16) 36 (upd m_place_2 x5_1.toNatClampNeg (-9))]) := hD
          refine lv_aload_n hx hb dX10_layMembers_60 rfl (lv_at hl 0 rfl) ?_
          refine va_get (D := D) (ci := 10) (v := .ref (ma 16)) (C := RX10) (T := TX10) (N := 34) hx hb hts inwX10_layMembers_X10 hown hK hP 0 rfl rfl 27 (by decide) (hts (.fieldLink RX10 67 "HedgeWaysModel" "place" "[I") (List.mem_of_getElem? (i := 2) rfl)) (fun _ h9 => h9) rfl dX10_layMembers_61 ?_
          refine lv_iload hx hb dX10_layMembers_64 (lv_at hl 4 rfl) ?_
          refine lv_iload hx hb dX10_layMembers_66 (lv_at hl 3 rfl) ?_
          obtain ⟨i11, hf⟩ := qob_gd hf
          obtain ⟨m_place_3, e12⟩ : ∃ z, z = (upd (upd m_place_2 x5_1.toNatClampNeg (-9)) x5_1.toNatClampNeg x4_2) := ⟨_, rfl⟩
          have hf := qob_bd hf e12
          refine va_iast hx hb hK hP hD hS 8 0 rfl rfl i11 dX10_layMembers_68 (fun H locs hP hD hS => ?_)
          have hP : va_P D vwCl ([oX10 mo ma m_thrown m_textSize m_rows m_columns m_a m_b m_readRows m_readColumns m_at m_looks m_came m_draw m_turnedRows m_turnedColumns, aZ cy (ma 1) 36 m_right, aZ cy (ma 2) 36 m_down, aI cy (ma 7) 36 m_dist_1, aI cy (ma 8) 36 m_queue_1, aZ cy (ma 10) 36 m_shut, aI cy (ma 11) 36 m_parts_1, aI cy (ma 15) 36 (upd m_member_2 x4_2.toNatClampNeg x5_1), aI cy (ma 16) 36 m_place_3]) H := by rw [e12]; exact hP
          have hD : va_D A ([oX10 mo ma m_thrown m_textSize m_rows m_columns m_a m_b m_readRows m_readColumns m_at m_looks m_came m_draw m_turnedRows m_turnedColumns, aZ cy (ma 1) 36 m_right, aZ cy (ma 2) 36 m_down, aI cy (ma 7) 36 m_dist_1, aI cy (ma 8) 36 m_queue_1, aZ cy (ma 10) 36 m_shut, aI cy (ma 11) 36 m_parts_1, aI cy (ma 15) 36 (upd m_member_2 x4_2.toNatClampNeg x5_1), aI cy (ma 16) 36 m_place_3]) := by rw [e12]; exact hD
          refine lv_iinc (v := (x4_2 + 1)) (lv' := [(4, .int (x4_2 + 1)), (0, .ref mo), (2, .int p2), (3, .int (m_parts_1 p1.toNatClampNeg)), (5, .int x5_1)]) hx hb dX10_layMembers_69 hl (k := 3) rfl rfl (by decide) rfl (fun ls hl => ?_)
          refine lv_iinc (v := (x5_1 + 1)) (lv' := [(5, .int (x5_1 + 1)), (4, .int (x4_2 + 1)), (0, .ref mo), (2, .int p2), (3, .int (m_parts_1 p1.toNatClampNeg))]) hx hb dX10_layMembers_72 hl (k := 4) rfl rfl (by decide) rfl (fun ls hl => ?_)
          refine lv_goto (tgt := 18) hx hb dX10_layMembers_75 (by decide) ?_
          exact hL4 (x4_2 + 1) (x5_1 + 1) (upd m_member_2 x4_2.toNatClampNeg x5_1) m_place_3 hf _ _ _ ⟨hP, hD, hS⟩ (lv_sub hl [2, 3, 4, 1, 0] rfl)
theorem inwX10_layMatrix_X10 : ∀ w ∈ wsX100, w ∈ wsX10_layMatrix := fun _ h => List.mem_cons_of_mem _ (List.mem_append_right _ h)
abbrev rmX10_layMatrix : Room := { frames := 4, cells := 0, slots := 0, locals := 95 }
theorem hdX10_layMatrix : yX10_layMatrix.cls = RX10 ∧ yX10_layMatrix.cls ≠ "java/lang/invoke/MethodHandle" ∧ yX10_layMatrix.cls ≠ "java/lang/invoke/VarHandle" ∧ (parseMethodDescriptor yX10_layMatrix.desc).map (fun d => d.parameters.length) = some 1 := by decide +kernel
set_option maxHeartbeats 4000000 in
set_option maxRecDepth 100000 in
theorem KX10_layMatrix {l : Launch} {D : va_G} {cy : Nat → ClassId} {mo : Nat} {ma : Nat → Nat} {m_thrown : Int32} {m_textSize : Int32} {m_rows : Int32} {m_columns : Int32} {m_a : Int32} {m_b : Int32} {m_readRows : Int32} {m_readColumns : Int32} {m_at : Int32} {m_looks : Int32} {m_came : Int32} {m_draw : Int64} {m_turnedRows : Int32} {m_turnedColumns : Int32} {m_right : Nat → Int32} {m_down : Nat → Int32} {m_matrix : Nat → Int64} {m_member : Nat → Int32} {m_place : Nat → Int32} {p1 : Int32} {m_matrix' : Nat → Int64} (hf : fX10_layMatrix m_rows m_columns m_right m_down m_matrix m_member m_place p1 = some m_matrix') : CtV l yX10_layMatrix wsX10_layMatrix rmX10_layMatrix D cy [.ref mo, .int p1] ([oX10 mo ma m_thrown m_textSize m_rows m_columns m_a m_b m_readRows m_readColumns m_at m_looks m_came m_draw m_turnedRows m_turnedColumns, aZ cy (ma 1) 36 m_right, aZ cy (ma 2) 36 m_down, aJ cy (ma 14) 256 m_matrix, aI cy (ma 15) 36 m_member, aI cy (ma 16) 36 m_place]) ([oX10 mo ma m_thrown m_textSize m_rows m_columns m_a m_b m_readRows m_readColumns m_at m_looks m_came m_draw m_turnedRows m_turnedColumns, aZ cy (ma 1) 36 m_right, aZ cy (ma 2) 36 m_down, aJ cy (ma 14) 256 m_matrix', aI cy (ma 15) 36 m_member, aI cy (ma 16) 36 m_place]) := by
  refine CtV.of (cc := cX10_layMatrix) (maxL := 6) (ret := none) (own := RX10) (by decide) rfl rfl (Nat.le_of_ble_eq_true rfl) ?_
  intro p e s m args below meth c A Q X hQ hK hP hD hS ls hl
  obtain ⟨hx, hb, hml, hown, hts, hr, hlocks, hA, hZ⟩ := id X
  have hl : lv_has ls 6 [(0, .ref mo), (1, .int p1)] := hl
  unfold fX10_layMatrix at hf
  have hf := qob_top hf
  refine lv_iconst (v := 0) hx hb dX10_layMatrix_0 (by decide) ?_
  refine lv_istore_n (lv' := [(2, .int 0), (0, .ref mo), (1, .int p1)]) hx hb dX10_layMatrix_1 rfl hl (by decide) rfl (fun ls hl => ?_)
  refine qjoin1 hf (fun (m_matrix_1 : Nat → Int64) => ∀ (H : Heap) (locs : List Loc) (ls : Array Slot), ctW D A s ([oX10 mo ma m_thrown m_textSize m_rows m_columns m_a m_b m_readRows m_readColumns m_at m_looks m_came m_draw m_turnedRows m_turnedColumns, aZ cy (ma 1) 36 m_right, aZ cy (ma 2) 36 m_down, aJ cy (ma 14) 256 m_matrix_1, aI cy (ma 15) 36 m_member, aI cy (ma 16) 36 m_place]) H locs → lv_has ls 6 [(0, .ref mo), (1, .int p1)] → W p l e rmX10_layMatrix s m args below meth c H locs 0 0 Q (F0 m 22 ls [])) ?_ ?_
  · intro m_matrix_1 hf H locs ls ⟨hP, hD, hS⟩ hl
    refine lv_iconst (v := 0) hx hb dX10_layMatrix_22 (by decide) ?_
    refine lv_istore_n (lv' := [(2, .int 0), (0, .ref mo), (1, .int p1)]) hx hb dX10_layMatrix_23 rfl hl (by decide) rfl (fun ls hl => ?_)
    refine qjoin1 hf (fun (m_matrix_2 : Nat → Int64) => ∀ (H : Heap) (locs : List Loc) (ls : Array Slot), ctW D A s ([oX10 mo ma m_thrown m_textSize m_rows m_columns m_a m_b m_readRows m_readColumns m_at m_looks m_came m_draw m_turnedRows m_turnedColumns, aZ cy (ma 1) 36 m_right, aZ cy (ma 2) 36 m_down, aJ cy (ma 14) 256 m_matrix_2, aI cy (ma 15) 36 m_member, aI cy (ma 16) 36 m_place]) H locs → lv_has ls 6 [] → W p l e rmX10_layMatrix s m args below meth c H locs 0 0 Q (F0 m 143 ls [])) ?_ ?_
    · intro m_matrix_2 hf H locs ls ⟨hP, hD, hS⟩ hl
      cases qob_ret hf
      exact ct_vret X hQ hK hP hD hS dX10_layMatrix_143
    · intro J1 hJ1 hf
      refine qwalk2 (fun (x2_1 : Int32) (m_matrix_3 : Nat → Int64) => ∀ (H : Heap) (locs : List Loc) (ls : Array Slot), ctW D A s ([oX10 mo ma m_thrown m_textSize m_rows m_columns m_a m_b m_readRows m_readColumns m_at m_looks m_came m_draw m_turnedRows m_turnedColumns, aZ cy (ma 1) 36 m_right, aZ cy (ma 2) 36 m_down, aJ cy (ma 14) 256 m_matrix_3, aI cy (ma 15) 36 m_member, aI cy (ma 16) 36 m_place]) H locs → lv_has ls 6 [(0, .ref mo), (1, .int p1), (2, .int x2_1)] → W p l e rmX10_layMatrix s m args below meth c H locs 0 0 Q (F0 m 24 ls [])) ?_ _ (0 : Int32) m_matrix_1 hf _ _ _ ⟨hP, hD, hS⟩ (lv_sub hl [1, 2, 0] rfl)
      intro J2 hL2 x2_1 m_matrix_3 hf H locs ls ⟨hP, hD, hS⟩ hl
      refine lv_iload_n hx hb dX10_layMatrix_24 rfl (lv_at hl 2 rfl) ?_
      refine lv_iload_n hx hb dX10_layMatrix_25 rfl (lv_at hl 1 rfl) ?_
      refine lv_icmp_ge (tgt := 143) hx hb dX10_layMatrix_26 (by decide) (fun c3 => ?_) (fun c3 => ?_)
      · have hf := qob_t hf c3
        have hf := qob_esc hf
        exact hJ1 m_matrix_3 hf _ _ _ ⟨hP, hD, hS⟩ (lv_sub hl [] rfl)
      · have hf := qob_f hf c3
        refine lv_aload_n hx hb dX10_layMatrix_29 rfl (lv_at hl 0 rfl) ?_
        refine va_get (D := D) (ci := 10) (v := .ref (ma 15)) (C := RX10) (T := TX10) (N := 34) hx hb hts inwX10_layMatrix_X10 hown hK hP 0 rfl rfl 26 (by decide) (hts (.fieldLink RX10 64 "HedgeWaysModel" "member" "[I") (List.mem_of_getElem? (i := 2) rfl)) (fun _ h9 => h9) rfl dX10_layMatrix_30 ?_
        refine lv_iload_n hx hb dX10_layMatrix_33 rfl (lv_at hl 2 rfl) ?_
        obtain ⟨i4, hf⟩ := qob_gd hf
        refine va_iald hx hb hK hP 4 0 rfl rfl i4 dX10_layMatrix_34 ?_
        refine lv_istore_n (lv' := [(3, .int (m_member x2_1.toNatClampNeg)), (0, .ref mo), (1, .int p1), (2, .int x2_1)]) hx hb dX10_layMatrix_35 rfl hl (by decide) rfl (fun ls hl => ?_)
        refine lv_aload_n hx hb dX10_layMatrix_36 rfl (lv_at hl 1 rfl) ?_
        refine va_get (D := D) (ci := 10) (v := .ref (ma 14)) (C := RX10) (T := TX10) (N := 34) hx hb hts inwX10_layMatrix_X10 hown hK hP 0 rfl rfl 25 (by decide) (hts (.fieldLink RX10 61 "HedgeWaysModel" "matrix" "[J") (List.mem_of_getElem? (i := 1) rfl)) (fun _ h9 => h9) rfl dX10_layMatrix_37 ?_
        refine lv_bipush (v := 16) hx hb dX10_layMatrix_40 (by decide) ?_
        refine lv_iload_n hx hb dX10_layMatrix_42 rfl (lv_at hl 3 rfl) ?_
        refine lv_imul hx hb dX10_layMatrix_43 ?_
        refine lv_iload_n hx hb dX10_layMatrix_44 rfl (lv_at hl 3 rfl) ?_
        refine lv_iadd hx hb dX10_layMatrix_45 ?_
        refine lv_aload_n hx hb dX10_layMatrix_46 rfl (lv_at hl 1 rfl) ?_
        refine lv_iload_n hx hb dX10_layMatrix_47 rfl (lv_at hl 0 rfl) ?_
        obtain ⟨r_1, q5, hf⟩ := qcall1 hf
        refine ctV_i0 (r := r_1) (wc := [oX10 mo ma m_thrown m_textSize m_rows m_columns m_a m_b m_readRows m_readColumns m_at m_looks m_came m_draw m_turnedRows m_turnedColumns, aZ cy (ma 1) 36 m_right, aZ cy (ma 2) 36 m_down]) (As := [.int (m_member x2_1.toNatClampNeg)]) (rest := [.int ((16 * x2_1) + x2_1), .ref (ma 14)]) (q0 := 0) X hK hP hD hS [0, 1, 2] rfl rfl rfl (KX10_neighbours q5 _) (cwV 1 hts gX10_layMatrix_X10_neighbours rfl rfl rfl hdX10_neighbours ⟨Nat.le_of_ble_eq_true rfl, Nat.le_of_ble_eq_true rfl⟩) rfl rfl rfl hl rfl (Nat.le_of_ble_eq_true rfl) dX10_layMatrix_48 (Nat.zero_le _) (Nat.zero_le _) (fun H locs hP hS => ?_)
        refine lv_i2l (v := r_1.toInt64) hx hb dX10_layMatrix_51 rfl ?_
        obtain ⟨i6, hf⟩ := qob_gd hf
        obtain ⟨m_matrix_4, e7⟩ : ∃ z, z = (vp_updL m_matrix_3 (((16 * x2_1) + x2_1)).toNatClampNeg r_1.toInt64) := ⟨_, rfl⟩
        have hf := qob_bd hf e7
        refine va_last hx hb hK hP hD hS 3 1 rfl rfl i6 dX10_layMatrix_52 (fun H locs hP hD hS => ?_)
        have hP : va_P D vwCl ([oX10 mo ma m_thrown m_textSize m_rows m_columns m_a m_b m_readRows m_readColumns m_at m_looks m_came m_draw m_turnedRows m_turnedColumns, aZ cy (ma 1) 36 m_right, aZ cy (ma 2) 36 m_down, aJ cy (ma 14) 256 m_matrix_4, aI cy (ma 15) 36 m_member, aI cy (ma 16) 36 m_place]) H := by rw [e7]; exact hP
        have hD : va_D A ([oX10 mo ma m_thrown m_textSize m_rows m_columns m_a m_b m_readRows m_readColumns m_at m_looks m_came m_draw m_turnedRows m_turnedColumns, aZ cy (ma 1) 36 m_right, aZ cy (ma 2) 36 m_down, aJ cy (ma 14) 256 m_matrix_4, aI cy (ma 15) 36 m_member, aI cy (ma 16) 36 m_place]) := by rw [e7]; exact hD
        refine lv_aload_n hx hb dX10_layMatrix_53 rfl (lv_at hl 1 rfl) ?_
        refine va_get (D := D) (ci := 10) (v := .ref (ma 14)) (C := RX10) (T := TX10) (N := 34) hx hb hts inwX10_layMatrix_X10 hown hK hP 0 rfl rfl 25 (by decide) (hts (.fieldLink RX10 61 "HedgeWaysModel" "matrix" "[J") (List.mem_of_getElem? (i := 1) rfl)) (fun _ h9 => h9) rfl dX10_layMatrix_54 ?_
        refine lv_bipush (v := 16) hx hb dX10_layMatrix_57 (by decide) ?_
        refine lv_iload_n hx hb dX10_layMatrix_59 rfl (lv_at hl 3 rfl) ?_
        refine lv_imul hx hb dX10_layMatrix_60 ?_
        refine lv_iload_n hx hb dX10_layMatrix_61 rfl (lv_at hl 2 rfl) ?_
        refine lv_iadd hx hb dX10_layMatrix_62 ?_
        refine lv_aload_n hx hb dX10_layMatrix_63 rfl (lv_at hl 1 rfl) ?_
        refine lv_iload_n hx hb dX10_layMatrix_64 rfl (lv_at hl 0 rfl) ?_
        obtain ⟨r_2, q8, hf⟩ := qcall1 hf
        refine ctV_i0 (r := r_2) (wc := [oX10 mo ma m_thrown m_textSize m_rows m_columns m_a m_b m_readRows m_readColumns m_at m_looks m_came m_draw m_turnedRows m_turnedColumns, aZ cy (ma 1) 36 m_right, aZ cy (ma 2) 36 m_down]) (As := [.int (m_member x2_1.toNatClampNeg)]) (rest := [.int ((16 * x2_1) + p1), .ref (ma 14)]) (q0 := 0) X hK hP hD hS [0, 1, 2] rfl rfl rfl (KX10_neighbours q8 _) (cwV 1 hts gX10_layMatrix_X10_neighbours rfl rfl rfl hdX10_neighbours ⟨Nat.le_of_ble_eq_true rfl, Nat.le_of_ble_eq_true rfl⟩) rfl rfl rfl hl rfl (Nat.le_of_ble_eq_true rfl) dX10_layMatrix_65 (Nat.zero_le _) (Nat.zero_le _) (fun H locs hP hS => ?_)
        refine lv_i2l (v := r_2.toInt64) hx hb dX10_layMatrix_68 rfl ?_
        obtain ⟨i9, hf⟩ := qob_gd hf
        obtain ⟨m_matrix_5, e10⟩ : ∃ z, z = (vp_updL m_matrix_4 (((16 * x2_1) + p1)).toNatClampNeg r_2.toInt64) := ⟨_, rfl⟩
        have hf := qob_bd hf e10
        refine va_last hx hb hK hP hD hS 3 1 rfl rfl i9 dX10_layMatrix_69 (fun H locs hP hD hS => ?_)
        have hP : va_P D vwCl ([oX10 mo ma m_thrown m_textSize m_rows m_columns m_a m_b m_readRows m_readColumns m_at m_looks m_came m_draw m_turnedRows m_turnedColumns, aZ cy (ma 1) 36 m_right, aZ cy (ma 2) 36 m_down, aJ cy (ma 14) 256 m_matrix_5, aI cy (ma 15) 36 m_member, aI cy (ma 16) 36 m_place]) H := by rw [e10]; exact hP
        have hD : va_D A ([oX10 mo ma m_thrown m_textSize m_rows m_columns m_a m_b m_readRows m_readColumns m_at m_looks m_came m_draw m_turnedRows m_turnedColumns, aZ cy (ma 1) 36 m_right, aZ cy (ma 2) 36 m_down, aJ cy (ma 14) 256 m_matrix_5, aI cy (ma 15) 36 m_member, aI cy (ma 16) 36 m_place]) := by rw [e10]; exact hD
        refine lv_iconst (v := 0) hx hb dX10_layMatrix_70 (by decide) ?_
        refine lv_istore (lv' := [(4, .int 0), (3, .int (m_member x2_1.toNatClampNeg)), (0, .ref mo), (1, .int p1), (2, .int x2_1)]) hx hb dX10_layMatrix_71 hl (by decide) rfl (fun ls hl => ?_)
        refine qjoin1 hf (fun (m_matrix_6 : Nat → Int64) => ∀ (H : Heap) (locs : List Loc) (ls : Array Slot), ctW D A s ([oX10 mo ma m_thrown m_textSize m_rows m_columns m_a m_b m_readRows m_readColumns m_at m_looks m_came m_draw m_turnedRows m_turnedColumns, aZ cy (ma 1) 36 m_right, aZ cy (ma 2) 36 m_down, aJ cy (ma 14) 256 m_matrix_6, aI cy (ma 15) 36 m_member, aI cy (ma 16) 36 m_place]) H locs → lv_has ls 6 [(0, .ref mo), (1, .int p1), (2, .int x2_1)] → W p l e rmX10_layMatrix s m args below meth c H locs 0 0 Q (F0 m 137 ls [])) ?_ ?_
        · intro m_matrix_6 hf H locs ls ⟨hP, hD, hS⟩ hl
          refine lv_iinc (v := (x2_1 + 1)) (lv' := [(2, .int (x2_1 + 1)), (0, .ref mo), (1, .int p1)]) hx hb dX10_layMatrix_137 hl (k := 2) rfl rfl (by decide) rfl (fun ls hl => ?_)
          refine lv_goto (tgt := 24) hx hb dX10_layMatrix_140 (by decide) ?_
          exact hL2 (x2_1 + 1) m_matrix_6 hf _ _ _ ⟨hP, hD, hS⟩ (lv_sub hl [1, 2, 0] rfl)
        · intro J11 hJ11 hf
          refine qwalk2 (fun (x4_1 : Int32) (m_matrix_7 : Nat → Int64) => ∀ (H : Heap) (locs : List Loc) (ls : Array Slot), ctW D A s ([oX10 mo ma m_thrown m_textSize m_rows m_columns m_a m_b m_readRows m_readColumns m_at m_looks m_came m_draw m_turnedRows m_turnedColumns, aZ cy (ma 1) 36 m_right, aZ cy (ma 2) 36 m_down, aJ cy (ma 14) 256 m_matrix_7, aI cy (ma 15) 36 m_member, aI cy (ma 16) 36 m_place]) H locs → lv_has ls 6 [(0, .ref mo), (1, .int p1), (2, .int x2_1), (3, .int (m_member x2_1.toNatClampNeg)), (4, .int x4_1)] → W p l e rmX10_layMatrix s m args below meth c H locs 0 0 Q (F0 m 73 ls [])) ?_ _ (0 : Int32) m_matrix_5 hf _ _ _ ⟨hP, hD, hS⟩ (lv_sub hl [2, 3, 4, 1, 0] rfl)
          intro J12 hL12 x4_1 m_matrix_7 hf H locs ls ⟨hP, hD, hS⟩ hl
          refine lv_iload hx hb dX10_layMatrix_73 (lv_at hl 4 rfl) ?_
          refine lv_iconst (v := 4) hx hb dX10_layMatrix_75 (by decide) ?_
          refine lv_icmp_ge (tgt := 137) hx hb dX10_layMatrix_76 (by decide) (fun c13 => ?_) (fun c13 => ?_)
          · have hf := qob_t hf c13
            have hf := qob_esc hf
            exact hJ11 m_matrix_7 hf _ _ _ ⟨hP, hD, hS⟩ (lv_sub hl [0, 1, 2] rfl)
          · have hf := qob_f hf c13
            refine lv_aload_n hx hb dX10_layMatrix_79 rfl (lv_at hl 0 rfl) ?_
            refine lv_iload_n hx hb dX10_layMatrix_80 rfl (lv_at hl 3 rfl) ?_
            refine lv_iload hx hb dX10_layMatrix_81 (lv_at hl 4 rfl) ?_
            obtain ⟨r_3, q14, hf⟩ := qcall1 hf
            refine ctV_i0 (r := r_3) (wc := [oX10 mo ma m_thrown m_textSize m_rows m_columns m_a m_b m_readRows m_readColumns m_at m_looks m_came m_draw m_turnedRows m_turnedColumns, aZ cy (ma 1) 36 m_right, aZ cy (ma 2) 36 m_down]) (As := [.int (m_member x2_1.toNatClampNeg), .int x4_1]) (rest := []) (q0 := 0) X hK hP hD hS [0, 1, 2] rfl rfl rfl (KX10_isOpen q14 _) (cwV 2 hts gX10_layMatrix_X10_isOpen rfl rfl rfl hdX10_isOpen ⟨Nat.le_of_ble_eq_true rfl, Nat.le_of_ble_eq_true rfl⟩) rfl rfl rfl hl rfl (Nat.le_of_ble_eq_true rfl) dX10_layMatrix_83 (Nat.zero_le _) (Nat.zero_le _) (fun H locs hP hS => ?_)
            refine qjoin1 hf (fun (s_1 : Int32) => ∀ (H : Heap) (locs : List Loc) (ls : Array Slot), ctW D A s ([oX10 mo ma m_thrown m_textSize m_rows m_columns m_a m_b m_readRows m_readColumns m_at m_looks m_came m_draw m_turnedRows m_turnedColumns, aZ cy (ma 1) 36 m_right, aZ cy (ma 2) 36 m_down, aJ cy (ma 14) 256 m_matrix_7, aI cy (ma 15) 36 m_member, aI cy (ma 16) 36 m_place]) H locs → lv_has ls 6 [(0, .ref mo), (1, .int p1), (2, .int x2_1), (3, .int (m_member x2_1.toNatClampNeg)), (4, .int x4_1)] → W p l e rmX10_layMatrix s m args below meth c H locs 0 0 Q (F0 m 106 ls [.int s_1])) ?_ ?_
            · intro s_1 hf H locs ls ⟨hP, hD, hS⟩ hl
              refine lv_istore (lv' := [(5, .int s_1), (0, .ref mo), (1, .int p1), (2, .int x2_1), (3, .int (m_member x2_1.toNatClampNeg)), (4, .int x4_1)]) hx hb dX10_layMatrix_106 hl (by decide) rfl (fun ls hl => ?_)
              refine lv_iload hx hb dX10_layMatrix_108 (lv_at hl 0 rfl) ?_
              refine lv_bipush (v := (-9)) hx hb dX10_layMatrix_110 (by decide) ?_
              refine lv_icmp_eq (tgt := 131) hx hb dX10_layMatrix_112 (by decide) (fun c15 => ?_) (fun c15 => ?_)
              · have hf := qob_t hf c15
                refine lv_iinc (v := (x4_1 + 1)) (lv' := [(4, .int (x4_1 + 1)), (5, .int s_1), (0, .ref mo), (1, .int p1), (2, .int x2_1), (3, .int (m_member x2_1.toNatClampNeg))]) hx hb dX10_layMatrix_131 hl (k := 5) rfl rfl (by decide) rfl (fun ls hl => ?_)
                refine lv_goto (tgt := 73) hx hb dX10_layMatrix_134 (by decide) ?_
                exact hL12 (x4_1 + 1) m_matrix_7 hf _ _ _ ⟨hP, hD, hS⟩ (lv_sub hl [2, 3, 4, 5, 0] rfl)
              · have hf := qob_f hf c15
                refine lv_aload_n hx hb dX10_layMatrix_115 rfl (lv_at hl 1 rfl) ?_
                refine va_get (D := D) (ci := 10) (v := .ref (ma 14)) (C := RX10) (T := TX10) (N := 34) hx hb hts inwX10_layMatrix_X10 hown hK hP 0 rfl rfl 25 (by decide) (hts (.fieldLink RX10 61 "HedgeWaysModel" "matrix" "[J") (List.mem_of_getElem? (i := 1) rfl)) (fun _ h9 => h9) rfl dX10_layMatrix_116 ?_
                refine lv_bipush (v := 16) hx hb dX10_layMatrix_119 (by decide) ?_
                refine lv_iload_n hx hb dX10_layMatrix_121 rfl (lv_at hl 3 rfl) ?_
                refine lv_imul hx hb dX10_layMatrix_122 ?_
                refine lv_iload hx hb dX10_layMatrix_123 (lv_at hl 0 rfl) ?_
                refine lv_iadd hx hb dX10_layMatrix_125 ?_
                refine lv_dup2_11 hx hb dX10_layMatrix_126 rfl rfl ?_
                obtain ⟨i16, hf⟩ := qob_gd hf
                refine va_lald hx hb hK hP 3 1 rfl rfl i16 dX10_layMatrix_127 ?_
                refine lv_lconst (v := 1) hx hb dX10_layMatrix_128 (by decide) ?_
                refine lv_lsub hx hb dX10_layMatrix_129 ?_
                obtain ⟨i17, hf⟩ := qob_gd hf
                obtain ⟨m_matrix_8, e18⟩ : ∃ z, z = (vp_updL m_matrix_7 (((16 * x2_1) + s_1)).toNatClampNeg ((m_matrix_7 (((16 * x2_1) + s_1)).toNatClampNeg) - 1)) := ⟨_, rfl⟩
                have hf := qob_bd hf e18
                refine va_last hx hb hK hP hD hS 3 1 rfl rfl i17 dX10_layMatrix_130 (fun H locs hP hD hS => ?_)
                have hP : va_P D vwCl ([oX10 mo ma m_thrown m_textSize m_rows m_columns m_a m_b m_readRows m_readColumns m_at m_looks m_came m_draw m_turnedRows m_turnedColumns, aZ cy (ma 1) 36 m_right, aZ cy (ma 2) 36 m_down, aJ cy (ma 14) 256 m_matrix_8, aI cy (ma 15) 36 m_member, aI cy (ma 16) 36 m_place]) H := by rw [e18]; exact hP
                have hD : va_D A ([oX10 mo ma m_thrown m_textSize m_rows m_columns m_a m_b m_readRows m_readColumns m_at m_looks m_came m_draw m_turnedRows m_turnedColumns, aZ cy (ma 1) 36 m_right, aZ cy (ma 2) 36 m_down, aJ cy (ma 14) 256 m_matrix_8, aI cy (ma 15) 36 m_member, aI cy (ma 16) 36 m_place]) := by rw [e18]; exact hD
                refine lv_iinc (v := (x4_1 + 1)) (lv' := [(4, .int (x4_1 + 1)), (5, .int s_1), (0, .ref mo), (1, .int p1), (2, .int x2_1), (3, .int (m_member x2_1.toNatClampNeg))]) hx hb dX10_layMatrix_131 hl (k := 5) rfl rfl (by decide) rfl (fun ls hl => ?_)
                refine lv_goto (tgt := 73) hx hb dX10_layMatrix_134 (by decide) ?_
                exact hL12 (x4_1 + 1) m_matrix_8 hf _ _ _ ⟨hP, hD, hS⟩ (lv_sub hl [2, 3, 4, 5, 0] rfl)
            · intro J19 hJ19 hf
              refine lv_if_eq (tgt := 104) hx hb dX10_layMatrix_86 (by decide) (fun c20 => ?_) (fun c20 => ?_)
              · have hf := qob_t hf c20
                refine lv_bipush (v := (-9)) hx hb dX10_layMatrix_104 (by decide) ?_
                exact hJ19 (-9) hf _ _ _ ⟨hP, hD, hS⟩ hl
              · have hf := qob_f hf c20
                refine lv_aload_n hx hb dX10_layMatrix_89 rfl (lv_at hl 0 rfl) ?_
                refine va_get (D := D) (ci := 10) (v := .ref (ma 16)) (C := RX10) (T := TX10) (N := 34) hx hb hts inwX10_layMatrix_X10 hown hK hP 0 rfl rfl 27 (by decide) (hts (.fieldLink RX10 67 "HedgeWaysModel" "place" "[I") (List.mem_of_getElem? (i := 3) rfl)) (fun _ h9 => h9) rfl dX10_layMatrix_90 ?_
                refine lv_aload_n hx hb dX10_layMatrix_93 rfl (lv_at hl 0 rfl) ?_
                refine lv_iload_n hx hb dX10_layMatrix_94 rfl (lv_at hl 3 rfl) ?_
                refine lv_iload hx hb dX10_layMatrix_95 (lv_at hl 4 rfl) ?_
                refine ctV_i0 (r := (fX10_beside m_rows m_columns (m_member x2_1.toNatClampNeg) x4_1)) (wc := [oX10 mo ma m_thrown m_textSize m_rows m_columns m_a m_b m_readRows m_readColumns m_at m_looks m_came m_draw m_turnedRows m_turnedColumns]) (As := [.int (m_member x2_1.toNatClampNeg), .int x4_1]) (rest := [.ref (ma 16)]) (q0 := 0) X hK hP hD hS [0] rfl rfl rfl (KX10_beside rfl _) (cwV 2 hts gX10_layMatrix_X10_beside rfl rfl rfl hdX10_beside ⟨Nat.le_of_ble_eq_true rfl, Nat.le_of_ble_eq_true rfl⟩) rfl rfl rfl hl rfl (Nat.le_of_ble_eq_true rfl) dX10_layMatrix_97 (Nat.zero_le _) (Nat.zero_le _) (fun H locs hP hS => ?_)
                obtain ⟨i21, hf⟩ := qob_gd hf
                refine va_iald hx hb hK hP 5 0 rfl rfl i21 dX10_layMatrix_100 ?_
                refine lv_goto (tgt := 106) hx hb dX10_layMatrix_101 (by decide) ?_
                exact hJ19 (m_place ((fX10_beside m_rows m_columns (m_member x2_1.toNatClampNeg) x4_1)).toNatClampNeg) hf _ _ _ ⟨hP, hD, hS⟩ hl
  · intro J22 hJ22 hf
    refine qwalk2 (fun (x2_2 : Int32) (m_matrix_9 : Nat → Int64) => ∀ (H : Heap) (locs : List Loc) (ls : Array Slot), ctW D A s ([oX10 mo ma m_thrown m_textSize m_rows m_columns m_a m_b m_readRows m_readColumns m_at m_looks m_came m_draw m_turnedRows m_turnedColumns, aZ cy (ma 1) 36 m_right, aZ cy (ma 2) 36 m_down, aJ cy (ma 14) 256 m_matrix_9, aI cy (ma 15) 36 m_member, aI cy (ma 16) 36 m_place]) H locs → lv_has ls 6 [(0, .ref mo), (1, .int p1), (2, .int x2_2)] → W p l e rmX10_layMatrix s m args below meth c H locs 0 0 Q (F0 m 2 ls [])) ?_ _ (0 : Int32) m_matrix hf _ _ _ ⟨hP, hD, hS⟩ (lv_sub hl [1, 2, 0] rfl)
    intro J23 hL23 x2_2 m_matrix_9 hf H locs ls ⟨hP, hD, hS⟩ hl
    refine lv_iload_n hx hb dX10_layMatrix_2 rfl (lv_at hl 2 rfl) ?_
    refine lv_sipush (v := 256) hx hb dX10_layMatrix_3 (by decide) ?_
    refine lv_icmp_ge (tgt := 22) hx hb dX10_layMatrix_6 (by decide) (fun c24 => ?_) (fun c24 => ?_)
    · have hf := qob_t hf c24
      have hf := qob_esc hf
      exact hJ22 m_matrix_9 hf _ _ _ ⟨hP, hD, hS⟩ (lv_sub hl [0, 1] rfl)
    · have hf := qob_f hf c24
      refine lv_aload_n hx hb dX10_layMatrix_9 rfl (lv_at hl 0 rfl) ?_
      refine va_get (D := D) (ci := 10) (v := .ref (ma 14)) (C := RX10) (T := TX10) (N := 34) hx hb hts inwX10_layMatrix_X10 hown hK hP 0 rfl rfl 25 (by decide) (hts (.fieldLink RX10 61 "HedgeWaysModel" "matrix" "[J") (List.mem_of_getElem? (i := 1) rfl)) (fun _ h9 => h9) rfl dX10_layMatrix_10 ?_
      refine lv_iload_n hx hb dX10_layMatrix_13 rfl (lv_at hl 2 rfl) ?_
      refine lv_lconst (v := 0) hx hb dX10_layMatrix_14 (by decide) ?_
      obtain ⟨i25, hf⟩ := qob_gd hf
      refine va_last hx hb hK hP hD hS 3 1 rfl rfl i25 dX10_layMatrix_15 (fun H locs hP hD hS => ?_)
      have hP : va_P D vwCl ([oX10 mo ma m_thrown m_textSize m_rows m_columns m_a m_b m_readRows m_readColumns m_at m_looks m_came m_draw m_turnedRows m_turnedColumns, aZ cy (ma 1) 36 m_right, aZ cy (ma 2) 36 m_down, aJ cy (ma 14) 256 (vp_updL m_matrix_9 x2_2.toNatClampNeg 0), aI cy (ma 15) 36 m_member, aI cy (ma 16) 36 m_place]) H := hP
      have hD : va_D A ([oX10 mo ma m_thrown m_textSize m_rows m_columns m_a m_b m_readRows m_readColumns m_at m_looks m_came m_draw m_turnedRows m_turnedColumns, aZ cy (ma 1) 36 m_right, aZ cy (ma 2) 36 m_down, aJ cy (ma 14) 256 (vp_updL m_matrix_9 x2_2.toNatClampNeg 0), aI cy (ma 15) 36 m_member, aI cy (ma 16) 36 m_place]) := hD
      refine lv_iinc (v := (x2_2 + 1)) (lv' := [(2, .int (x2_2 + 1)), (0, .ref mo), (1, .int p1)]) hx hb dX10_layMatrix_16 hl (k := 2) rfl rfl (by decide) rfl (fun ls hl => ?_)
      refine lv_goto (tgt := 2) hx hb dX10_layMatrix_19 (by decide) ?_
      exact hL23 (x2_2 + 1) (vp_updL m_matrix_9 x2_2.toNatClampNeg 0) hf _ _ _ ⟨hP, hD, hS⟩ (lv_sub hl [1, 2, 0] rfl)

theorem inwX10_chase_X10 : ∀ w ∈ wsX100, w ∈ wsX10_chase := fun _ h => List.mem_cons_of_mem _ (List.mem_append_right _ h)
abbrev rmX10_chase : Room := { frames := 7, cells := 0, slots := 0, locals := 172 }
theorem hdX10_chase : yX10_chase.cls = RX10 ∧ yX10_chase.cls ≠ "java/lang/invoke/MethodHandle" ∧ yX10_chase.cls ≠ "java/lang/invoke/VarHandle" ∧ (parseMethodDescriptor yX10_chase.desc).map (fun d => d.parameters.length) = some 3 := by decide +kernel
set_option maxHeartbeats 4000000 in
set_option maxRecDepth 100000 in
theorem KX10_chase {l : Launch} {D : va_G} {cy : Nat → ClassId} {mo : Nat} {ma : Nat → Nat} {m_thrown : Int32} {m_textSize : Int32} {m_rows : Int32} {m_columns : Int32} {m_a : Int32} {m_b : Int32} {m_readRows : Int32} {m_readColumns : Int32} {m_at : Int32} {m_looks : Int32} {m_came : Int32} {m_draw : Int64} {m_turnedRows : Int32} {m_turnedColumns : Int32} {m_right : Nat → Int32} {m_down : Nat → Int32} {m_turns : Nat → Int32} {p1 : Int32} {p2 : Int32} {p3 : Int32} {r : Int32} {m_thrown' : Int32} {m_turns' : Nat → Int32} (hf : fX10_chase m_thrown m_rows m_columns m_b m_right m_down m_turns p1 p2 p3 = some (r, m_thrown', m_turns')) : CtI l yX10_chase wsX10_chase rmX10_chase D cy [.ref mo, .int p1, .int p2, .int p3] ([oX10 mo ma m_thrown m_textSize m_rows m_columns m_a m_b m_readRows m_readColumns m_at m_looks m_came m_draw m_turnedRows m_turnedColumns, aZ cy (ma 1) 36 m_right, aZ cy (ma 2) 36 m_down, aI cy (ma 17) 1296 m_turns]) ([oX10 mo ma m_thrown' m_textSize m_rows m_columns m_a m_b m_readRows m_readColumns m_at m_looks m_came m_draw m_turnedRows m_turnedColumns, aZ cy (ma 1) 36 m_right, aZ cy (ma 2) 36 m_down, aI cy (ma 17) 1296 m_turns']) r := by
  refine CtI.of (cc := cX10_chase) (maxL := 5) (ret := some .int) (own := RX10) (by decide) rfl rfl (Nat.le_of_ble_eq_true rfl) ?_
  intro p e s m args below meth c A Q X hQ hK hP hD hS ls hl
  obtain ⟨hx, hb, hml, hown, hts, hr, hlocks, hA, hZ⟩ := id X
  have hl : lv_has ls 5 [(0, .ref mo), (1, .int p1), (2, .int p2), (3, .int p3)] := hl
  unfold fX10_chase at hf
  have hf := qob_top hf
  refine lv_aload_n hx hb dX10_chase_0 rfl (lv_at hl 0 rfl) ?_
  refine lv_iconst (v := 0) hx hb dX10_chase_1 (by decide) ?_
  refine va_put (D := D) (ci := 10) (v := .int 0) (ty := .int) (C := RX10) (T := TX10) (N := 34) hx hb hts inwX10_chase_X10 tyX10 tyX10_ok nmX10 hown hK hP hD hS 0 rfl rfl 0 (by decide) (hts (.fieldLink RX10 79 "HedgeWaysModel" "thrown" "I") (List.mem_of_getElem? (i := 1) rfl)) (fun _ h9 => h9) rfl (tyX10_ok 0 (by decide)) rfl rfl (Nat.le_of_ble_eq_true rfl) dX10_chase_2 (fun H locs hP hD hS => ?_)
  have hP : va_P D vwCl ([oX10 mo ma 0 m_textSize m_rows m_columns m_a m_b m_readRows m_readColumns m_at m_looks m_came m_draw m_turnedRows m_turnedColumns, aZ cy (ma 1) 36 m_right, aZ cy (ma 2) 36 m_down, aI cy (ma 17) 1296 m_turns]) H := hP
  have hD : va_D A ([oX10 mo ma 0 m_textSize m_rows m_columns m_a m_b m_readRows m_readColumns m_at m_looks m_came m_draw m_turnedRows m_turnedColumns, aZ cy (ma 1) 36 m_right, aZ cy (ma 2) 36 m_down, aI cy (ma 17) 1296 m_turns]) := hD
  refine lv_aload_n hx hb dX10_chase_5 rfl (lv_at hl 0 rfl) ?_
  refine lv_iload_n hx hb dX10_chase_6 rfl (lv_at hl 1 rfl) ?_
  refine ctV_i0 (r := (fX10_isCell m_rows m_columns p1)) (wc := [oX10 mo ma 0 m_textSize m_rows m_columns m_a m_b m_readRows m_readColumns m_at m_looks m_came m_draw m_turnedRows m_turnedColumns]) (As := [.int p1]) (rest := []) (q0 := 0) X hK hP hD hS [0] rfl rfl rfl (KX10_isCell rfl _) (cwV 1 hts gX10_chase_X10_isCell rfl rfl rfl hdX10_isCell ⟨Nat.le_of_ble_eq_true rfl, Nat.le_of_ble_eq_true rfl⟩) rfl rfl rfl hl rfl (Nat.le_of_ble_eq_true rfl) dX10_chase_7 (Nat.zero_le _) (Nat.zero_le _) (fun H locs hP hS => ?_)
  refine lv_if_eq (tgt := 21) hx hb dX10_chase_10 (by decide) (fun c1 => ?_) (fun c1 => ?_)
  · have hf := qob_t hf c1
    refine lv_iconst (v := (-1)) hx hb dX10_chase_21 (by decide) ?_
    cases qob_ret hf
    exact ct_iret X hQ hK hP hD hS rfl dX10_chase_22
  · have hf := qob_f hf c1
    refine lv_aload_n hx hb dX10_chase_13 rfl (lv_at hl 0 rfl) ?_
    refine lv_iload_n hx hb dX10_chase_14 rfl (lv_at hl 2 rfl) ?_
    refine ctV_i0 (r := (fX10_isCell m_rows m_columns p2)) (wc := [oX10 mo ma 0 m_textSize m_rows m_columns m_a m_b m_readRows m_readColumns m_at m_looks m_came m_draw m_turnedRows m_turnedColumns]) (As := [.int p2]) (rest := []) (q0 := 0) X hK hP hD hS [0] rfl rfl rfl (KX10_isCell rfl _) (cwV 1 hts gX10_chase_X10_isCell rfl rfl rfl hdX10_isCell ⟨Nat.le_of_ble_eq_true rfl, Nat.le_of_ble_eq_true rfl⟩) rfl rfl rfl hl rfl (Nat.le_of_ble_eq_true rfl) dX10_chase_15 (Nat.zero_le _) (Nat.zero_le _) (fun H locs hP hS => ?_)
    refine lv_if_ne (tgt := 23) hx hb dX10_chase_18 (by decide) (fun c2 => ?_) (fun c2 => ?_)
    · have hf := qob_f hf c2
      refine lv_aload_n hx hb dX10_chase_23 rfl (lv_at hl 0 rfl) ?_
      refine lv_iload_n hx hb dX10_chase_24 rfl (lv_at hl 3 rfl) ?_
      obtain ⟨m_turns_1, q3, hf⟩ := qcall1 hf
      refine ctV_v (wc := [oX10 mo ma 0 m_textSize m_rows m_columns m_a m_b m_readRows m_readColumns m_at m_looks m_came m_draw m_turnedRows m_turnedColumns, aZ cy (ma 1) 36 m_right, aZ cy (ma 2) 36 m_down, aI cy (ma 17) 1296 m_turns]) (w1 := [oX10 mo ma 0 m_textSize m_rows m_columns m_a m_b m_readRows m_readColumns m_at m_looks m_came m_draw m_turnedRows m_turnedColumns, aZ cy (ma 1) 36 m_right, aZ cy (ma 2) 36 m_down, aI cy (ma 17) 1296 m_turns_1]) (wr := []) (wn := [oX10 mo ma 0 m_textSize m_rows m_columns m_a m_b m_readRows m_readColumns m_at m_looks m_came m_draw m_turnedRows m_turnedColumns, aZ cy (ma 1) 36 m_right, aZ cy (ma 2) 36 m_down, aI cy (ma 17) 1296 m_turns_1]) (As := [.int p3]) (rest := []) (q0 := 0) X hK hP hD hS [0, 1, 2, 3] [] [0, 1, 2, 3] rfl rfl rfl rfl rfl (by decide) rfl rfl rfl (KX10_layTurns q3 _) (cwV 1 hts gX10_chase_X10_layTurns rfl rfl rfl hdX10_layTurns ⟨Nat.le_of_ble_eq_true rfl, Nat.le_of_ble_eq_true rfl⟩) rfl rfl rfl hl rfl (Nat.le_of_ble_eq_true rfl) dX10_chase_25 (Nat.zero_le _) (Nat.zero_le _) (fun H locs hP hD hS => ?_)
      refine lv_aload_n hx hb dX10_chase_28 rfl (lv_at hl 0 rfl) ?_
      refine va_get (D := D) (ci := 10) (v := .ref (ma 17)) (C := RX10) (T := TX10) (N := 34) hx hb hts inwX10_chase_X10 hown hK hP 0 rfl rfl 28 (by decide) (hts (.fieldLink RX10 70 "HedgeWaysModel" "turns" "[I") (List.mem_of_getElem? (i := 2) rfl)) (fun _ h9 => h9) rfl dX10_chase_29 ?_
      refine lv_bipush (v := 36) hx hb dX10_chase_32 (by decide) ?_
      refine lv_iload_n hx hb dX10_chase_34 rfl (lv_at hl 1 rfl) ?_
      refine ctS_i0 (r := (fX10_index p1)) (wc := []) (As := [.int p1]) (rest := [.int 36, .ref (ma 17)]) X hK hP hD hS [] rfl rfl rfl (KX10_index rfl _) (va_cwS 1 hts gX10_chase_X10_index rfl rfl rfl hdX10_index ⟨Nat.le_of_ble_eq_true rfl, Nat.le_of_ble_eq_true rfl⟩) rfl hl rfl (Nat.le_of_ble_eq_true rfl) dX10_chase_35 (Nat.zero_le _) (Nat.zero_le _) (fun H locs hP hS => ?_)
      refine lv_imul hx hb dX10_chase_38 ?_
      refine lv_iload_n hx hb dX10_chase_39 rfl (lv_at hl 2 rfl) ?_
      refine ctS_i0 (r := (fX10_index p2)) (wc := []) (As := [.int p2]) (rest := [.int (36 * (fX10_index p1)), .ref (ma 17)]) X hK hP hD hS [] rfl rfl rfl (KX10_index rfl _) (va_cwS 1 hts gX10_chase_X10_index rfl rfl rfl hdX10_index ⟨Nat.le_of_ble_eq_true rfl, Nat.le_of_ble_eq_true rfl⟩) rfl hl rfl (Nat.le_of_ble_eq_true rfl) dX10_chase_40 (Nat.zero_le _) (Nat.zero_le _) (fun H locs hP hS => ?_)
      refine lv_iadd hx hb dX10_chase_43 ?_
      obtain ⟨i4, hf⟩ := qob_gd hf
      refine va_iald hx hb hK hP 3 0 rfl rfl i4 dX10_chase_44 ?_
      refine lv_topi (fun x4_1 e5 => ?_)
      have hf := qob_bd hf e5
      refine lv_istore (lv' := [(4, .int x4_1), (0, .ref mo), (1, .int p1), (2, .int p2), (3, .int p3)]) hx hb dX10_chase_45 hl (by decide) rfl (fun ls hl => ?_)
      refine lv_iload hx hb dX10_chase_47 (lv_at hl 0 rfl) ?_
      refine lv_sipush (v := 9999) hx hb dX10_chase_49 (by decide) ?_
      refine lv_icmp_ge (tgt := 60) hx hb dX10_chase_52 (by decide) (fun c6 => ?_) (fun c6 => ?_)
      · have hf := qob_t hf c6
        refine lv_bipush (v := (-9)) hx hb dX10_chase_60 (by decide) ?_
        cases qob_ret hf
        exact ct_iret X hQ hK hP hD hS rfl dX10_chase_62
      · have hf := qob_f hf c6
        refine lv_iload hx hb dX10_chase_55 (lv_at hl 0 rfl) ?_
        refine lv_goto (tgt := 62) hx hb dX10_chase_57 (by decide) ?_
        cases qob_ret hf
        exact ct_iret X hQ hK hP hD hS rfl dX10_chase_62
    · have hf := qob_t hf c2
      refine lv_iconst (v := (-1)) hx hb dX10_chase_21 (by decide) ?_
      cases qob_ret hf
      exact ct_iret X hQ hK hP hD hS rfl dX10_chase_22
theorem inwX10_turnedAt_X10 : ∀ w ∈ wsX100, w ∈ wsX10_turnedAt := fun _ h => List.mem_cons_of_mem _ (List.mem_append_right _ h)
abbrev rmX10_turnedAt : Room := { frames := 0, cells := 0, slots := 0, locals := 0 }
theorem hdX10_turnedAt : yX10_turnedAt.cls = RX10 ∧ yX10_turnedAt.cls ≠ "java/lang/invoke/MethodHandle" ∧ yX10_turnedAt.cls ≠ "java/lang/invoke/VarHandle" ∧ (parseMethodDescriptor yX10_turnedAt.desc).map (fun d => d.parameters.length) = some 2 := by decide +kernel
set_option maxHeartbeats 4000000 in
set_option maxRecDepth 100000 in
theorem KX10_turnedAt {l : Launch} {D : va_G} {cy : Nat → ClassId} {mo : Nat} {ma : Nat → Nat} {m_thrown : Int32} {m_textSize : Int32} {m_rows : Int32} {m_columns : Int32} {m_a : Int32} {m_b : Int32} {m_readRows : Int32} {m_readColumns : Int32} {m_at : Int32} {m_looks : Int32} {m_came : Int32} {m_draw : Int64} {m_turnedRows : Int32} {m_turnedColumns : Int32} {p1 : Int32} {p2 : Int32} {r : Int32} (hf : fX10_turnedAt m_rows m_columns p1 p2 = some r) : CtI l yX10_turnedAt wsX10_turnedAt rmX10_turnedAt D cy [.ref mo, .int p1, .int p2] ([oX10 mo ma m_thrown m_textSize m_rows m_columns m_a m_b m_readRows m_readColumns m_at m_looks m_came m_draw m_turnedRows m_turnedColumns]) ([oX10 mo ma m_thrown m_textSize m_rows m_columns m_a m_b m_readRows m_readColumns m_at m_looks m_came m_draw m_turnedRows m_turnedColumns]) r := by
  refine CtI.of (cc := cX10_turnedAt) (maxL := 10) (ret := some .int) (own := RX10) (by decide) rfl rfl (Nat.le_of_ble_eq_true rfl) ?_
  intro p e s m args below meth c A Q X hQ hK hP hD hS ls hl
  obtain ⟨hx, hb, hml, hown, hts, hr, hlocks, hA, hZ⟩ := id X
  have hl : lv_has ls 10 [(0, .ref mo), (1, .int p1), (2, .int p2)] := hl
  unfold fX10_turnedAt at hf
  have hf := qob_top hf
  refine lv_iload_n hx hb dX10_turnedAt_0 rfl (lv_at hl 1 rfl) ?_
  refine lv_bipush (v := 6) hx hb dX10_turnedAt_1 (by decide) ?_
  refine lv_idiv hx hb dX10_turnedAt_3 (by decide) ?_
  refine lv_istore_n (lv' := [(3, .int (p1 / 6)), (0, .ref mo), (1, .int p1), (2, .int p2)]) hx hb dX10_turnedAt_4 rfl hl (by decide) rfl (fun ls hl => ?_)
  refine lv_iload_n hx hb dX10_turnedAt_5 rfl (lv_at hl 3 rfl) ?_
  refine lv_iconst (v := 3) hx hb dX10_turnedAt_6 (by decide) ?_
  refine qjoin1 hf (fun (s_1 : Int32) => ∀ (H : Heap) (locs : List Loc) (ls : Array Slot), ctW D A s ([oX10 mo ma m_thrown m_textSize m_rows m_columns m_a m_b m_readRows m_readColumns m_at m_looks m_came m_draw m_turnedRows m_turnedColumns]) H locs → lv_has ls 10 [(0, .ref mo), (2, .int p2), (3, .int (p1 / 6))] → W p l e rmX10_turnedAt s m args below meth c H locs 0 0 Q (F0 m 28 ls [.int s_1])) ?_ ?_
  · intro s_1 hf H locs ls ⟨hP, hD, hS⟩ hl
    refine lv_istore (lv' := [(4, .int s_1), (0, .ref mo), (2, .int p2), (3, .int (p1 / 6))]) hx hb dX10_turnedAt_28 hl (by decide) rfl (fun ls hl => ?_)
    refine lv_aload_n hx hb dX10_turnedAt_30 rfl (lv_at hl 1 rfl) ?_
    refine va_get (D := D) (ci := 10) (v := .int m_rows) (C := RX10) (T := TX10) (N := 34) hx hb hts inwX10_turnedAt_X10 hown hK hP 0 rfl rfl 3 (by decide) (hts (.fieldLink RX10 13 "HedgeWaysModel" "rows" "I") (List.mem_of_getElem? (i := 2) rfl)) (fun _ h9 => h9) rfl dX10_turnedAt_31 ?_
    refine lv_istore (lv' := [(5, .int m_rows), (4, .int s_1), (0, .ref mo), (2, .int p2), (3, .int (p1 / 6))]) hx hb dX10_turnedAt_34 hl (by decide) rfl (fun ls hl => ?_)
    refine lv_aload_n hx hb dX10_turnedAt_36 rfl (lv_at hl 2 rfl) ?_
    refine va_get (D := D) (ci := 10) (v := .int m_columns) (C := RX10) (T := TX10) (N := 34) hx hb hts inwX10_turnedAt_X10 hown hK hP 0 rfl rfl 4 (by decide) (hts (.fieldLink RX10 17 "HedgeWaysModel" "columns" "I") (List.mem_of_getElem? (i := 1) rfl)) (fun _ h9 => h9) rfl dX10_turnedAt_37 ?_
    refine lv_istore (lv' := [(6, .int m_columns), (5, .int m_rows), (4, .int s_1), (0, .ref mo), (2, .int p2), (3, .int (p1 / 6))]) hx hb dX10_turnedAt_40 hl (by decide) rfl (fun ls hl => ?_)
    refine lv_iconst (v := 0) hx hb dX10_turnedAt_42 (by decide) ?_
    refine lv_istore (lv' := [(7, .int 0), (6, .int m_columns), (5, .int m_rows), (4, .int s_1), (0, .ref mo), (2, .int p2), (3, .int (p1 / 6))]) hx hb dX10_turnedAt_43 hl (by decide) rfl (fun ls hl => ?_)
    refine qjoin2 hf (fun (x3_1 : Int32) (x4_1 : Int32) => ∀ (H : Heap) (locs : List Loc) (ls : Array Slot), ctW D A s ([oX10 mo ma m_thrown m_textSize m_rows m_columns m_a m_b m_readRows m_readColumns m_at m_looks m_came m_draw m_turnedRows m_turnedColumns]) H locs → lv_has ls 10 [(3, .int x3_1), (4, .int x4_1)] → W p l e rmX10_turnedAt s m args below meth c H locs 0 0 Q (F0 m 86 ls [])) ?_ ?_
    · intro x3_1 x4_1 hf H locs ls ⟨hP, hD, hS⟩ hl
      refine lv_bipush (v := 6) hx hb dX10_turnedAt_86 (by decide) ?_
      refine lv_iload_n hx hb dX10_turnedAt_88 rfl (lv_at hl 0 rfl) ?_
      refine lv_imul hx hb dX10_turnedAt_89 ?_
      refine lv_iload hx hb dX10_turnedAt_90 (lv_at hl 1 rfl) ?_
      refine lv_iadd hx hb dX10_turnedAt_92 ?_
      cases qob_ret hf
      exact ct_iret X hQ hK hP hD hS rfl dX10_turnedAt_93
    · intro J1 hJ1 hf
      refine qwalk5 (fun (x3_2 : Int32) (x4_2 : Int32) (x5_1 : Int32) (x6_1 : Int32) (x7_1 : Int32) => ∀ (H : Heap) (locs : List Loc) (ls : Array Slot), ctW D A s ([oX10 mo ma m_thrown m_textSize m_rows m_columns m_a m_b m_readRows m_readColumns m_at m_looks m_came m_draw m_turnedRows m_turnedColumns]) H locs → lv_has ls 10 [(2, .int p2), (3, .int x3_2), (4, .int x4_2), (5, .int x5_1), (6, .int x6_1), (7, .int x7_1)] → W p l e rmX10_turnedAt s m args below meth c H locs 0 0 Q (F0 m 45 ls [])) ?_ _ (p1 / 6) s_1 m_rows m_columns (0 : Int32) hf _ _ _ ⟨hP, hD, hS⟩ (lv_sub hl [5, 6, 3, 2, 1, 0] rfl)
      intro J2 hL2 x3_2 x4_2 x5_1 x6_1 x7_1 hf H locs ls ⟨hP, hD, hS⟩ hl
      refine lv_iload hx hb dX10_turnedAt_45 (lv_at hl 5 rfl) ?_
      refine lv_iload_n hx hb dX10_turnedAt_47 rfl (lv_at hl 0 rfl) ?_
      refine lv_iconst (v := 4) hx hb dX10_turnedAt_48 (by decide) ?_
      refine lv_irem hx hb dX10_turnedAt_49 (by decide) ?_
      refine lv_icmp_ge (tgt := 86) hx hb dX10_turnedAt_50 (by decide) (fun c3 => ?_) (fun c3 => ?_)
      · have hf := qob_t hf c3
        have hf := qob_esc hf
        exact hJ1 x3_2 x4_2 hf _ _ _ ⟨hP, hD, hS⟩ (lv_sub hl [1, 2] rfl)
      · have hf := qob_f hf c3
        refine lv_iload_n hx hb dX10_turnedAt_53 rfl (lv_at hl 1 rfl) ?_
        refine lv_istore (lv' := [(8, .int x3_2), (2, .int p2), (3, .int x3_2), (4, .int x4_2), (5, .int x5_1), (6, .int x6_1), (7, .int x7_1)]) hx hb dX10_turnedAt_54 hl (by decide) rfl (fun ls hl => ?_)
        refine lv_iload hx hb dX10_turnedAt_56 (lv_at hl 3 rfl) ?_
        refine lv_istore_n (lv' := [(3, .int x4_2), (8, .int x3_2), (2, .int p2), (4, .int x4_2), (5, .int x5_1), (6, .int x6_1), (7, .int x7_1)]) hx hb dX10_turnedAt_58 rfl hl (by decide) rfl (fun ls hl => ?_)
        refine lv_iload hx hb dX10_turnedAt_59 (lv_at hl 4 rfl) ?_
        refine lv_iconst (v := 1) hx hb dX10_turnedAt_61 (by decide) ?_
        refine lv_isub hx hb dX10_turnedAt_62 ?_
        refine lv_iload hx hb dX10_turnedAt_63 (lv_at hl 1 rfl) ?_
        refine lv_isub hx hb dX10_turnedAt_65 ?_
        refine lv_istore (lv' := [(4, .int ((x5_1 - 1) - x3_2)), (3, .int x4_2), (8, .int x3_2), (2, .int p2), (5, .int x5_1), (6, .int x6_1), (7, .int x7_1)]) hx hb dX10_turnedAt_66 hl (by decide) rfl (fun ls hl => ?_)
        refine lv_iload hx hb dX10_turnedAt_68 (lv_at hl 4 rfl) ?_
        refine lv_istore (lv' := [(9, .int x5_1), (4, .int ((x5_1 - 1) - x3_2)), (3, .int x4_2), (8, .int x3_2), (2, .int p2), (5, .int x5_1), (6, .int x6_1), (7, .int x7_1)]) hx hb dX10_turnedAt_70 hl (by decide) rfl (fun ls hl => ?_)
        refine lv_iload hx hb dX10_turnedAt_72 (lv_at hl 6 rfl) ?_
        refine lv_istore (lv' := [(5, .int x6_1), (9, .int x5_1), (4, .int ((x5_1 - 1) - x3_2)), (3, .int x4_2), (8, .int x3_2), (2, .int p2), (6, .int x6_1), (7, .int x7_1)]) hx hb dX10_turnedAt_74 hl (by decide) rfl (fun ls hl => ?_)
        refine lv_iload hx hb dX10_turnedAt_76 (lv_at hl 1 rfl) ?_
        refine lv_istore (lv' := [(6, .int x5_1), (5, .int x6_1), (9, .int x5_1), (4, .int ((x5_1 - 1) - x3_2)), (3, .int x4_2), (8, .int x3_2), (2, .int p2), (7, .int x7_1)]) hx hb dX10_turnedAt_78 hl (by decide) rfl (fun ls hl => ?_)
        refine lv_iinc (v := (x7_1 + 1)) (lv' := [(7, .int (x7_1 + 1)), (6, .int x5_1), (5, .int x6_1), (9, .int x5_1), (4, .int ((x5_1 - 1) - x3_2)), (3, .int x4_2), (8, .int x3_2), (2, .int p2)]) hx hb dX10_turnedAt_80 hl (k := 7) rfl rfl (by decide) rfl (fun ls hl => ?_)
        refine lv_goto (tgt := 45) hx hb dX10_turnedAt_83 (by decide) ?_
        exact hL2 x4_2 ((x5_1 - 1) - x3_2) x6_1 x5_1 (x7_1 + 1) hf _ _ _ ⟨hP, hD, hS⟩ (lv_sub hl [7, 5, 4, 2, 1, 0] rfl)
  · intro J4 hJ4 hf
    refine lv_icmp_le (tgt := 24) hx hb dX10_turnedAt_7 (by decide) (fun c5 => ?_) (fun c5 => ?_)
    · have hf := qob_t hf c5
      refine lv_iload_n hx hb dX10_turnedAt_24 rfl (lv_at hl 2 rfl) ?_
      refine lv_bipush (v := 6) hx hb dX10_turnedAt_25 (by decide) ?_
      refine lv_irem hx hb dX10_turnedAt_27 (by decide) ?_
      exact hJ4 (qrem p1 6) hf _ _ _ ⟨hP, hD, hS⟩ (lv_sub hl [1, 3, 0] rfl)
    · have hf := qob_f hf c5
      refine lv_aload_n hx hb dX10_turnedAt_10 rfl (lv_at hl 1 rfl) ?_
      refine va_get (D := D) (ci := 10) (v := .int m_columns) (C := RX10) (T := TX10) (N := 34) hx hb hts inwX10_turnedAt_X10 hown hK hP 0 rfl rfl 4 (by decide) (hts (.fieldLink RX10 17 "HedgeWaysModel" "columns" "I") (List.mem_of_getElem? (i := 1) rfl)) (fun _ h9 => h9) rfl dX10_turnedAt_11 ?_
      refine lv_iconst (v := 1) hx hb dX10_turnedAt_14 (by decide) ?_
      refine lv_isub hx hb dX10_turnedAt_15 ?_
      refine lv_iload_n hx hb dX10_turnedAt_16 rfl (lv_at hl 2 rfl) ?_
      refine lv_bipush (v := 6) hx hb dX10_turnedAt_17 (by decide) ?_
      refine lv_irem hx hb dX10_turnedAt_19 (by decide) ?_
      refine lv_isub hx hb dX10_turnedAt_20 ?_
      refine lv_goto (tgt := 28) hx hb dX10_turnedAt_21 (by decide) ?_
      exact hJ4 ((m_columns - 1) - (qrem p1 6)) hf _ _ _ ⟨hP, hD, hS⟩ (lv_sub hl [1, 3, 0] rfl)
abbrev rmX10_turnedSide : Room := { frames := 0, cells := 0, slots := 0, locals := 0 }
theorem hdX10_turnedSide : yX10_turnedSide.cls ≠ "java/lang/invoke/MethodHandle" ∧ yX10_turnedSide.cls ≠ "java/lang/invoke/VarHandle" ∧ (parseMethodDescriptor yX10_turnedSide.desc).map (fun d => d.parameters.length) = some 2 := by decide +kernel
set_option maxHeartbeats 4000000 in
set_option maxRecDepth 100000 in
theorem KX10_turnedSide {l : Launch} {D : va_G} {cy : Nat → ClassId}  {p1 : Int32} {p2 : Int32} {r : Int32} (hf : fX10_turnedSide p1 p2 = r) : CtI l yX10_turnedSide wsX10_turnedSide rmX10_turnedSide D cy [.int p1, .int p2] ([]) ([]) r := by
  refine CtI.of (cc := cX10_turnedSide) (maxL := 3) (ret := some .int) (own := RX10) (by decide) rfl rfl (Nat.le_of_ble_eq_true rfl) ?_
  intro p e s m args below meth c A Q X hQ hK hP hD hS ls hl
  obtain ⟨hx, hb, hml, hown, hts, hr, hlocks, hA, hZ⟩ := id X
  have hl : lv_has ls 3 [(0, .int p1), (1, .int p2)] := hl
  unfold fX10_turnedSide at hf
  have hf := qbb_top hf
  refine lv_iload_n hx hb dX10_turnedSide_0 rfl (lv_at hl 1 rfl) ?_
  refine lv_iconst (v := 3) hx hb dX10_turnedSide_1 (by decide) ?_
  refine qbjoin1 hf (fun (s_1 : Int32) => ∀ (H : Heap) (locs : List Loc) (ls : Array Slot), ctW D A s ([]) H locs → lv_has ls 3 [(1, .int p2)] → W p l e rmX10_turnedSide s m args below meth c H locs 0 0 Q (F0 m 19 ls [.int s_1])) ?_ ?_
  · intro s_1 hf H locs ls ⟨hP, hD, hS⟩ hl
    refine lv_istore_n (lv' := [(2, .int s_1), (1, .int p2)]) hx hb dX10_turnedSide_19 rfl hl (by decide) rfl (fun ls hl => ?_)
    refine lv_iload_n hx hb dX10_turnedSide_20 rfl (lv_at hl 0 rfl) ?_
    refine lv_iload_n hx hb dX10_turnedSide_21 rfl (lv_at hl 1 rfl) ?_
    refine lv_iadd hx hb dX10_turnedSide_22 ?_
    refine lv_iconst (v := 4) hx hb dX10_turnedSide_23 (by decide) ?_
    refine lv_irem hx hb dX10_turnedSide_24 (by decide) ?_
    cases qbb_ret hf
    exact ct_iret X hQ hK hP hD hS rfl dX10_turnedSide_25
  · intro J1 hJ1 hf
    refine lv_icmp_le (tgt := 18) hx hb dX10_turnedSide_2 (by decide) (fun c2 => ?_) (fun c2 => ?_)
    · have hf := qbb_t hf c2
      refine lv_iload_n hx hb dX10_turnedSide_18 rfl (lv_at hl 0 rfl) ?_
      exact hJ1 p1 hf _ _ _ ⟨hP, hD, hS⟩ (lv_sub hl [1] rfl)
    · have hf := qbb_f hf c2
      refine lv_iload_n hx hb dX10_turnedSide_5 rfl (lv_at hl 0 rfl) ?_
      refine lv_iconst (v := 2) hx hb dX10_turnedSide_6 (by decide) ?_
      refine lv_irem hx hb dX10_turnedSide_7 (by decide) ?_
      refine lv_iconst (v := 1) hx hb dX10_turnedSide_8 (by decide) ?_
      refine lv_icmp_ne (tgt := 18) hx hb dX10_turnedSide_9 (by decide) (fun c3 => ?_) (fun c3 => ?_)
      · have hf := qbb_f hf c3
        refine lv_iload_n hx hb dX10_turnedSide_18 rfl (lv_at hl 0 rfl) ?_
        exact hJ1 p1 hf _ _ _ ⟨hP, hD, hS⟩ (lv_sub hl [1] rfl)
      · have hf := qbb_t hf c3
        refine lv_iconst (v := 4) hx hb dX10_turnedSide_12 (by decide) ?_
        refine lv_iload_n hx hb dX10_turnedSide_13 rfl (lv_at hl 0 rfl) ?_
        refine lv_isub hx hb dX10_turnedSide_14 ?_
        refine lv_goto (tgt := 19) hx hb dX10_turnedSide_15 (by decide) ?_
        exact hJ1 (4 - p1) hf _ _ _ ⟨hP, hD, hS⟩ (lv_sub hl [1] rfl)
theorem inwX10_layTurned_X10 : ∀ w ∈ wsX100, w ∈ wsX10_layTurned := fun _ h => List.mem_cons_of_mem _ (List.mem_append_right _ h)
abbrev rmX10_layTurned : Room := { frames := 3, cells := 0, slots := 0, locals := 72 }
theorem hdX10_layTurned : yX10_layTurned.cls = RX10 ∧ yX10_layTurned.cls ≠ "java/lang/invoke/MethodHandle" ∧ yX10_layTurned.cls ≠ "java/lang/invoke/VarHandle" ∧ (parseMethodDescriptor yX10_layTurned.desc).map (fun d => d.parameters.length) = some 1 := by decide +kernel
set_option maxHeartbeats 4000000 in
set_option maxRecDepth 100000 in
theorem KX10_layTurned {l : Launch} {D : va_G} {cy : Nat → ClassId} {mo : Nat} {ma : Nat → Nat} {m_thrown : Int32} {m_textSize : Int32} {m_rows : Int32} {m_columns : Int32} {m_a : Int32} {m_b : Int32} {m_readRows : Int32} {m_readColumns : Int32} {m_at : Int32} {m_looks : Int32} {m_came : Int32} {m_draw : Int64} {m_turnedRows : Int32} {m_turnedColumns : Int32} {m_right : Nat → Int32} {m_down : Nat → Int32} {m_turned : Nat → Int32} {p1 : Int32} {m_turnedRows' : Int32} {m_turnedColumns' : Int32} {m_turned' : Nat → Int32} (hf : fX10_layTurned m_rows m_columns m_turnedRows m_turnedColumns m_right m_down m_turned p1 = some (m_turnedRows', m_turnedColumns', m_turned')) : CtV l yX10_layTurned wsX10_layTurned rmX10_layTurned D cy [.ref mo, .int p1] ([oX10 mo ma m_thrown m_textSize m_rows m_columns m_a m_b m_readRows m_readColumns m_at m_looks m_came m_draw m_turnedRows m_turnedColumns, aZ cy (ma 1) 36 m_right, aZ cy (ma 2) 36 m_down, aI cy (ma 19) 36 m_turned]) ([oX10 mo ma m_thrown m_textSize m_rows m_columns m_a m_b m_readRows m_readColumns m_at m_looks m_came m_draw m_turnedRows' m_turnedColumns', aZ cy (ma 1) 36 m_right, aZ cy (ma 2) 36 m_down, aI cy (ma 19) 36 m_turned']) := by
  refine CtV.of (cc := cX10_layTurned) (maxL := 5) (ret := none) (own := RX10) (by decide) rfl rfl (Nat.le_of_ble_eq_true rfl) ?_
  intro p e s m args below meth c A Q X hQ hK hP hD hS ls hl
  obtain ⟨hx, hb, hml, hown, hts, hr, hlocks, hA, hZ⟩ := id X
  have hl : lv_has ls 5 [(0, .ref mo), (1, .int p1)] := hl
  unfold fX10_layTurned at hf
  have hf := qob_top hf
  refine lv_aload_n hx hb dX10_layTurned_0 rfl (lv_at hl 0 rfl) ?_
  refine lv_iload_n hx hb dX10_layTurned_1 rfl (lv_at hl 1 rfl) ?_
  refine lv_iconst (v := 2) hx hb dX10_layTurned_2 (by decide) ?_
  refine lv_irem hx hb dX10_layTurned_3 (by decide) ?_
  refine qjoin1 hf (fun (s_1 : Int32) => ∀ (H : Heap) (locs : List Loc) (ls : Array Slot), ctW D A s ([oX10 mo ma m_thrown m_textSize m_rows m_columns m_a m_b m_readRows m_readColumns m_at m_looks m_came m_draw m_turnedRows m_turnedColumns, aZ cy (ma 1) 36 m_right, aZ cy (ma 2) 36 m_down, aI cy (ma 19) 36 m_turned]) H locs → lv_has ls 5 [(0, .ref mo), (1, .int p1)] → W p l e rmX10_layTurned s m args below meth c H locs 0 0 Q (F0 m 18 ls [.int s_1, .ref mo])) ?_ ?_
  · intro s_1 hf H locs ls ⟨hP, hD, hS⟩ hl
    refine va_put (D := D) (ci := 10) (v := .int s_1) (ty := .int) (C := RX10) (T := TX10) (N := 34) hx hb hts inwX10_layTurned_X10 tyX10 tyX10_ok nmX10 hown hK hP hD hS 0 rfl rfl 32 (by decide) (hts (.fieldLink RX10 248 "HedgeWaysModel" "turnedRows" "I") (List.mem_of_getElem? (i := 3) rfl)) (fun _ h9 => h9) rfl (tyX10_ok 32 (by decide)) rfl rfl (Nat.le_of_ble_eq_true rfl) dX10_layTurned_18 (fun H locs hP hD hS => ?_)
    have hP : va_P D vwCl ([oX10 mo ma m_thrown m_textSize m_rows m_columns m_a m_b m_readRows m_readColumns m_at m_looks m_came m_draw s_1 m_turnedColumns, aZ cy (ma 1) 36 m_right, aZ cy (ma 2) 36 m_down, aI cy (ma 19) 36 m_turned]) H := hP
    have hD : va_D A ([oX10 mo ma m_thrown m_textSize m_rows m_columns m_a m_b m_readRows m_readColumns m_at m_looks m_came m_draw s_1 m_turnedColumns, aZ cy (ma 1) 36 m_right, aZ cy (ma 2) 36 m_down, aI cy (ma 19) 36 m_turned]) := hD
    refine lv_aload_n hx hb dX10_layTurned_21 rfl (lv_at hl 0 rfl) ?_
    refine lv_iload_n hx hb dX10_layTurned_22 rfl (lv_at hl 1 rfl) ?_
    refine lv_iconst (v := 2) hx hb dX10_layTurned_23 (by decide) ?_
    refine lv_irem hx hb dX10_layTurned_24 (by decide) ?_
    refine qjoin1 hf (fun (s_2 : Int32) => ∀ (H : Heap) (locs : List Loc) (ls : Array Slot), ctW D A s ([oX10 mo ma m_thrown m_textSize m_rows m_columns m_a m_b m_readRows m_readColumns m_at m_looks m_came m_draw s_1 m_turnedColumns, aZ cy (ma 1) 36 m_right, aZ cy (ma 2) 36 m_down, aI cy (ma 19) 36 m_turned]) H locs → lv_has ls 5 [(0, .ref mo), (1, .int p1)] → W p l e rmX10_layTurned s m args below meth c H locs 0 0 Q (F0 m 39 ls [.int s_2, .ref mo])) ?_ ?_
    · intro s_2 hf H locs ls ⟨hP, hD, hS⟩ hl
      refine va_put (D := D) (ci := 10) (v := .int s_2) (ty := .int) (C := RX10) (T := TX10) (N := 34) hx hb hts inwX10_layTurned_X10 tyX10 tyX10_ok nmX10 hown hK hP hD hS 0 rfl rfl 33 (by decide) (hts (.fieldLink RX10 251 "HedgeWaysModel" "turnedColumns" "I") (List.mem_of_getElem? (i := 4) rfl)) (fun _ h9 => h9) rfl (tyX10_ok 33 (by decide)) rfl rfl (Nat.le_of_ble_eq_true rfl) dX10_layTurned_39 (fun H locs hP hD hS => ?_)
      have hP : va_P D vwCl ([oX10 mo ma m_thrown m_textSize m_rows m_columns m_a m_b m_readRows m_readColumns m_at m_looks m_came m_draw s_1 s_2, aZ cy (ma 1) 36 m_right, aZ cy (ma 2) 36 m_down, aI cy (ma 19) 36 m_turned]) H := hP
      have hD : va_D A ([oX10 mo ma m_thrown m_textSize m_rows m_columns m_a m_b m_readRows m_readColumns m_at m_looks m_came m_draw s_1 s_2, aZ cy (ma 1) 36 m_right, aZ cy (ma 2) 36 m_down, aI cy (ma 19) 36 m_turned]) := hD
      refine lv_iconst (v := 0) hx hb dX10_layTurned_42 (by decide) ?_
      refine lv_istore_n (lv' := [(2, .int 0), (0, .ref mo), (1, .int p1)]) hx hb dX10_layTurned_43 rfl hl (by decide) rfl (fun ls hl => ?_)
      refine qjoin1 hf (fun (m_turned_1 : Nat → Int32) => ∀ (H : Heap) (locs : List Loc) (ls : Array Slot), ctW D A s ([oX10 mo ma m_thrown m_textSize m_rows m_columns m_a m_b m_readRows m_readColumns m_at m_looks m_came m_draw s_1 s_2, aZ cy (ma 1) 36 m_right, aZ cy (ma 2) 36 m_down, aI cy (ma 19) 36 m_turned_1]) H locs → lv_has ls 5 [(0, .ref mo), (1, .int p1)] → W p l e rmX10_layTurned s m args below meth c H locs 0 0 Q (F0 m 63 ls [])) ?_ ?_
      · intro m_turned_1 hf H locs ls ⟨hP, hD, hS⟩ hl
        refine lv_iconst (v := 0) hx hb dX10_layTurned_63 (by decide) ?_
        refine lv_istore_n (lv' := [(2, .int 0), (0, .ref mo), (1, .int p1)]) hx hb dX10_layTurned_64 rfl hl (by decide) rfl (fun ls hl => ?_)
        refine qjoin1 hf (fun (m_turned_2 : Nat → Int32) => ∀ (H : Heap) (locs : List Loc) (ls : Array Slot), ctW D A s ([oX10 mo ma m_thrown m_textSize m_rows m_columns m_a m_b m_readRows m_readColumns m_at m_looks m_came m_draw s_1 s_2, aZ cy (ma 1) 36 m_right, aZ cy (ma 2) 36 m_down, aI cy (ma 19) 36 m_turned_2]) H locs → lv_has ls 5 [] → W p l e rmX10_layTurned s m args below meth c H locs 0 0 Q (F0 m 143 ls [])) ?_ ?_
        · intro m_turned_2 hf H locs ls ⟨hP, hD, hS⟩ hl
          cases qob_ret hf
          exact ct_vret X hQ hK hP hD hS dX10_layTurned_143
        · intro J1 hJ1 hf
          refine qwalk2 (fun (x2_1 : Int32) (m_turned_3 : Nat → Int32) => ∀ (H : Heap) (locs : List Loc) (ls : Array Slot), ctW D A s ([oX10 mo ma m_thrown m_textSize m_rows m_columns m_a m_b m_readRows m_readColumns m_at m_looks m_came m_draw s_1 s_2, aZ cy (ma 1) 36 m_right, aZ cy (ma 2) 36 m_down, aI cy (ma 19) 36 m_turned_3]) H locs → lv_has ls 5 [(0, .ref mo), (1, .int p1), (2, .int x2_1)] → W p l e rmX10_layTurned s m args below meth c H locs 0 0 Q (F0 m 65 ls [])) ?_ _ (0 : Int32) m_turned_1 hf _ _ _ ⟨hP, hD, hS⟩ (lv_sub hl [1, 2, 0] rfl)
          intro J2 hL2 x2_1 m_turned_3 hf H locs ls ⟨hP, hD, hS⟩ hl
          refine lv_iload_n hx hb dX10_layTurned_65 rfl (lv_at hl 2 rfl) ?_
          refine lv_bipush (v := 36) hx hb dX10_layTurned_66 (by decide) ?_
          refine lv_icmp_ge (tgt := 143) hx hb dX10_layTurned_68 (by decide) (fun c3 => ?_) (fun c3 => ?_)
          · have hf := qob_t hf c3
            have hf := qob_esc hf
            exact hJ1 m_turned_3 hf _ _ _ ⟨hP, hD, hS⟩ (lv_sub hl [] rfl)
          · have hf := qob_f hf c3
            refine lv_iconst (v := 0) hx hb dX10_layTurned_71 (by decide) ?_
            refine lv_istore_n (lv' := [(3, .int 0), (0, .ref mo), (1, .int p1), (2, .int x2_1)]) hx hb dX10_layTurned_72 rfl hl (by decide) rfl (fun ls hl => ?_)
            refine qjoin1 hf (fun (m_turned_4 : Nat → Int32) => ∀ (H : Heap) (locs : List Loc) (ls : Array Slot), ctW D A s ([oX10 mo ma m_thrown m_textSize m_rows m_columns m_a m_b m_readRows m_readColumns m_at m_looks m_came m_draw s_1 s_2, aZ cy (ma 1) 36 m_right, aZ cy (ma 2) 36 m_down, aI cy (ma 19) 36 m_turned_4]) H locs → lv_has ls 5 [(0, .ref mo), (1, .int p1), (2, .int x2_1)] → W p l e rmX10_layTurned s m args below meth c H locs 0 0 Q (F0 m 137 ls [])) ?_ ?_
            · intro m_turned_4 hf H locs ls ⟨hP, hD, hS⟩ hl
              refine lv_iinc (v := (x2_1 + 1)) (lv' := [(2, .int (x2_1 + 1)), (0, .ref mo), (1, .int p1)]) hx hb dX10_layTurned_137 hl (k := 2) rfl rfl (by decide) rfl (fun ls hl => ?_)
              refine lv_goto (tgt := 65) hx hb dX10_layTurned_140 (by decide) ?_
              exact hL2 (x2_1 + 1) m_turned_4 hf _ _ _ ⟨hP, hD, hS⟩ (lv_sub hl [1, 2, 0] rfl)
            · intro J4 hJ4 hf
              refine qwalk2 (fun (x3_1 : Int32) (m_turned_5 : Nat → Int32) => ∀ (H : Heap) (locs : List Loc) (ls : Array Slot), ctW D A s ([oX10 mo ma m_thrown m_textSize m_rows m_columns m_a m_b m_readRows m_readColumns m_at m_looks m_came m_draw s_1 s_2, aZ cy (ma 1) 36 m_right, aZ cy (ma 2) 36 m_down, aI cy (ma 19) 36 m_turned_5]) H locs → lv_has ls 5 [(0, .ref mo), (1, .int p1), (2, .int x2_1), (3, .int x3_1)] → W p l e rmX10_layTurned s m args below meth c H locs 0 0 Q (F0 m 73 ls [])) ?_ _ (0 : Int32) m_turned_3 hf _ _ _ ⟨hP, hD, hS⟩ (lv_sub hl [1, 2, 3, 0] rfl)
              intro J5 hL5 x3_1 m_turned_5 hf H locs ls ⟨hP, hD, hS⟩ hl
              refine lv_iload_n hx hb dX10_layTurned_73 rfl (lv_at hl 3 rfl) ?_
              refine lv_iconst (v := 4) hx hb dX10_layTurned_74 (by decide) ?_
              refine lv_icmp_ge (tgt := 137) hx hb dX10_layTurned_75 (by decide) (fun c6 => ?_) (fun c6 => ?_)
              · have hf := qob_t hf c6
                have hf := qob_esc hf
                exact hJ4 m_turned_5 hf _ _ _ ⟨hP, hD, hS⟩ (lv_sub hl [0, 1, 2] rfl)
              · have hf := qob_f hf c6
                refine lv_aload_n hx hb dX10_layTurned_78 rfl (lv_at hl 0 rfl) ?_
                refine lv_iload_n hx hb dX10_layTurned_79 rfl (lv_at hl 2 rfl) ?_
                refine ctV_i0 (r := (fX10_isThere m_rows m_columns x2_1)) (wc := [oX10 mo ma m_thrown m_textSize m_rows m_columns m_a m_b m_readRows m_readColumns m_at m_looks m_came m_draw s_1 s_2]) (As := [.int x2_1]) (rest := []) (q0 := 0) X hK hP hD hS [0] rfl rfl rfl (KX10_isThere rfl _) (cwV 1 hts gX10_layTurned_X10_isThere rfl rfl rfl hdX10_isThere ⟨Nat.le_of_ble_eq_true rfl, Nat.le_of_ble_eq_true rfl⟩) rfl rfl rfl hl rfl (Nat.le_of_ble_eq_true rfl) dX10_layTurned_80 (Nat.zero_le _) (Nat.zero_le _) (fun H locs hP hS => ?_)
                refine lv_if_eq (tgt := 137) hx hb dX10_layTurned_83 (by decide) (fun c7 => ?_) (fun c7 => ?_)
                · have hf := qob_t hf c7
                  have hf := qob_esc hf
                  exact hJ4 m_turned_5 hf _ _ _ ⟨hP, hD, hS⟩ (lv_sub hl [0, 1, 2] rfl)
                · have hf := qob_f hf c7
                  refine lv_iload_n hx hb dX10_layTurned_86 rfl (lv_at hl 3 rfl) ?_
                  refine lv_iload_n hx hb dX10_layTurned_87 rfl (lv_at hl 1 rfl) ?_
                  refine ctS_i0 (r := (fX10_turnedSide x3_1 p1)) (wc := []) (As := [.int x3_1, .int p1]) (rest := []) X hK hP hD hS [] rfl rfl rfl (KX10_turnedSide rfl _) (va_cwS 2 hts gX10_layTurned_X10_turnedSide rfl rfl rfl hdX10_turnedSide ⟨Nat.le_of_ble_eq_true rfl, Nat.le_of_ble_eq_true rfl⟩) rfl hl rfl (Nat.le_of_ble_eq_true rfl) dX10_layTurned_88 (Nat.zero_le _) (Nat.zero_le _) (fun H locs hP hS => ?_)
                  refine lv_istore (lv' := [(4, .int (fX10_turnedSide x3_1 p1)), (0, .ref mo), (1, .int p1), (2, .int x2_1), (3, .int x3_1)]) hx hb dX10_layTurned_91 hl (by decide) rfl (fun ls hl => ?_)
                  refine lv_aload_n hx hb dX10_layTurned_93 rfl (lv_at hl 1 rfl) ?_
                  refine lv_iload_n hx hb dX10_layTurned_94 rfl (lv_at hl 3 rfl) ?_
                  refine lv_iload_n hx hb dX10_layTurned_95 rfl (lv_at hl 4 rfl) ?_
                  obtain ⟨r_1, q8, hf⟩ := qcall1 hf
                  refine ctV_i0 (r := r_1) (wc := [oX10 mo ma m_thrown m_textSize m_rows m_columns m_a m_b m_readRows m_readColumns m_at m_looks m_came m_draw s_1 s_2, aZ cy (ma 1) 36 m_right, aZ cy (ma 2) 36 m_down]) (As := [.int x2_1, .int x3_1]) (rest := []) (q0 := 0) X hK hP hD hS [0, 1, 2] rfl rfl rfl (KX10_isOpen q8 _) (cwV 2 hts gX10_layTurned_X10_isOpen rfl rfl rfl hdX10_isOpen ⟨Nat.le_of_ble_eq_true rfl, Nat.le_of_ble_eq_true rfl⟩) rfl rfl rfl hl rfl (Nat.le_of_ble_eq_true rfl) dX10_layTurned_96 (Nat.zero_le _) (Nat.zero_le _) (fun H locs hP hS => ?_)
                  refine lv_if_eq (tgt := 131) hx hb dX10_layTurned_99 (by decide) (fun c9 => ?_) (fun c9 => ?_)
                  · have hf := qob_t hf c9
                    refine lv_iinc (v := (x3_1 + 1)) (lv' := [(3, .int (x3_1 + 1)), (4, .int (fX10_turnedSide x3_1 p1)), (0, .ref mo), (1, .int p1), (2, .int x2_1)]) hx hb dX10_layTurned_131 hl (k := 4) rfl rfl (by decide) rfl (fun ls hl => ?_)
                    refine lv_goto (tgt := 73) hx hb dX10_layTurned_134 (by decide) ?_
                    exact hL5 (x3_1 + 1) m_turned_5 hf _ _ _ ⟨hP, hD, hS⟩ (lv_sub hl [2, 3, 4, 0] rfl)
                  · have hf := qob_f hf c9
                    refine lv_iload hx hb dX10_layTurned_102 (lv_at hl 0 rfl) ?_
                    refine lv_i2l (v := (fX10_turnedSide x3_1 p1).toInt64) hx hb dX10_layTurned_104 rfl ?_
                    refine lv_lconst (v := 1) hx hb dX10_layTurned_105 (by decide) ?_
                    refine lv_ldc2 hx hb hown (hts (.constantLong RX10 257 (2)) (List.mem_of_getElem? (i := 6) rfl)) dX10_layTurned_106 ?_
                    refine ctS_i0 (r := (fX10_in ((fX10_turnedSide x3_1 p1).toInt64) 1 2)) (wc := []) (As := [.long ((fX10_turnedSide x3_1 p1).toInt64), .long 1, .long 2]) (rest := []) X hK hP hD hS [] rfl rfl rfl (KX10_in rfl _) (va_cwS 3 hts gX10_layTurned_X10_in rfl rfl rfl hdX10_in ⟨Nat.le_of_ble_eq_true rfl, Nat.le_of_ble_eq_true rfl⟩) rfl hl rfl (Nat.le_of_ble_eq_true rfl) dX10_layTurned_109 (Nat.zero_le _) (Nat.zero_le _) (fun H locs hP hS => ?_)
                    refine lv_if_eq (tgt := 131) hx hb dX10_layTurned_112 (by decide) (fun c10 => ?_) (fun c10 => ?_)
                    · have hf := qob_t hf c10
                      refine lv_iinc (v := (x3_1 + 1)) (lv' := [(3, .int (x3_1 + 1)), (4, .int (fX10_turnedSide x3_1 p1)), (0, .ref mo), (1, .int p1), (2, .int x2_1)]) hx hb dX10_layTurned_131 hl (k := 4) rfl rfl (by decide) rfl (fun ls hl => ?_)
                      refine lv_goto (tgt := 73) hx hb dX10_layTurned_134 (by decide) ?_
                      exact hL5 (x3_1 + 1) m_turned_5 hf _ _ _ ⟨hP, hD, hS⟩ (lv_sub hl [2, 3, 4, 0] rfl)
                    · have hf := qob_f hf c10
                      refine lv_aload_n hx hb dX10_layTurned_115 rfl (lv_at hl 1 rfl) ?_
                      refine va_get (D := D) (ci := 10) (v := .ref (ma 19)) (C := RX10) (T := TX10) (N := 34) hx hb hts inwX10_layTurned_X10 hown hK hP 0 rfl rfl 31 (by decide) (hts (.fieldLink RX10 76 "HedgeWaysModel" "turned" "[I") (List.mem_of_getElem? (i := 5) rfl)) (fun _ h9 => h9) rfl dX10_layTurned_116 ?_
                      refine lv_aload_n hx hb dX10_layTurned_119 rfl (lv_at hl 1 rfl) ?_
                      refine lv_iload_n hx hb dX10_layTurned_120 rfl (lv_at hl 3 rfl) ?_
                      refine lv_iload_n hx hb dX10_layTurned_121 rfl (lv_at hl 2 rfl) ?_
                      obtain ⟨r_2, q11, hf⟩ := qcall1 hf
                      refine ctV_i0 (r := r_2) (wc := [oX10 mo ma m_thrown m_textSize m_rows m_columns m_a m_b m_readRows m_readColumns m_at m_looks m_came m_draw s_1 s_2]) (As := [.int x2_1, .int p1]) (rest := [.ref (ma 19)]) (q0 := 0) X hK hP hD hS [0] rfl rfl rfl (KX10_turnedAt q11 _) (cwV 2 hts gX10_layTurned_X10_turnedAt rfl rfl rfl hdX10_turnedAt ⟨Nat.le_of_ble_eq_true rfl, Nat.le_of_ble_eq_true rfl⟩) rfl rfl rfl hl rfl (Nat.le_of_ble_eq_true rfl) dX10_layTurned_122 (Nat.zero_le _) (Nat.zero_le _) (fun H locs hP hS => ?_)
                      refine lv_dup2_11 hx hb dX10_layTurned_125 rfl rfl ?_
                      obtain ⟨i12, hf⟩ := qob_gd hf
                      refine va_iald hx hb hK hP 3 0 rfl rfl i12 dX10_layTurned_126 ?_
                      refine lv_iload hx hb dX10_layTurned_127 (lv_at hl 0 rfl) ?_
                      refine lv_iadd hx hb dX10_layTurned_129 ?_
                      obtain ⟨i13, hf⟩ := qob_gd hf
                      obtain ⟨m_turned_6, e14⟩ : ∃ z, z = (upd m_turned_5 r_2.toNatClampNeg ((m_turned_5 r_2.toNatClampNeg) + (fX10_turnedSide x3_1 p1))) := ⟨_, rfl⟩
                      have hf := qob_bd hf e14
                      refine va_iast hx hb hK hP hD hS 3 0 rfl rfl i13 dX10_layTurned_130 (fun H locs hP hD hS => ?_)
                      have hP : va_P D vwCl ([oX10 mo ma m_thrown m_textSize m_rows m_columns m_a m_b m_readRows m_readColumns m_at m_looks m_came m_draw s_1 s_2, aZ cy (ma 1) 36 m_right, aZ cy (ma 2) 36 m_down, aI cy (ma 19) 36 m_turned_6]) H := by rw [e14]; exact hP
                      have hD : va_D A ([oX10 mo ma m_thrown m_textSize m_rows m_columns m_a m_b m_readRows m_readColumns m_at m_looks m_came m_draw s_1 s_2, aZ cy (ma 1) 36 m_right, aZ cy (ma 2) 36 m_down, aI cy (ma 19) 36 m_turned_6]) := by rw [e14]; exact hD
                      refine lv_iinc (v := (x3_1 + 1)) (lv' := [(3, .int (x3_1 + 1)), (4, .int (fX10_turnedSide x3_1 p1)), (0, .ref mo), (1, .int p1), (2, .int x2_1)]) hx hb dX10_layTurned_131 hl (k := 4) rfl rfl (by decide) rfl (fun ls hl => ?_)
                      refine lv_goto (tgt := 73) hx hb dX10_layTurned_134 (by decide) ?_
                      exact hL5 (x3_1 + 1) m_turned_6 hf _ _ _ ⟨hP, hD, hS⟩ (lv_sub hl [2, 3, 4, 0] rfl)
      · intro J15 hJ15 hf
        refine qwalk2 (fun (x2_2 : Int32) (m_turned_7 : Nat → Int32) => ∀ (H : Heap) (locs : List Loc) (ls : Array Slot), ctW D A s ([oX10 mo ma m_thrown m_textSize m_rows m_columns m_a m_b m_readRows m_readColumns m_at m_looks m_came m_draw s_1 s_2, aZ cy (ma 1) 36 m_right, aZ cy (ma 2) 36 m_down, aI cy (ma 19) 36 m_turned_7]) H locs → lv_has ls 5 [(0, .ref mo), (1, .int p1), (2, .int x2_2)] → W p l e rmX10_layTurned s m args below meth c H locs 0 0 Q (F0 m 44 ls [])) ?_ _ (0 : Int32) m_turned hf _ _ _ ⟨hP, hD, hS⟩ (lv_sub hl [1, 2, 0] rfl)
        intro J16 hL16 x2_2 m_turned_7 hf H locs ls ⟨hP, hD, hS⟩ hl
        refine lv_iload_n hx hb dX10_layTurned_44 rfl (lv_at hl 2 rfl) ?_
        refine lv_bipush (v := 36) hx hb dX10_layTurned_45 (by decide) ?_
        refine lv_icmp_ge (tgt := 63) hx hb dX10_layTurned_47 (by decide) (fun c17 => ?_) (fun c17 => ?_)
        · have hf := qob_t hf c17
          have hf := qob_esc hf
          exact hJ15 m_turned_7 hf _ _ _ ⟨hP, hD, hS⟩ (lv_sub hl [0, 1] rfl)
        · have hf := qob_f hf c17
          refine lv_aload_n hx hb dX10_layTurned_50 rfl (lv_at hl 0 rfl) ?_
          refine va_get (D := D) (ci := 10) (v := .ref (ma 19)) (C := RX10) (T := TX10) (N := 34) hx hb hts inwX10_layTurned_X10 hown hK hP 0 rfl rfl 31 (by decide) (hts (.fieldLink RX10 76 "HedgeWaysModel" "turned" "[I") (List.mem_of_getElem? (i := 5) rfl)) (fun _ h9 => h9) rfl dX10_layTurned_51 ?_
          refine lv_iload_n hx hb dX10_layTurned_54 rfl (lv_at hl 2 rfl) ?_
          refine lv_iconst (v := 0) hx hb dX10_layTurned_55 (by decide) ?_
          obtain ⟨i18, hf⟩ := qob_gd hf
          refine va_iast hx hb hK hP hD hS 3 0 rfl rfl i18 dX10_layTurned_56 (fun H locs hP hD hS => ?_)
          have hP : va_P D vwCl ([oX10 mo ma m_thrown m_textSize m_rows m_columns m_a m_b m_readRows m_readColumns m_at m_looks m_came m_draw s_1 s_2, aZ cy (ma 1) 36 m_right, aZ cy (ma 2) 36 m_down, aI cy (ma 19) 36 (upd m_turned_7 x2_2.toNatClampNeg 0)]) H := hP
          have hD : va_D A ([oX10 mo ma m_thrown m_textSize m_rows m_columns m_a m_b m_readRows m_readColumns m_at m_looks m_came m_draw s_1 s_2, aZ cy (ma 1) 36 m_right, aZ cy (ma 2) 36 m_down, aI cy (ma 19) 36 (upd m_turned_7 x2_2.toNatClampNeg 0)]) := hD
          refine lv_iinc (v := (x2_2 + 1)) (lv' := [(2, .int (x2_2 + 1)), (0, .ref mo), (1, .int p1)]) hx hb dX10_layTurned_57 hl (k := 2) rfl rfl (by decide) rfl (fun ls hl => ?_)
          refine lv_goto (tgt := 44) hx hb dX10_layTurned_60 (by decide) ?_
          exact hL16 (x2_2 + 1) (upd m_turned_7 x2_2.toNatClampNeg 0) hf _ _ _ ⟨hP, hD, hS⟩ (lv_sub hl [1, 2, 0] rfl)
    · intro J19 hJ19 hf
      refine lv_if_ne (tgt := 35) hx hb dX10_layTurned_25 (by decide) (fun c20 => ?_) (fun c20 => ?_)
      · have hf := qob_f hf c20
        refine lv_aload_n hx hb dX10_layTurned_35 rfl (lv_at hl 0 rfl) ?_
        refine va_get (D := D) (ci := 10) (v := .int m_rows) (C := RX10) (T := TX10) (N := 34) hx hb hts inwX10_layTurned_X10 hown hK hP 0 rfl rfl 3 (by decide) (hts (.fieldLink RX10 13 "HedgeWaysModel" "rows" "I") (List.mem_of_getElem? (i := 1) rfl)) (fun _ h9 => h9) rfl dX10_layTurned_36 ?_
        exact hJ19 m_rows hf _ _ _ ⟨hP, hD, hS⟩ hl
      · have hf := qob_t hf c20
        refine lv_aload_n hx hb dX10_layTurned_28 rfl (lv_at hl 0 rfl) ?_
        refine va_get (D := D) (ci := 10) (v := .int m_columns) (C := RX10) (T := TX10) (N := 34) hx hb hts inwX10_layTurned_X10 hown hK hP 0 rfl rfl 4 (by decide) (hts (.fieldLink RX10 17 "HedgeWaysModel" "columns" "I") (List.mem_of_getElem? (i := 2) rfl)) (fun _ h9 => h9) rfl dX10_layTurned_29 ?_
        refine lv_goto (tgt := 39) hx hb dX10_layTurned_32 (by decide) ?_
        exact hJ19 m_columns hf _ _ _ ⟨hP, hD, hS⟩ hl
  · intro J21 hJ21 hf
    refine lv_if_ne (tgt := 14) hx hb dX10_layTurned_4 (by decide) (fun c22 => ?_) (fun c22 => ?_)
    · have hf := qob_f hf c22
      refine lv_aload_n hx hb dX10_layTurned_14 rfl (lv_at hl 0 rfl) ?_
      refine va_get (D := D) (ci := 10) (v := .int m_columns) (C := RX10) (T := TX10) (N := 34) hx hb hts inwX10_layTurned_X10 hown hK hP 0 rfl rfl 4 (by decide) (hts (.fieldLink RX10 17 "HedgeWaysModel" "columns" "I") (List.mem_of_getElem? (i := 2) rfl)) (fun _ h9 => h9) rfl dX10_layTurned_15 ?_
      exact hJ21 m_columns hf _ _ _ ⟨hP, hD, hS⟩ hl
    · have hf := qob_t hf c22
      refine lv_aload_n hx hb dX10_layTurned_7 rfl (lv_at hl 0 rfl) ?_
      refine va_get (D := D) (ci := 10) (v := .int m_rows) (C := RX10) (T := TX10) (N := 34) hx hb hts inwX10_layTurned_X10 hown hK hP 0 rfl rfl 3 (by decide) (hts (.fieldLink RX10 13 "HedgeWaysModel" "rows" "I") (List.mem_of_getElem? (i := 1) rfl)) (fun _ h9 => h9) rfl dX10_layTurned_8 ?_
      refine lv_goto (tgt := 18) hx hb dX10_layTurned_11 (by decide) ?_
      exact hJ21 m_rows hf _ _ _ ⟨hP, hD, hS⟩ hl
theorem inwX10_isSame_X10 : ∀ w ∈ wsX100, w ∈ wsX10_isSame := fun _ h => List.mem_cons_of_mem _ (List.mem_append_right _ h)
abbrev rmX10_isSame : Room := { frames := 1, cells := 0, slots := 0, locals := 21 }
theorem hdX10_isSame : yX10_isSame.cls = RX10 ∧ yX10_isSame.cls ≠ "java/lang/invoke/MethodHandle" ∧ yX10_isSame.cls ≠ "java/lang/invoke/VarHandle" ∧ (parseMethodDescriptor yX10_isSame.desc).map (fun d => d.parameters.length) = some 0 := by decide +kernel
set_option maxHeartbeats 4000000 in
set_option maxRecDepth 100000 in
theorem KX10_isSame {l : Launch} {D : va_G} {cy : Nat → ClassId} {mo : Nat} {ma : Nat → Nat} {m_thrown : Int32} {m_textSize : Int32} {m_rows : Int32} {m_columns : Int32} {m_a : Int32} {m_b : Int32} {m_readRows : Int32} {m_readColumns : Int32} {m_at : Int32} {m_looks : Int32} {m_came : Int32} {m_draw : Int64} {m_turnedRows : Int32} {m_turnedColumns : Int32} {m_right : Nat → Int32} {m_down : Nat → Int32} {m_turned : Nat → Int32}  {r : Int32} (hf : fX10_isSame m_rows m_columns m_turnedRows m_turnedColumns m_right m_down m_turned = some r) : CtI l yX10_isSame wsX10_isSame rmX10_isSame D cy [.ref mo] ([oX10 mo ma m_thrown m_textSize m_rows m_columns m_a m_b m_readRows m_readColumns m_at m_looks m_came m_draw m_turnedRows m_turnedColumns, aZ cy (ma 1) 36 m_right, aZ cy (ma 2) 36 m_down, aI cy (ma 19) 36 m_turned]) ([oX10 mo ma m_thrown m_textSize m_rows m_columns m_a m_b m_readRows m_readColumns m_at m_looks m_came m_draw m_turnedRows m_turnedColumns, aZ cy (ma 1) 36 m_right, aZ cy (ma 2) 36 m_down, aI cy (ma 19) 36 m_turned]) r := by
  refine CtI.of (cc := cX10_isSame) (maxL := 3) (ret := some .boolean) (own := RX10) (by decide) rfl rfl (Nat.le_of_ble_eq_true rfl) ?_
  intro p e s m args below meth c A Q X hQ hK hP hD hS ls hl
  obtain ⟨hx, hb, hml, hown, hts, hr, hlocks, hA, hZ⟩ := id X
  have hl : lv_has ls 3 [(0, .ref mo)] := hl
  unfold fX10_isSame at hf
  have hf := qob_top hf
  refine lv_aload_n hx hb dX10_isSame_0 rfl (lv_at hl 0 rfl) ?_
  refine va_get (D := D) (ci := 10) (v := .int m_turnedRows) (C := RX10) (T := TX10) (N := 34) hx hb hts inwX10_isSame_X10 hown hK hP 0 rfl rfl 32 (by decide) (hts (.fieldLink RX10 248 "HedgeWaysModel" "turnedRows" "I") (List.mem_of_getElem? (i := 1) rfl)) (fun _ h9 => h9) rfl dX10_isSame_1 ?_
  refine lv_aload_n hx hb dX10_isSame_4 rfl (lv_at hl 0 rfl) ?_
  refine va_get (D := D) (ci := 10) (v := .int m_rows) (C := RX10) (T := TX10) (N := 34) hx hb hts inwX10_isSame_X10 hown hK hP 0 rfl rfl 3 (by decide) (hts (.fieldLink RX10 13 "HedgeWaysModel" "rows" "I") (List.mem_of_getElem? (i := 2) rfl)) (fun _ h9 => h9) rfl dX10_isSame_5 ?_
  refine qjoin1 hf (fun (s_1 : Int32) => ∀ (H : Heap) (locs : List Loc) (ls : Array Slot), ctW D A s ([oX10 mo ma m_thrown m_textSize m_rows m_columns m_a m_b m_readRows m_readColumns m_at m_looks m_came m_draw m_turnedRows m_turnedColumns, aZ cy (ma 1) 36 m_right, aZ cy (ma 2) 36 m_down, aI cy (ma 19) 36 m_turned]) H locs → lv_has ls 3 [(0, .ref mo)] → W p l e rmX10_isSame s m args below meth c H locs 0 0 Q (F0 m 27 ls [.int s_1])) ?_ ?_
  · intro s_1 hf H locs ls ⟨hP, hD, hS⟩ hl
    refine lv_istore_n (lv' := [(1, .int s_1), (0, .ref mo)]) hx hb dX10_isSame_27 rfl hl (by decide) rfl (fun ls hl => ?_)
    refine lv_iconst (v := 0) hx hb dX10_isSame_28 (by decide) ?_
    refine lv_istore_n (lv' := [(2, .int 0), (1, .int s_1), (0, .ref mo)]) hx hb dX10_isSame_29 rfl hl (by decide) rfl (fun ls hl => ?_)
    refine qjoin1 hf (fun (x1_1 : Int32) => ∀ (H : Heap) (locs : List Loc) (ls : Array Slot), ctW D A s ([oX10 mo ma m_thrown m_textSize m_rows m_columns m_a m_b m_readRows m_readColumns m_at m_looks m_came m_draw m_turnedRows m_turnedColumns, aZ cy (ma 1) 36 m_right, aZ cy (ma 2) 36 m_down, aI cy (ma 19) 36 m_turned]) H locs → lv_has ls 3 [(1, .int x1_1)] → W p l e rmX10_isSame s m args below meth c H locs 0 0 Q (F0 m 66 ls [])) ?_ ?_
    · intro x1_1 hf H locs ls ⟨hP, hD, hS⟩ hl
      refine lv_iload_n hx hb dX10_isSame_66 rfl (lv_at hl 0 rfl) ?_
      cases qob_ret hf
      exact ct_zret X hQ hK hP hD hS rfl dX10_isSame_67
    · intro J1 hJ1 hf
      refine qwalk2 (fun (x1_2 : Int32) (x2_1 : Int32) => ∀ (H : Heap) (locs : List Loc) (ls : Array Slot), ctW D A s ([oX10 mo ma m_thrown m_textSize m_rows m_columns m_a m_b m_readRows m_readColumns m_at m_looks m_came m_draw m_turnedRows m_turnedColumns, aZ cy (ma 1) 36 m_right, aZ cy (ma 2) 36 m_down, aI cy (ma 19) 36 m_turned]) H locs → lv_has ls 3 [(0, .ref mo), (1, .int x1_2), (2, .int x2_1)] → W p l e rmX10_isSame s m args below meth c H locs 0 0 Q (F0 m 30 ls [])) ?_ _ s_1 (0 : Int32) hf _ _ _ ⟨hP, hD, hS⟩ (lv_sub hl [2, 1, 0] rfl)
      intro J2 hL2 x1_2 x2_1 hf H locs ls ⟨hP, hD, hS⟩ hl
      refine lv_iload_n hx hb dX10_isSame_30 rfl (lv_at hl 2 rfl) ?_
      refine lv_bipush (v := 36) hx hb dX10_isSame_31 (by decide) ?_
      refine lv_icmp_ge (tgt := 66) hx hb dX10_isSame_33 (by decide) (fun c3 => ?_) (fun c3 => ?_)
      · have hf := qob_t hf c3
        have hf := qob_esc hf
        exact hJ1 x1_2 hf _ _ _ ⟨hP, hD, hS⟩ (lv_sub hl [1] rfl)
      · have hf := qob_f hf c3
        refine lv_iload_n hx hb dX10_isSame_36 rfl (lv_at hl 1 rfl) ?_
        refine lv_if_eq (tgt := 58) hx hb dX10_isSame_37 (by decide) (fun c4 => ?_) (fun c4 => ?_)
        · have hf := qob_t hf c4
          refine lv_iconst (v := 0) hx hb dX10_isSame_58 (by decide) ?_
          refine lv_istore_n (lv' := [(1, .int 0), (0, .ref mo), (2, .int x2_1)]) hx hb dX10_isSame_59 rfl hl (by decide) rfl (fun ls hl => ?_)
          refine lv_iinc (v := (x2_1 + 1)) (lv' := [(2, .int (x2_1 + 1)), (1, .int 0), (0, .ref mo)]) hx hb dX10_isSame_60 hl (k := 2) rfl rfl (by decide) rfl (fun ls hl => ?_)
          refine lv_goto (tgt := 30) hx hb dX10_isSame_63 (by decide) ?_
          exact hL2 0 (x2_1 + 1) hf _ _ _ ⟨hP, hD, hS⟩ (lv_sub hl [2, 1, 0] rfl)
        · have hf := qob_f hf c4
          refine lv_aload_n hx hb dX10_isSame_40 rfl (lv_at hl 0 rfl) ?_
          refine va_get (D := D) (ci := 10) (v := .ref (ma 19)) (C := RX10) (T := TX10) (N := 34) hx hb hts inwX10_isSame_X10 hown hK hP 0 rfl rfl 31 (by decide) (hts (.fieldLink RX10 76 "HedgeWaysModel" "turned" "[I") (List.mem_of_getElem? (i := 5) rfl)) (fun _ h9 => h9) rfl dX10_isSame_41 ?_
          refine lv_iload_n hx hb dX10_isSame_44 rfl (lv_at hl 2 rfl) ?_
          obtain ⟨i5, hf⟩ := qob_gd hf
          refine va_iald hx hb hK hP 3 0 rfl rfl i5 dX10_isSame_45 ?_
          refine lv_aload_n hx hb dX10_isSame_46 rfl (lv_at hl 0 rfl) ?_
          refine lv_iload_n hx hb dX10_isSame_47 rfl (lv_at hl 2 rfl) ?_
          obtain ⟨r_1, q6, hf⟩ := qcall1 hf
          refine ctV_i0 (r := r_1) (wc := [oX10 mo ma m_thrown m_textSize m_rows m_columns m_a m_b m_readRows m_readColumns m_at m_looks m_came m_draw m_turnedRows m_turnedColumns, aZ cy (ma 1) 36 m_right, aZ cy (ma 2) 36 m_down]) (As := [.int x2_1]) (rest := [.int (m_turned x2_1.toNatClampNeg)]) (q0 := 0) X hK hP hD hS [0, 1, 2] rfl rfl rfl (KX10_figureOf q6 _) (cwV 1 hts gX10_isSame_X10_figureOf rfl rfl rfl hdX10_figureOf ⟨Nat.le_of_ble_eq_true rfl, Nat.le_of_ble_eq_true rfl⟩) rfl rfl rfl hl rfl (Nat.le_of_ble_eq_true rfl) dX10_isSame_48 (Nat.zero_le _) (Nat.zero_le _) (fun H locs hP hS => ?_)
          refine lv_icmp_ne (tgt := 58) hx hb dX10_isSame_51 (by decide) (fun c7 => ?_) (fun c7 => ?_)
          · have hf := qob_f hf c7
            refine lv_iconst (v := 0) hx hb dX10_isSame_58 (by decide) ?_
            refine lv_istore_n (lv' := [(1, .int 0), (0, .ref mo), (2, .int x2_1)]) hx hb dX10_isSame_59 rfl hl (by decide) rfl (fun ls hl => ?_)
            refine lv_iinc (v := (x2_1 + 1)) (lv' := [(2, .int (x2_1 + 1)), (1, .int 0), (0, .ref mo)]) hx hb dX10_isSame_60 hl (k := 2) rfl rfl (by decide) rfl (fun ls hl => ?_)
            refine lv_goto (tgt := 30) hx hb dX10_isSame_63 (by decide) ?_
            exact hL2 0 (x2_1 + 1) hf _ _ _ ⟨hP, hD, hS⟩ (lv_sub hl [2, 1, 0] rfl)
          · have hf := qob_t hf c7
            refine lv_iconst (v := 1) hx hb dX10_isSame_54 (by decide) ?_
            refine lv_goto (tgt := 59) hx hb dX10_isSame_55 (by decide) ?_
            refine lv_istore_n (lv' := [(1, .int 1), (0, .ref mo), (2, .int x2_1)]) hx hb dX10_isSame_59 rfl hl (by decide) rfl (fun ls hl => ?_)
            refine lv_iinc (v := (x2_1 + 1)) (lv' := [(2, .int (x2_1 + 1)), (1, .int 1), (0, .ref mo)]) hx hb dX10_isSame_60 hl (k := 2) rfl rfl (by decide) rfl (fun ls hl => ?_)
            refine lv_goto (tgt := 30) hx hb dX10_isSame_63 (by decide) ?_
            exact hL2 1 (x2_1 + 1) hf _ _ _ ⟨hP, hD, hS⟩ (lv_sub hl [2, 1, 0] rfl)
  · intro J8 hJ8 hf
    refine lv_icmp_ne (tgt := 26) hx hb dX10_isSame_8 (by decide) (fun c9 => ?_) (fun c9 => ?_)
    · have hf := qob_f hf c9
      refine lv_iconst (v := 0) hx hb dX10_isSame_26 (by decide) ?_
      exact hJ8 0 hf _ _ _ ⟨hP, hD, hS⟩ hl
    · have hf := qob_t hf c9
      refine lv_aload_n hx hb dX10_isSame_11 rfl (lv_at hl 0 rfl) ?_
      refine va_get (D := D) (ci := 10) (v := .int m_turnedColumns) (C := RX10) (T := TX10) (N := 34) hx hb hts inwX10_isSame_X10 hown hK hP 0 rfl rfl 33 (by decide) (hts (.fieldLink RX10 251 "HedgeWaysModel" "turnedColumns" "I") (List.mem_of_getElem? (i := 3) rfl)) (fun _ h9 => h9) rfl dX10_isSame_12 ?_
      refine lv_aload_n hx hb dX10_isSame_15 rfl (lv_at hl 0 rfl) ?_
      refine va_get (D := D) (ci := 10) (v := .int m_columns) (C := RX10) (T := TX10) (N := 34) hx hb hts inwX10_isSame_X10 hown hK hP 0 rfl rfl 4 (by decide) (hts (.fieldLink RX10 17 "HedgeWaysModel" "columns" "I") (List.mem_of_getElem? (i := 4) rfl)) (fun _ h9 => h9) rfl dX10_isSame_16 ?_
      refine lv_icmp_ne (tgt := 26) hx hb dX10_isSame_19 (by decide) (fun c10 => ?_) (fun c10 => ?_)
      · have hf := qob_f hf c10
        refine lv_iconst (v := 0) hx hb dX10_isSame_26 (by decide) ?_
        exact hJ8 0 hf _ _ _ ⟨hP, hD, hS⟩ hl
      · have hf := qob_t hf c10
        refine lv_iconst (v := 1) hx hb dX10_isSame_22 (by decide) ?_
        refine lv_goto (tgt := 27) hx hb dX10_isSame_23 (by decide) ?_
        exact hJ8 1 hf _ _ _ ⟨hP, hD, hS⟩ hl
theorem inwX10_same_X10 : ∀ w ∈ wsX100, w ∈ wsX10_same := fun _ h => List.mem_cons_of_mem _ (List.mem_append_right _ h)
abbrev rmX10_same : Room := { frames := 4, cells := 0, slots := 0, locals := 96 }
theorem hdX10_same : yX10_same.cls = RX10 ∧ yX10_same.cls ≠ "java/lang/invoke/MethodHandle" ∧ yX10_same.cls ≠ "java/lang/invoke/VarHandle" ∧ (parseMethodDescriptor yX10_same.desc).map (fun d => d.parameters.length) = some 1 := by decide +kernel
set_option maxHeartbeats 4000000 in
set_option maxRecDepth 100000 in
theorem KX10_same {l : Launch} {D : va_G} {cy : Nat → ClassId} {mo : Nat} {ma : Nat → Nat} {m_thrown : Int32} {m_textSize : Int32} {m_rows : Int32} {m_columns : Int32} {m_a : Int32} {m_b : Int32} {m_readRows : Int32} {m_readColumns : Int32} {m_at : Int32} {m_looks : Int32} {m_came : Int32} {m_draw : Int64} {m_turnedRows : Int32} {m_turnedColumns : Int32} {m_right : Nat → Int32} {m_down : Nat → Int32} {m_turned : Nat → Int32} {p1 : Int32} {r : Int32} {m_thrown' : Int32} {m_turnedRows' : Int32} {m_turnedColumns' : Int32} {m_turned' : Nat → Int32} (hf : fX10_same m_thrown m_rows m_columns m_turnedRows m_turnedColumns m_right m_down m_turned p1 = some (r, m_thrown', m_turnedRows', m_turnedColumns', m_turned')) : CtI l yX10_same wsX10_same rmX10_same D cy [.ref mo, .int p1] ([oX10 mo ma m_thrown m_textSize m_rows m_columns m_a m_b m_readRows m_readColumns m_at m_looks m_came m_draw m_turnedRows m_turnedColumns, aZ cy (ma 1) 36 m_right, aZ cy (ma 2) 36 m_down, aI cy (ma 19) 36 m_turned]) ([oX10 mo ma m_thrown' m_textSize m_rows m_columns m_a m_b m_readRows m_readColumns m_at m_looks m_came m_draw m_turnedRows' m_turnedColumns', aZ cy (ma 1) 36 m_right, aZ cy (ma 2) 36 m_down, aI cy (ma 19) 36 m_turned']) r := by
  refine CtI.of (cc := cX10_same) (maxL := 2) (ret := some .int) (own := RX10) (by decide) rfl rfl (Nat.le_of_ble_eq_true rfl) ?_
  intro p e s m args below meth c A Q X hQ hK hP hD hS ls hl
  obtain ⟨hx, hb, hml, hown, hts, hr, hlocks, hA, hZ⟩ := id X
  have hl : lv_has ls 2 [(0, .ref mo), (1, .int p1)] := hl
  unfold fX10_same at hf
  have hf := qob_top hf
  refine lv_aload_n hx hb dX10_same_0 rfl (lv_at hl 0 rfl) ?_
  refine lv_iconst (v := 0) hx hb dX10_same_1 (by decide) ?_
  refine va_put (D := D) (ci := 10) (v := .int 0) (ty := .int) (C := RX10) (T := TX10) (N := 34) hx hb hts inwX10_same_X10 tyX10 tyX10_ok nmX10 hown hK hP hD hS 0 rfl rfl 0 (by decide) (hts (.fieldLink RX10 79 "HedgeWaysModel" "thrown" "I") (List.mem_of_getElem? (i := 1) rfl)) (fun _ h9 => h9) rfl (tyX10_ok 0 (by decide)) rfl rfl (Nat.le_of_ble_eq_true rfl) dX10_same_2 (fun H locs hP hD hS => ?_)
  have hP : va_P D vwCl ([oX10 mo ma 0 m_textSize m_rows m_columns m_a m_b m_readRows m_readColumns m_at m_looks m_came m_draw m_turnedRows m_turnedColumns, aZ cy (ma 1) 36 m_right, aZ cy (ma 2) 36 m_down, aI cy (ma 19) 36 m_turned]) H := hP
  have hD : va_D A ([oX10 mo ma 0 m_textSize m_rows m_columns m_a m_b m_readRows m_readColumns m_at m_looks m_came m_draw m_turnedRows m_turnedColumns, aZ cy (ma 1) 36 m_right, aZ cy (ma 2) 36 m_down, aI cy (ma 19) 36 m_turned]) := hD
  refine lv_iload_n hx hb dX10_same_5 rfl (lv_at hl 1 rfl) ?_
  refine lv_i2l (v := p1.toInt64) hx hb dX10_same_6 rfl ?_
  refine lv_lconst (v := 0) hx hb dX10_same_7 (by decide) ?_
  refine lv_ldc2 hx hb hown (hts (.constantLong RX10 262 (7)) (List.mem_of_getElem? (i := 2) rfl)) dX10_same_8 ?_
  refine ctS_i0 (r := (fX10_in p1.toInt64 0 7)) (wc := []) (As := [.long p1.toInt64, .long 0, .long 7]) (rest := []) X hK hP hD hS [] rfl rfl rfl (KX10_in rfl _) (va_cwS 3 hts gX10_same_X10_in rfl rfl rfl hdX10_in ⟨Nat.le_of_ble_eq_true rfl, Nat.le_of_ble_eq_true rfl⟩) rfl hl rfl (Nat.le_of_ble_eq_true rfl) dX10_same_11 (Nat.zero_le _) (Nat.zero_le _) (fun H locs hP hS => ?_)
  refine lv_if_ne (tgt := 20) hx hb dX10_same_14 (by decide) (fun c1 => ?_) (fun c1 => ?_)
  · have hf := qob_f hf c1
    refine lv_aload_n hx hb dX10_same_20 rfl (lv_at hl 0 rfl) ?_
    refine lv_iload_n hx hb dX10_same_21 rfl (lv_at hl 1 rfl) ?_
    obtain ⟨m_turnedRows_1, m_turnedColumns_1, m_turned_1, q2, hf⟩ := qcall3 hf
    refine ctV_v (wc := [oX10 mo ma 0 m_textSize m_rows m_columns m_a m_b m_readRows m_readColumns m_at m_looks m_came m_draw m_turnedRows m_turnedColumns, aZ cy (ma 1) 36 m_right, aZ cy (ma 2) 36 m_down, aI cy (ma 19) 36 m_turned]) (w1 := [oX10 mo ma 0 m_textSize m_rows m_columns m_a m_b m_readRows m_readColumns m_at m_looks m_came m_draw m_turnedRows_1 m_turnedColumns_1, aZ cy (ma 1) 36 m_right, aZ cy (ma 2) 36 m_down, aI cy (ma 19) 36 m_turned_1]) (wr := []) (wn := [oX10 mo ma 0 m_textSize m_rows m_columns m_a m_b m_readRows m_readColumns m_at m_looks m_came m_draw m_turnedRows_1 m_turnedColumns_1, aZ cy (ma 1) 36 m_right, aZ cy (ma 2) 36 m_down, aI cy (ma 19) 36 m_turned_1]) (As := [.int p1]) (rest := []) (q0 := 0) X hK hP hD hS [0, 1, 2, 3] [] [0, 1, 2, 3] rfl rfl rfl rfl rfl (by decide) rfl rfl rfl (KX10_layTurned q2 _) (cwV 1 hts gX10_same_X10_layTurned rfl rfl rfl hdX10_layTurned ⟨Nat.le_of_ble_eq_true rfl, Nat.le_of_ble_eq_true rfl⟩) rfl rfl rfl hl rfl (Nat.le_of_ble_eq_true rfl) dX10_same_22 (Nat.zero_le _) (Nat.zero_le _) (fun H locs hP hD hS => ?_)
    refine lv_aload_n hx hb dX10_same_25 rfl (lv_at hl 0 rfl) ?_
    obtain ⟨r_1, q3, hf⟩ := qcall1 hf
    refine ctV_i0 (r := r_1) (wc := [oX10 mo ma 0 m_textSize m_rows m_columns m_a m_b m_readRows m_readColumns m_at m_looks m_came m_draw m_turnedRows_1 m_turnedColumns_1, aZ cy (ma 1) 36 m_right, aZ cy (ma 2) 36 m_down, aI cy (ma 19) 36 m_turned_1]) (As := []) (rest := []) (q0 := 0) X hK hP hD hS [0, 1, 2, 3] rfl rfl rfl (KX10_isSame q3 _) (cwV 0 hts gX10_same_X10_isSame rfl rfl rfl hdX10_isSame ⟨Nat.le_of_ble_eq_true rfl, Nat.le_of_ble_eq_true rfl⟩) rfl rfl rfl hl rfl (Nat.le_of_ble_eq_true rfl) dX10_same_26 (Nat.zero_le _) (Nat.zero_le _) (fun H locs hP hS => ?_)
    refine lv_if_eq (tgt := 36) hx hb dX10_same_29 (by decide) (fun c4 => ?_) (fun c4 => ?_)
    · have hf := qob_t hf c4
      refine lv_iconst (v := 0) hx hb dX10_same_36 (by decide) ?_
      cases qob_ret hf
      exact ct_iret X hQ hK hP hD hS rfl dX10_same_37
    · have hf := qob_f hf c4
      refine lv_iconst (v := 1) hx hb dX10_same_32 (by decide) ?_
      refine lv_goto (tgt := 37) hx hb dX10_same_33 (by decide) ?_
      cases qob_ret hf
      exact ct_iret X hQ hK hP hD hS rfl dX10_same_37
  · have hf := qob_t hf c1
    refine lv_bipush (v := (-2)) hx hb dX10_same_17 (by decide) ?_
    cases qob_ret hf
    exact ct_iret X hQ hK hP hD hS rfl dX10_same_19
theorem inwX10_turn_X10 : ∀ w ∈ wsX100, w ∈ wsX10_turn := fun _ h => List.mem_cons_of_mem _ (List.mem_append_right _ h)
abbrev rmX10_turn : Room := { frames := 4, cells := 0, slots := 0, locals := 96 }
theorem hdX10_turn : yX10_turn.cls = RX10 ∧ yX10_turn.cls ≠ "java/lang/invoke/MethodHandle" ∧ yX10_turn.cls ≠ "java/lang/invoke/VarHandle" ∧ (parseMethodDescriptor yX10_turn.desc).map (fun d => d.parameters.length) = some 1 := by decide +kernel
set_option maxHeartbeats 4000000 in
set_option maxRecDepth 100000 in
theorem KX10_turn {l : Launch} {D : va_G} {cy : Nat → ClassId} {mo : Nat} {ma : Nat → Nat} {m_thrown : Int32} {m_textSize : Int32} {m_rows : Int32} {m_columns : Int32} {m_a : Int32} {m_b : Int32} {m_readRows : Int32} {m_readColumns : Int32} {m_at : Int32} {m_looks : Int32} {m_came : Int32} {m_draw : Int64} {m_turnedRows : Int32} {m_turnedColumns : Int32} {m_right : Nat → Int32} {m_down : Nat → Int32} {m_turned : Nat → Int32} {p1 : Int32} {r : Int32} {m_thrown' : Int32} {m_rows' : Int32} {m_columns' : Int32} {m_a' : Int32} {m_b' : Int32} {m_turnedRows' : Int32} {m_turnedColumns' : Int32} {m_right' : Nat → Int32} {m_down' : Nat → Int32} {m_turned' : Nat → Int32} (hf : fX10_turn m_thrown m_rows m_columns m_a m_b m_turnedRows m_turnedColumns m_right m_down m_turned p1 = some (r, m_thrown', m_rows', m_columns', m_a', m_b', m_turnedRows', m_turnedColumns', m_right', m_down', m_turned')) : CtI l yX10_turn wsX10_turn rmX10_turn D cy [.ref mo, .int p1] ([oX10 mo ma m_thrown m_textSize m_rows m_columns m_a m_b m_readRows m_readColumns m_at m_looks m_came m_draw m_turnedRows m_turnedColumns, aZ cy (ma 1) 36 m_right, aZ cy (ma 2) 36 m_down, aI cy (ma 19) 36 m_turned]) ([oX10 mo ma m_thrown' m_textSize m_rows' m_columns' m_a' m_b' m_readRows m_readColumns m_at m_looks m_came m_draw m_turnedRows' m_turnedColumns', aZ cy (ma 1) 36 m_right', aZ cy (ma 2) 36 m_down', aI cy (ma 19) 36 m_turned']) r := by
  refine CtI.of (cc := cX10_turn) (maxL := 4) (ret := some .int) (own := RX10) (by decide) rfl rfl (Nat.le_of_ble_eq_true rfl) ?_
  intro p e s m args below meth c A Q X hQ hK hP hD hS ls hl
  obtain ⟨hx, hb, hml, hown, hts, hr, hlocks, hA, hZ⟩ := id X
  have hl : lv_has ls 4 [(0, .ref mo), (1, .int p1)] := hl
  unfold fX10_turn at hf
  have hf := qob_top hf
  refine lv_aload_n hx hb dX10_turn_0 rfl (lv_at hl 0 rfl) ?_
  refine lv_iconst (v := 0) hx hb dX10_turn_1 (by decide) ?_
  refine va_put (D := D) (ci := 10) (v := .int 0) (ty := .int) (C := RX10) (T := TX10) (N := 34) hx hb hts inwX10_turn_X10 tyX10 tyX10_ok nmX10 hown hK hP hD hS 0 rfl rfl 0 (by decide) (hts (.fieldLink RX10 79 "HedgeWaysModel" "thrown" "I") (List.mem_of_getElem? (i := 1) rfl)) (fun _ h9 => h9) rfl (tyX10_ok 0 (by decide)) rfl rfl (Nat.le_of_ble_eq_true rfl) dX10_turn_2 (fun H locs hP hD hS => ?_)
  have hP : va_P D vwCl ([oX10 mo ma 0 m_textSize m_rows m_columns m_a m_b m_readRows m_readColumns m_at m_looks m_came m_draw m_turnedRows m_turnedColumns, aZ cy (ma 1) 36 m_right, aZ cy (ma 2) 36 m_down, aI cy (ma 19) 36 m_turned]) H := hP
  have hD : va_D A ([oX10 mo ma 0 m_textSize m_rows m_columns m_a m_b m_readRows m_readColumns m_at m_looks m_came m_draw m_turnedRows m_turnedColumns, aZ cy (ma 1) 36 m_right, aZ cy (ma 2) 36 m_down, aI cy (ma 19) 36 m_turned]) := hD
  refine lv_iload_n hx hb dX10_turn_5 rfl (lv_at hl 1 rfl) ?_
  refine lv_i2l (v := p1.toInt64) hx hb dX10_turn_6 rfl ?_
  refine lv_lconst (v := 0) hx hb dX10_turn_7 (by decide) ?_
  refine lv_ldc2 hx hb hown (hts (.constantLong RX10 262 (7)) (List.mem_of_getElem? (i := 2) rfl)) dX10_turn_8 ?_
  refine ctS_i0 (r := (fX10_in p1.toInt64 0 7)) (wc := []) (As := [.long p1.toInt64, .long 0, .long 7]) (rest := []) X hK hP hD hS [] rfl rfl rfl (KX10_in rfl _) (va_cwS 3 hts gX10_turn_X10_in rfl rfl rfl hdX10_in ⟨Nat.le_of_ble_eq_true rfl, Nat.le_of_ble_eq_true rfl⟩) rfl hl rfl (Nat.le_of_ble_eq_true rfl) dX10_turn_11 (Nat.zero_le _) (Nat.zero_le _) (fun H locs hP hS => ?_)
  refine lv_if_ne (tgt := 20) hx hb dX10_turn_14 (by decide) (fun c1 => ?_) (fun c1 => ?_)
  · have hf := qob_f hf c1
    refine lv_aload_n hx hb dX10_turn_20 rfl (lv_at hl 0 rfl) ?_
    refine lv_iload_n hx hb dX10_turn_21 rfl (lv_at hl 1 rfl) ?_
    obtain ⟨m_turnedRows_1, m_turnedColumns_1, m_turned_1, q2, hf⟩ := qcall3 hf
    refine ctV_v (wc := [oX10 mo ma 0 m_textSize m_rows m_columns m_a m_b m_readRows m_readColumns m_at m_looks m_came m_draw m_turnedRows m_turnedColumns, aZ cy (ma 1) 36 m_right, aZ cy (ma 2) 36 m_down, aI cy (ma 19) 36 m_turned]) (w1 := [oX10 mo ma 0 m_textSize m_rows m_columns m_a m_b m_readRows m_readColumns m_at m_looks m_came m_draw m_turnedRows_1 m_turnedColumns_1, aZ cy (ma 1) 36 m_right, aZ cy (ma 2) 36 m_down, aI cy (ma 19) 36 m_turned_1]) (wr := []) (wn := [oX10 mo ma 0 m_textSize m_rows m_columns m_a m_b m_readRows m_readColumns m_at m_looks m_came m_draw m_turnedRows_1 m_turnedColumns_1, aZ cy (ma 1) 36 m_right, aZ cy (ma 2) 36 m_down, aI cy (ma 19) 36 m_turned_1]) (As := [.int p1]) (rest := []) (q0 := 0) X hK hP hD hS [0, 1, 2, 3] [] [0, 1, 2, 3] rfl rfl rfl rfl rfl (by decide) rfl rfl rfl (KX10_layTurned q2 _) (cwV 1 hts gX10_turn_X10_layTurned rfl rfl rfl hdX10_layTurned ⟨Nat.le_of_ble_eq_true rfl, Nat.le_of_ble_eq_true rfl⟩) rfl rfl rfl hl rfl (Nat.le_of_ble_eq_true rfl) dX10_turn_22 (Nat.zero_le _) (Nat.zero_le _) (fun H locs hP hD hS => ?_)
    refine lv_aload_n hx hb dX10_turn_25 rfl (lv_at hl 0 rfl) ?_
    obtain ⟨r_1, q3, hf⟩ := qcall1 hf
    refine ctV_i0 (r := r_1) (wc := [oX10 mo ma 0 m_textSize m_rows m_columns m_a m_b m_readRows m_readColumns m_at m_looks m_came m_draw m_turnedRows_1 m_turnedColumns_1, aZ cy (ma 1) 36 m_right, aZ cy (ma 2) 36 m_down, aI cy (ma 19) 36 m_turned_1]) (As := []) (rest := []) (q0 := 0) X hK hP hD hS [0, 1, 2, 3] rfl rfl rfl (KX10_isSame q3 _) (cwV 0 hts gX10_turn_X10_isSame rfl rfl rfl hdX10_isSame ⟨Nat.le_of_ble_eq_true rfl, Nat.le_of_ble_eq_true rfl⟩) rfl rfl rfl hl rfl (Nat.le_of_ble_eq_true rfl) dX10_turn_26 (Nat.zero_le _) (Nat.zero_le _) (fun H locs hP hS => ?_)
    refine qjoin1 hf (fun (s_1 : Int32) => ∀ (H : Heap) (locs : List Loc) (ls : Array Slot), ctW D A s ([oX10 mo ma 0 m_textSize m_rows m_columns m_a m_b m_readRows m_readColumns m_at m_looks m_came m_draw m_turnedRows_1 m_turnedColumns_1, aZ cy (ma 1) 36 m_right, aZ cy (ma 2) 36 m_down, aI cy (ma 19) 36 m_turned_1]) H locs → lv_has ls 4 [(0, .ref mo), (1, .int p1)] → W p l e rmX10_turn s m args below meth c H locs 0 0 Q (F0 m 37 ls [.int s_1])) ?_ ?_
    · intro s_1 hf H locs ls ⟨hP, hD, hS⟩ hl
      refine lv_istore_n (lv' := [(2, .int s_1), (0, .ref mo), (1, .int p1)]) hx hb dX10_turn_37 rfl hl (by decide) rfl (fun ls hl => ?_)
      refine lv_aload_n hx hb dX10_turn_38 rfl (lv_at hl 1 rfl) ?_
      refine lv_aload_n hx hb dX10_turn_39 rfl (lv_at hl 1 rfl) ?_
      refine lv_aload_n hx hb dX10_turn_40 rfl (lv_at hl 1 rfl) ?_
      refine va_get (D := D) (ci := 10) (v := .int m_a) (C := RX10) (T := TX10) (N := 34) hx hb hts inwX10_turn_X10 hown hK hP 0 rfl rfl 7 (by decide) (hts (.fieldLink RX10 103 "HedgeWaysModel" "a" "I") (List.mem_of_getElem? (i := 3) rfl)) (fun _ h9 => h9) rfl dX10_turn_41 ?_
      refine lv_iload_n hx hb dX10_turn_44 rfl (lv_at hl 2 rfl) ?_
      obtain ⟨r_2, q4, hf⟩ := qcall1 hf
      refine ctV_i0 (r := r_2) (wc := [oX10 mo ma 0 m_textSize m_rows m_columns m_a m_b m_readRows m_readColumns m_at m_looks m_came m_draw m_turnedRows_1 m_turnedColumns_1]) (As := [.int m_a, .int p1]) (rest := [.ref mo]) (q0 := 0) X hK hP hD hS [0] rfl rfl rfl (KX10_turnedAt q4 _) (cwV 2 hts gX10_turn_X10_turnedAt rfl rfl rfl hdX10_turnedAt ⟨Nat.le_of_ble_eq_true rfl, Nat.le_of_ble_eq_true rfl⟩) rfl rfl rfl hl rfl (Nat.le_of_ble_eq_true rfl) dX10_turn_45 (Nat.zero_le _) (Nat.zero_le _) (fun H locs hP hS => ?_)
      refine va_put (D := D) (ci := 10) (v := .int r_2) (ty := .int) (C := RX10) (T := TX10) (N := 34) hx hb hts inwX10_turn_X10 tyX10 tyX10_ok nmX10 hown hK hP hD hS 0 rfl rfl 7 (by decide) (hts (.fieldLink RX10 103 "HedgeWaysModel" "a" "I") (List.mem_of_getElem? (i := 3) rfl)) (fun _ h9 => h9) rfl (tyX10_ok 7 (by decide)) rfl rfl (Nat.le_of_ble_eq_true rfl) dX10_turn_48 (fun H locs hP hD hS => ?_)
      have hP : va_P D vwCl ([oX10 mo ma 0 m_textSize m_rows m_columns r_2 m_b m_readRows m_readColumns m_at m_looks m_came m_draw m_turnedRows_1 m_turnedColumns_1, aZ cy (ma 1) 36 m_right, aZ cy (ma 2) 36 m_down, aI cy (ma 19) 36 m_turned_1]) H := hP
      have hD : va_D A ([oX10 mo ma 0 m_textSize m_rows m_columns r_2 m_b m_readRows m_readColumns m_at m_looks m_came m_draw m_turnedRows_1 m_turnedColumns_1, aZ cy (ma 1) 36 m_right, aZ cy (ma 2) 36 m_down, aI cy (ma 19) 36 m_turned_1]) := hD
      refine lv_aload_n hx hb dX10_turn_51 rfl (lv_at hl 1 rfl) ?_
      refine lv_aload_n hx hb dX10_turn_52 rfl (lv_at hl 1 rfl) ?_
      refine lv_aload_n hx hb dX10_turn_53 rfl (lv_at hl 1 rfl) ?_
      refine va_get (D := D) (ci := 10) (v := .int m_b) (C := RX10) (T := TX10) (N := 34) hx hb hts inwX10_turn_X10 hown hK hP 0 rfl rfl 8 (by decide) (hts (.fieldLink RX10 106 "HedgeWaysModel" "b" "I") (List.mem_of_getElem? (i := 4) rfl)) (fun _ h9 => h9) rfl dX10_turn_54 ?_
      refine lv_iload_n hx hb dX10_turn_57 rfl (lv_at hl 2 rfl) ?_
      obtain ⟨r_3, q5, hf⟩ := qcall1 hf
      refine ctV_i0 (r := r_3) (wc := [oX10 mo ma 0 m_textSize m_rows m_columns r_2 m_b m_readRows m_readColumns m_at m_looks m_came m_draw m_turnedRows_1 m_turnedColumns_1]) (As := [.int m_b, .int p1]) (rest := [.ref mo]) (q0 := 0) X hK hP hD hS [0] rfl rfl rfl (KX10_turnedAt q5 _) (cwV 2 hts gX10_turn_X10_turnedAt rfl rfl rfl hdX10_turnedAt ⟨Nat.le_of_ble_eq_true rfl, Nat.le_of_ble_eq_true rfl⟩) rfl rfl rfl hl rfl (Nat.le_of_ble_eq_true rfl) dX10_turn_58 (Nat.zero_le _) (Nat.zero_le _) (fun H locs hP hS => ?_)
      refine va_put (D := D) (ci := 10) (v := .int r_3) (ty := .int) (C := RX10) (T := TX10) (N := 34) hx hb hts inwX10_turn_X10 tyX10 tyX10_ok nmX10 hown hK hP hD hS 0 rfl rfl 8 (by decide) (hts (.fieldLink RX10 106 "HedgeWaysModel" "b" "I") (List.mem_of_getElem? (i := 4) rfl)) (fun _ h9 => h9) rfl (tyX10_ok 8 (by decide)) rfl rfl (Nat.le_of_ble_eq_true rfl) dX10_turn_61 (fun H locs hP hD hS => ?_)
      have hP : va_P D vwCl ([oX10 mo ma 0 m_textSize m_rows m_columns r_2 r_3 m_readRows m_readColumns m_at m_looks m_came m_draw m_turnedRows_1 m_turnedColumns_1, aZ cy (ma 1) 36 m_right, aZ cy (ma 2) 36 m_down, aI cy (ma 19) 36 m_turned_1]) H := hP
      have hD : va_D A ([oX10 mo ma 0 m_textSize m_rows m_columns r_2 r_3 m_readRows m_readColumns m_at m_looks m_came m_draw m_turnedRows_1 m_turnedColumns_1, aZ cy (ma 1) 36 m_right, aZ cy (ma 2) 36 m_down, aI cy (ma 19) 36 m_turned_1]) := hD
      refine lv_aload_n hx hb dX10_turn_64 rfl (lv_at hl 1 rfl) ?_
      refine lv_aload_n hx hb dX10_turn_65 rfl (lv_at hl 1 rfl) ?_
      refine va_get (D := D) (ci := 10) (v := .int m_turnedRows_1) (C := RX10) (T := TX10) (N := 34) hx hb hts inwX10_turn_X10 hown hK hP 0 rfl rfl 32 (by decide) (hts (.fieldLink RX10 248 "HedgeWaysModel" "turnedRows" "I") (List.mem_of_getElem? (i := 5) rfl)) (fun _ h9 => h9) rfl dX10_turn_66 ?_
      refine va_put (D := D) (ci := 10) (v := .int m_turnedRows_1) (ty := .int) (C := RX10) (T := TX10) (N := 34) hx hb hts inwX10_turn_X10 tyX10 tyX10_ok nmX10 hown hK hP hD hS 0 rfl rfl 3 (by decide) (hts (.fieldLink RX10 13 "HedgeWaysModel" "rows" "I") (List.mem_of_getElem? (i := 6) rfl)) (fun _ h9 => h9) rfl (tyX10_ok 3 (by decide)) rfl rfl (Nat.le_of_ble_eq_true rfl) dX10_turn_69 (fun H locs hP hD hS => ?_)
      have hP : va_P D vwCl ([oX10 mo ma 0 m_textSize m_turnedRows_1 m_columns r_2 r_3 m_readRows m_readColumns m_at m_looks m_came m_draw m_turnedRows_1 m_turnedColumns_1, aZ cy (ma 1) 36 m_right, aZ cy (ma 2) 36 m_down, aI cy (ma 19) 36 m_turned_1]) H := hP
      have hD : va_D A ([oX10 mo ma 0 m_textSize m_turnedRows_1 m_columns r_2 r_3 m_readRows m_readColumns m_at m_looks m_came m_draw m_turnedRows_1 m_turnedColumns_1, aZ cy (ma 1) 36 m_right, aZ cy (ma 2) 36 m_down, aI cy (ma 19) 36 m_turned_1]) := hD
      refine lv_aload_n hx hb dX10_turn_72 rfl (lv_at hl 1 rfl) ?_
      refine lv_aload_n hx hb dX10_turn_73 rfl (lv_at hl 1 rfl) ?_
      refine va_get (D := D) (ci := 10) (v := .int m_turnedColumns_1) (C := RX10) (T := TX10) (N := 34) hx hb hts inwX10_turn_X10 hown hK hP 0 rfl rfl 33 (by decide) (hts (.fieldLink RX10 251 "HedgeWaysModel" "turnedColumns" "I") (List.mem_of_getElem? (i := 7) rfl)) (fun _ h9 => h9) rfl dX10_turn_74 ?_
      refine va_put (D := D) (ci := 10) (v := .int m_turnedColumns_1) (ty := .int) (C := RX10) (T := TX10) (N := 34) hx hb hts inwX10_turn_X10 tyX10 tyX10_ok nmX10 hown hK hP hD hS 0 rfl rfl 4 (by decide) (hts (.fieldLink RX10 17 "HedgeWaysModel" "columns" "I") (List.mem_of_getElem? (i := 8) rfl)) (fun _ h9 => h9) rfl (tyX10_ok 4 (by decide)) rfl rfl (Nat.le_of_ble_eq_true rfl) dX10_turn_77 (fun H locs hP hD hS => ?_)
      have hP : va_P D vwCl ([oX10 mo ma 0 m_textSize m_turnedRows_1 m_turnedColumns_1 r_2 r_3 m_readRows m_readColumns m_at m_looks m_came m_draw m_turnedRows_1 m_turnedColumns_1, aZ cy (ma 1) 36 m_right, aZ cy (ma 2) 36 m_down, aI cy (ma 19) 36 m_turned_1]) H := hP
      have hD : va_D A ([oX10 mo ma 0 m_textSize m_turnedRows_1 m_turnedColumns_1 r_2 r_3 m_readRows m_readColumns m_at m_looks m_came m_draw m_turnedRows_1 m_turnedColumns_1, aZ cy (ma 1) 36 m_right, aZ cy (ma 2) 36 m_down, aI cy (ma 19) 36 m_turned_1]) := hD
      refine lv_iconst (v := 0) hx hb dX10_turn_80 (by decide) ?_
      refine lv_istore_n (lv' := [(3, .int 0), (2, .int s_1), (0, .ref mo), (1, .int p1)]) hx hb dX10_turn_81 rfl hl (by decide) rfl (fun ls hl => ?_)
      refine qjoin2 hf (fun (m_right_1 : Nat → Int32) (m_down_1 : Nat → Int32) => ∀ (H : Heap) (locs : List Loc) (ls : Array Slot), ctW D A s ([oX10 mo ma 0 m_textSize m_turnedRows_1 m_turnedColumns_1 r_2 r_3 m_readRows m_readColumns m_at m_looks m_came m_draw m_turnedRows_1 m_turnedColumns_1, aZ cy (ma 1) 36 m_right_1, aZ cy (ma 2) 36 m_down_1, aI cy (ma 19) 36 m_turned_1]) H locs → lv_has ls 4 [(2, .int s_1)] → W p l e rmX10_turn s m args below meth c H locs 0 0 Q (F0 m 138 ls [])) ?_ ?_
      · intro m_right_1 m_down_1 hf H locs ls ⟨hP, hD, hS⟩ hl
        refine lv_iload_n hx hb dX10_turn_138 rfl (lv_at hl 0 rfl) ?_
        cases qob_ret hf
        exact ct_iret X hQ hK hP hD hS rfl dX10_turn_139
      · intro J6 hJ6 hf
        refine qwalk3 (fun (x3_1 : Int32) (m_right_2 : Nat → Int32) (m_down_2 : Nat → Int32) => ∀ (H : Heap) (locs : List Loc) (ls : Array Slot), ctW D A s ([oX10 mo ma 0 m_textSize m_turnedRows_1 m_turnedColumns_1 r_2 r_3 m_readRows m_readColumns m_at m_looks m_came m_draw m_turnedRows_1 m_turnedColumns_1, aZ cy (ma 1) 36 m_right_2, aZ cy (ma 2) 36 m_down_2, aI cy (ma 19) 36 m_turned_1]) H locs → lv_has ls 4 [(0, .ref mo), (2, .int s_1), (3, .int x3_1)] → W p l e rmX10_turn s m args below meth c H locs 0 0 Q (F0 m 82 ls [])) ?_ _ (0 : Int32) m_right m_down hf _ _ _ ⟨hP, hD, hS⟩ (lv_sub hl [2, 1, 0] rfl)
        intro J7 hL7 x3_1 m_right_2 m_down_2 hf H locs ls ⟨hP, hD, hS⟩ hl
        refine lv_iload_n hx hb dX10_turn_82 rfl (lv_at hl 2 rfl) ?_
        refine lv_bipush (v := 36) hx hb dX10_turn_83 (by decide) ?_
        refine lv_icmp_ge (tgt := 138) hx hb dX10_turn_85 (by decide) (fun c8 => ?_) (fun c8 => ?_)
        · have hf := qob_t hf c8
          have hf := qob_esc hf
          exact hJ6 m_right_2 m_down_2 hf _ _ _ ⟨hP, hD, hS⟩ (lv_sub hl [1] rfl)
        · have hf := qob_f hf c8
          refine lv_aload_n hx hb dX10_turn_88 rfl (lv_at hl 0 rfl) ?_
          refine va_get (D := D) (ci := 10) (v := .ref (ma 1)) (C := RX10) (T := TX10) (N := 34) hx hb hts inwX10_turn_X10 hown hK hP 0 rfl rfl 5 (by decide) (hts (.fieldLink RX10 20 "HedgeWaysModel" "right" "[Z") (List.mem_of_getElem? (i := 9) rfl)) (fun _ h9 => h9) rfl dX10_turn_89 ?_
          refine lv_iload_n hx hb dX10_turn_92 rfl (lv_at hl 2 rfl) ?_
          refine lv_aload_n hx hb dX10_turn_93 rfl (lv_at hl 0 rfl) ?_
          refine va_get (D := D) (ci := 10) (v := .ref (ma 19)) (C := RX10) (T := TX10) (N := 34) hx hb hts inwX10_turn_X10 hown hK hP 0 rfl rfl 31 (by decide) (hts (.fieldLink RX10 76 "HedgeWaysModel" "turned" "[I") (List.mem_of_getElem? (i := 10) rfl)) (fun _ h9 => h9) rfl dX10_turn_94 ?_
          refine lv_iload_n hx hb dX10_turn_97 rfl (lv_at hl 2 rfl) ?_
          obtain ⟨i9, hf⟩ := qob_gd hf
          refine va_iald hx hb hK hP 3 0 rfl rfl i9 dX10_turn_98 ?_
          refine lv_iconst (v := 2) hx hb dX10_turn_99 (by decide) ?_
          refine lv_irem hx hb dX10_turn_100 (by decide) ?_
          refine lv_iconst (v := 1) hx hb dX10_turn_101 (by decide) ?_
          refine qjoin1 hf (fun (s_2 : Int32) => ∀ (H : Heap) (locs : List Loc) (ls : Array Slot), ctW D A s ([oX10 mo ma 0 m_textSize m_turnedRows_1 m_turnedColumns_1 r_2 r_3 m_readRows m_readColumns m_at m_looks m_came m_draw m_turnedRows_1 m_turnedColumns_1, aZ cy (ma 1) 36 m_right_2, aZ cy (ma 2) 36 m_down_2, aI cy (ma 19) 36 m_turned_1]) H locs → lv_has ls 4 [(0, .ref mo), (2, .int s_1), (3, .int x3_1)] → W p l e rmX10_turn s m args below meth c H locs 0 0 Q (F0 m 110 ls [.int s_2, .int x3_1, .ref (ma 1)])) ?_ ?_
          · intro s_2 hf H locs ls ⟨hP, hD, hS⟩ hl
            obtain ⟨i10, hf⟩ := qob_gd hf
            refine va_zast hx hb hK hP hD hS 1 2 rfl rfl i10 dX10_turn_110 (fun H locs hP hD hS => ?_)
            have hP : va_P D vwCl ([oX10 mo ma 0 m_textSize m_turnedRows_1 m_turnedColumns_1 r_2 r_3 m_readRows m_readColumns m_at m_looks m_came m_draw m_turnedRows_1 m_turnedColumns_1, aZ cy (ma 1) 36 (upd m_right_2 x3_1.toNatClampNeg (qnb s_2)), aZ cy (ma 2) 36 m_down_2, aI cy (ma 19) 36 m_turned_1]) H := hP
            have hD : va_D A ([oX10 mo ma 0 m_textSize m_turnedRows_1 m_turnedColumns_1 r_2 r_3 m_readRows m_readColumns m_at m_looks m_came m_draw m_turnedRows_1 m_turnedColumns_1, aZ cy (ma 1) 36 (upd m_right_2 x3_1.toNatClampNeg (qnb s_2)), aZ cy (ma 2) 36 m_down_2, aI cy (ma 19) 36 m_turned_1]) := hD
            refine lv_aload_n hx hb dX10_turn_111 rfl (lv_at hl 0 rfl) ?_
            refine va_get (D := D) (ci := 10) (v := .ref (ma 2)) (C := RX10) (T := TX10) (N := 34) hx hb hts inwX10_turn_X10 hown hK hP 0 rfl rfl 6 (by decide) (hts (.fieldLink RX10 24 "HedgeWaysModel" "down" "[Z") (List.mem_of_getElem? (i := 11) rfl)) (fun _ h9 => h9) rfl dX10_turn_112 ?_
            refine lv_iload_n hx hb dX10_turn_115 rfl (lv_at hl 2 rfl) ?_
            refine lv_aload_n hx hb dX10_turn_116 rfl (lv_at hl 0 rfl) ?_
            refine va_get (D := D) (ci := 10) (v := .ref (ma 19)) (C := RX10) (T := TX10) (N := 34) hx hb hts inwX10_turn_X10 hown hK hP 0 rfl rfl 31 (by decide) (hts (.fieldLink RX10 76 "HedgeWaysModel" "turned" "[I") (List.mem_of_getElem? (i := 10) rfl)) (fun _ h9 => h9) rfl dX10_turn_117 ?_
            refine lv_iload_n hx hb dX10_turn_120 rfl (lv_at hl 2 rfl) ?_
            obtain ⟨i11, hf⟩ := qob_gd hf
            refine va_iald hx hb hK hP 3 0 rfl rfl i11 dX10_turn_121 ?_
            refine lv_iconst (v := 1) hx hb dX10_turn_122 (by decide) ?_
            refine lv_icmp_le (tgt := 130) hx hb dX10_turn_123 (by decide) (fun c12 => ?_) (fun c12 => ?_)
            · have hf := qob_t hf c12
              refine lv_iconst (v := 0) hx hb dX10_turn_130 (by decide) ?_
              obtain ⟨i13, hf⟩ := qob_gd hf
              refine va_zast hx hb hK hP hD hS 2 2 rfl rfl i13 dX10_turn_131 (fun H locs hP hD hS => ?_)
              have hP : va_P D vwCl ([oX10 mo ma 0 m_textSize m_turnedRows_1 m_turnedColumns_1 r_2 r_3 m_readRows m_readColumns m_at m_looks m_came m_draw m_turnedRows_1 m_turnedColumns_1, aZ cy (ma 1) 36 (upd m_right_2 x3_1.toNatClampNeg (qnb s_2)), aZ cy (ma 2) 36 (upd m_down_2 x3_1.toNatClampNeg (qnb 0)), aI cy (ma 19) 36 m_turned_1]) H := hP
              have hD : va_D A ([oX10 mo ma 0 m_textSize m_turnedRows_1 m_turnedColumns_1 r_2 r_3 m_readRows m_readColumns m_at m_looks m_came m_draw m_turnedRows_1 m_turnedColumns_1, aZ cy (ma 1) 36 (upd m_right_2 x3_1.toNatClampNeg (qnb s_2)), aZ cy (ma 2) 36 (upd m_down_2 x3_1.toNatClampNeg (qnb 0)), aI cy (ma 19) 36 m_turned_1]) := hD
              refine lv_iinc (v := (x3_1 + 1)) (lv' := [(3, .int (x3_1 + 1)), (0, .ref mo), (2, .int s_1)]) hx hb dX10_turn_132 hl (k := 2) rfl rfl (by decide) rfl (fun ls hl => ?_)
              refine lv_goto (tgt := 82) hx hb dX10_turn_135 (by decide) ?_
              exact hL7 (x3_1 + 1) (upd m_right_2 x3_1.toNatClampNeg (qnb s_2)) (upd m_down_2 x3_1.toNatClampNeg (qnb 0)) hf _ _ _ ⟨hP, hD, hS⟩ (lv_sub hl [1, 2, 0] rfl)
            · have hf := qob_f hf c12
              refine lv_iconst (v := 1) hx hb dX10_turn_126 (by decide) ?_
              refine lv_goto (tgt := 131) hx hb dX10_turn_127 (by decide) ?_
              obtain ⟨i14, hf⟩ := qob_gd hf
              refine va_zast hx hb hK hP hD hS 2 2 rfl rfl i14 dX10_turn_131 (fun H locs hP hD hS => ?_)
              have hP : va_P D vwCl ([oX10 mo ma 0 m_textSize m_turnedRows_1 m_turnedColumns_1 r_2 r_3 m_readRows m_readColumns m_at m_looks m_came m_draw m_turnedRows_1 m_turnedColumns_1, aZ cy (ma 1) 36 (upd m_right_2 x3_1.toNatClampNeg (qnb s_2)), aZ cy (ma 2) 36 (upd m_down_2 x3_1.toNatClampNeg (qnb 1)), aI cy (ma 19) 36 m_turned_1]) H := hP
              have hD : va_D A ([oX10 mo ma 0 m_textSize m_turnedRows_1 m_turnedColumns_1 r_2 r_3 m_readRows m_readColumns m_at m_looks m_came m_draw m_turnedRows_1 m_turnedColumns_1, aZ cy (ma 1) 36 (upd m_right_2 x3_1.toNatClampNeg (qnb s_2)), aZ cy (ma 2) 36 (upd m_down_2 x3_1.toNatClampNeg (qnb 1)), aI cy (ma 19) 36 m_turned_1]) := hD
              refine lv_iinc (v := (x3_1 + 1)) (lv' := [(3, .int (x3_1 + 1)), (0, .ref mo), (2, .int s_1)]) hx hb dX10_turn_132 hl (k := 2) rfl rfl (by decide) rfl (fun ls hl => ?_)
              refine lv_goto (tgt := 82) hx hb dX10_turn_135 (by decide) ?_
              exact hL7 (x3_1 + 1) (upd m_right_2 x3_1.toNatClampNeg (qnb s_2)) (upd m_down_2 x3_1.toNatClampNeg (qnb 1)) hf _ _ _ ⟨hP, hD, hS⟩ (lv_sub hl [1, 2, 0] rfl)
          · intro J15 hJ15 hf
            refine lv_icmp_ne (tgt := 109) hx hb dX10_turn_102 (by decide) (fun c16 => ?_) (fun c16 => ?_)
            · have hf := qob_f hf c16
              refine lv_iconst (v := 0) hx hb dX10_turn_109 (by decide) ?_
              exact hJ15 0 hf _ _ _ ⟨hP, hD, hS⟩ hl
            · have hf := qob_t hf c16
              refine lv_iconst (v := 1) hx hb dX10_turn_105 (by decide) ?_
              refine lv_goto (tgt := 110) hx hb dX10_turn_106 (by decide) ?_
              exact hJ15 1 hf _ _ _ ⟨hP, hD, hS⟩ hl
    · intro J17 hJ17 hf
      refine lv_if_eq (tgt := 36) hx hb dX10_turn_29 (by decide) (fun c18 => ?_) (fun c18 => ?_)
      · have hf := qob_t hf c18
        refine lv_iconst (v := 1) hx hb dX10_turn_36 (by decide) ?_
        exact hJ17 1 hf _ _ _ ⟨hP, hD, hS⟩ hl
      · have hf := qob_f hf c18
        refine lv_iconst (v := 0) hx hb dX10_turn_32 (by decide) ?_
        refine lv_goto (tgt := 37) hx hb dX10_turn_33 (by decide) ?_
        exact hJ17 0 hf _ _ _ ⟨hP, hD, hS⟩ hl
  · have hf := qob_t hf c1
    refine lv_bipush (v := (-2)) hx hb dX10_turn_17 (by decide) ?_
    cases qob_ret hf
    exact ct_iret X hQ hK hP hD hS rfl dX10_turn_19
theorem inwX10_keep_X10 : ∀ w ∈ wsX100, w ∈ wsX10_keep := fun _ h => List.mem_cons_of_mem _ (List.mem_append_right _ h)
abbrev rmX10_keep : Room := { frames := 1, cells := 0, slots := 0, locals := 25 }
theorem hdX10_keep : yX10_keep.cls = RX10 ∧ yX10_keep.cls ≠ "java/lang/invoke/MethodHandle" ∧ yX10_keep.cls ≠ "java/lang/invoke/VarHandle" ∧ (parseMethodDescriptor yX10_keep.desc).map (fun d => d.parameters.length) = some 1 := by decide +kernel
set_option maxHeartbeats 4000000 in
set_option maxRecDepth 100000 in
theorem KX10_keep {l : Launch} {D : va_G} {cy : Nat → ClassId} {mo : Nat} {ma : Nat → Nat} {m_thrown : Int32} {m_textSize : Int32} {m_rows : Int32} {m_columns : Int32} {m_a : Int32} {m_b : Int32} {m_readRows : Int32} {m_readColumns : Int32} {m_at : Int32} {m_looks : Int32} {m_came : Int32} {m_draw : Int64} {m_turnedRows : Int32} {m_turnedColumns : Int32} {m_right : Nat → Int32} {m_down : Nat → Int32} {m_keptFigures : Nat → Int32} {m_keptNumbers : Nat → Int32} {m_isKept : Nat → Int32} {p1 : Int32} {r : Int32} {m_thrown' : Int32} {m_keptFigures' : Nat → Int32} {m_keptNumbers' : Nat → Int32} {m_isKept' : Nat → Int32} (hf : fX10_keep m_thrown m_rows m_columns m_a m_b m_right m_down m_keptFigures m_keptNumbers m_isKept p1 = some (r, m_thrown', m_keptFigures', m_keptNumbers', m_isKept')) : CtI l yX10_keep wsX10_keep rmX10_keep D cy [.ref mo, .int p1] ([oX10 mo ma m_thrown m_textSize m_rows m_columns m_a m_b m_readRows m_readColumns m_at m_looks m_came m_draw m_turnedRows m_turnedColumns, aZ cy (ma 1) 36 m_right, aZ cy (ma 2) 36 m_down, aI cy (ma 4) 72 m_keptFigures, aI cy (ma 5) 8 m_keptNumbers, aZ cy (ma 6) 2 m_isKept]) ([oX10 mo ma m_thrown' m_textSize m_rows m_columns m_a m_b m_readRows m_readColumns m_at m_looks m_came m_draw m_turnedRows m_turnedColumns, aZ cy (ma 1) 36 m_right, aZ cy (ma 2) 36 m_down, aI cy (ma 4) 72 m_keptFigures', aI cy (ma 5) 8 m_keptNumbers', aZ cy (ma 6) 2 m_isKept']) r := by
  refine CtI.of (cc := cX10_keep) (maxL := 3) (ret := some .int) (own := RX10) (by decide) rfl rfl (Nat.le_of_ble_eq_true rfl) ?_
  intro p e s m args below meth c A Q X hQ hK hP hD hS ls hl
  obtain ⟨hx, hb, hml, hown, hts, hr, hlocks, hA, hZ⟩ := id X
  have hl : lv_has ls 3 [(0, .ref mo), (1, .int p1)] := hl
  unfold fX10_keep at hf
  have hf := qob_top hf
  refine lv_aload_n hx hb dX10_keep_0 rfl (lv_at hl 0 rfl) ?_
  refine lv_iconst (v := 0) hx hb dX10_keep_1 (by decide) ?_
  refine va_put (D := D) (ci := 10) (v := .int 0) (ty := .int) (C := RX10) (T := TX10) (N := 34) hx hb hts inwX10_keep_X10 tyX10 tyX10_ok nmX10 hown hK hP hD hS 0 rfl rfl 0 (by decide) (hts (.fieldLink RX10 79 "HedgeWaysModel" "thrown" "I") (List.mem_of_getElem? (i := 1) rfl)) (fun _ h9 => h9) rfl (tyX10_ok 0 (by decide)) rfl rfl (Nat.le_of_ble_eq_true rfl) dX10_keep_2 (fun H locs hP hD hS => ?_)
  have hP : va_P D vwCl ([oX10 mo ma 0 m_textSize m_rows m_columns m_a m_b m_readRows m_readColumns m_at m_looks m_came m_draw m_turnedRows m_turnedColumns, aZ cy (ma 1) 36 m_right, aZ cy (ma 2) 36 m_down, aI cy (ma 4) 72 m_keptFigures, aI cy (ma 5) 8 m_keptNumbers, aZ cy (ma 6) 2 m_isKept]) H := hP
  have hD : va_D A ([oX10 mo ma 0 m_textSize m_rows m_columns m_a m_b m_readRows m_readColumns m_at m_looks m_came m_draw m_turnedRows m_turnedColumns, aZ cy (ma 1) 36 m_right, aZ cy (ma 2) 36 m_down, aI cy (ma 4) 72 m_keptFigures, aI cy (ma 5) 8 m_keptNumbers, aZ cy (ma 6) 2 m_isKept]) := hD
  refine lv_iload_n hx hb dX10_keep_5 rfl (lv_at hl 1 rfl) ?_
  refine lv_i2l (v := p1.toInt64) hx hb dX10_keep_6 rfl ?_
  refine lv_lconst (v := 0) hx hb dX10_keep_7 (by decide) ?_
  refine lv_lconst (v := 1) hx hb dX10_keep_8 (by decide) ?_
  refine ctS_i0 (r := (fX10_in p1.toInt64 0 1)) (wc := []) (As := [.long p1.toInt64, .long 0, .long 1]) (rest := []) X hK hP hD hS [] rfl rfl rfl (KX10_in rfl _) (va_cwS 3 hts gX10_keep_X10_in rfl rfl rfl hdX10_in ⟨Nat.le_of_ble_eq_true rfl, Nat.le_of_ble_eq_true rfl⟩) rfl hl rfl (Nat.le_of_ble_eq_true rfl) dX10_keep_9 (Nat.zero_le _) (Nat.zero_le _) (fun H locs hP hS => ?_)
  refine lv_if_ne (tgt := 17) hx hb dX10_keep_12 (by decide) (fun c1 => ?_) (fun c1 => ?_)
  · have hf := qob_f hf c1
    refine lv_aload_n hx hb dX10_keep_17 rfl (lv_at hl 0 rfl) ?_
    refine va_get (D := D) (ci := 10) (v := .ref (ma 6)) (C := RX10) (T := TX10) (N := 34) hx hb hts inwX10_keep_X10 hown hK hP 0 rfl rfl 14 (by decide) (hts (.fieldLink RX10 36 "HedgeWaysModel" "isKept" "[Z") (List.mem_of_getElem? (i := 2) rfl)) (fun _ h9 => h9) rfl dX10_keep_18 ?_
    refine lv_iload_n hx hb dX10_keep_21 rfl (lv_at hl 1 rfl) ?_
    refine lv_iconst (v := 1) hx hb dX10_keep_22 (by decide) ?_
    obtain ⟨i2, hf⟩ := qob_gd hf
    refine va_zast hx hb hK hP hD hS 5 2 rfl rfl i2 dX10_keep_23 (fun H locs hP hD hS => ?_)
    have hP : va_P D vwCl ([oX10 mo ma 0 m_textSize m_rows m_columns m_a m_b m_readRows m_readColumns m_at m_looks m_came m_draw m_turnedRows m_turnedColumns, aZ cy (ma 1) 36 m_right, aZ cy (ma 2) 36 m_down, aI cy (ma 4) 72 m_keptFigures, aI cy (ma 5) 8 m_keptNumbers, aZ cy (ma 6) 2 (upd m_isKept p1.toNatClampNeg (qnb 1))]) H := hP
    have hD : va_D A ([oX10 mo ma 0 m_textSize m_rows m_columns m_a m_b m_readRows m_readColumns m_at m_looks m_came m_draw m_turnedRows m_turnedColumns, aZ cy (ma 1) 36 m_right, aZ cy (ma 2) 36 m_down, aI cy (ma 4) 72 m_keptFigures, aI cy (ma 5) 8 m_keptNumbers, aZ cy (ma 6) 2 (upd m_isKept p1.toNatClampNeg (qnb 1))]) := hD
    refine lv_iconst (v := 0) hx hb dX10_keep_24 (by decide) ?_
    refine lv_istore_n (lv' := [(2, .int 0), (0, .ref mo), (1, .int p1)]) hx hb dX10_keep_25 rfl hl (by decide) rfl (fun ls hl => ?_)
    refine qjoin1 hf (fun (m_keptFigures_1 : Nat → Int32) => ∀ (H : Heap) (locs : List Loc) (ls : Array Slot), ctW D A s ([oX10 mo ma 0 m_textSize m_rows m_columns m_a m_b m_readRows m_readColumns m_at m_looks m_came m_draw m_turnedRows m_turnedColumns, aZ cy (ma 1) 36 m_right, aZ cy (ma 2) 36 m_down, aI cy (ma 4) 72 m_keptFigures_1, aI cy (ma 5) 8 m_keptNumbers, aZ cy (ma 6) 2 (upd m_isKept p1.toNatClampNeg (qnb 1))]) H locs → lv_has ls 3 [(0, .ref mo), (1, .int p1)] → W p l e rmX10_keep s m args below meth c H locs 0 0 Q (F0 m 54 ls [])) ?_ ?_
    · intro m_keptFigures_1 hf H locs ls ⟨hP, hD, hS⟩ hl
      refine lv_aload_n hx hb dX10_keep_54 rfl (lv_at hl 0 rfl) ?_
      refine va_get (D := D) (ci := 10) (v := .ref (ma 5)) (C := RX10) (T := TX10) (N := 34) hx hb hts inwX10_keep_X10 hown hK hP 0 rfl rfl 13 (by decide) (hts (.fieldLink RX10 33 "HedgeWaysModel" "keptNumbers" "[I") (List.mem_of_getElem? (i := 4) rfl)) (fun _ h9 => h9) rfl dX10_keep_55 ?_
      refine lv_iconst (v := 4) hx hb dX10_keep_58 (by decide) ?_
      refine lv_iload_n hx hb dX10_keep_59 rfl (lv_at hl 1 rfl) ?_
      refine lv_imul hx hb dX10_keep_60 ?_
      refine lv_aload_n hx hb dX10_keep_61 rfl (lv_at hl 0 rfl) ?_
      refine va_get (D := D) (ci := 10) (v := .int m_rows) (C := RX10) (T := TX10) (N := 34) hx hb hts inwX10_keep_X10 hown hK hP 0 rfl rfl 3 (by decide) (hts (.fieldLink RX10 13 "HedgeWaysModel" "rows" "I") (List.mem_of_getElem? (i := 5) rfl)) (fun _ h9 => h9) rfl dX10_keep_62 ?_
      obtain ⟨i3, hf⟩ := qob_gd hf
      refine va_iast hx hb hK hP hD hS 4 0 rfl rfl i3 dX10_keep_65 (fun H locs hP hD hS => ?_)
      have hP : va_P D vwCl ([oX10 mo ma 0 m_textSize m_rows m_columns m_a m_b m_readRows m_readColumns m_at m_looks m_came m_draw m_turnedRows m_turnedColumns, aZ cy (ma 1) 36 m_right, aZ cy (ma 2) 36 m_down, aI cy (ma 4) 72 m_keptFigures_1, aI cy (ma 5) 8 (upd m_keptNumbers ((4 * p1)).toNatClampNeg m_rows), aZ cy (ma 6) 2 (upd m_isKept p1.toNatClampNeg (qnb 1))]) H := hP
      have hD : va_D A ([oX10 mo ma 0 m_textSize m_rows m_columns m_a m_b m_readRows m_readColumns m_at m_looks m_came m_draw m_turnedRows m_turnedColumns, aZ cy (ma 1) 36 m_right, aZ cy (ma 2) 36 m_down, aI cy (ma 4) 72 m_keptFigures_1, aI cy (ma 5) 8 (upd m_keptNumbers ((4 * p1)).toNatClampNeg m_rows), aZ cy (ma 6) 2 (upd m_isKept p1.toNatClampNeg (qnb 1))]) := hD
      refine lv_aload_n hx hb dX10_keep_66 rfl (lv_at hl 0 rfl) ?_
      refine va_get (D := D) (ci := 10) (v := .ref (ma 5)) (C := RX10) (T := TX10) (N := 34) hx hb hts inwX10_keep_X10 hown hK hP 0 rfl rfl 13 (by decide) (hts (.fieldLink RX10 33 "HedgeWaysModel" "keptNumbers" "[I") (List.mem_of_getElem? (i := 4) rfl)) (fun _ h9 => h9) rfl dX10_keep_67 ?_
      refine lv_iconst (v := 4) hx hb dX10_keep_70 (by decide) ?_
      refine lv_iload_n hx hb dX10_keep_71 rfl (lv_at hl 1 rfl) ?_
      refine lv_imul hx hb dX10_keep_72 ?_
      refine lv_iconst (v := 1) hx hb dX10_keep_73 (by decide) ?_
      refine lv_iadd hx hb dX10_keep_74 ?_
      refine lv_aload_n hx hb dX10_keep_75 rfl (lv_at hl 0 rfl) ?_
      refine va_get (D := D) (ci := 10) (v := .int m_columns) (C := RX10) (T := TX10) (N := 34) hx hb hts inwX10_keep_X10 hown hK hP 0 rfl rfl 4 (by decide) (hts (.fieldLink RX10 17 "HedgeWaysModel" "columns" "I") (List.mem_of_getElem? (i := 6) rfl)) (fun _ h9 => h9) rfl dX10_keep_76 ?_
      obtain ⟨i4, hf⟩ := qob_gd hf
      obtain ⟨m_keptNumbers_1, e5⟩ : ∃ z, z = (upd (upd m_keptNumbers ((4 * p1)).toNatClampNeg m_rows) (((4 * p1) + 1)).toNatClampNeg m_columns) := ⟨_, rfl⟩
      have hf := qob_bd hf e5
      refine va_iast hx hb hK hP hD hS 4 0 rfl rfl i4 dX10_keep_79 (fun H locs hP hD hS => ?_)
      have hP : va_P D vwCl ([oX10 mo ma 0 m_textSize m_rows m_columns m_a m_b m_readRows m_readColumns m_at m_looks m_came m_draw m_turnedRows m_turnedColumns, aZ cy (ma 1) 36 m_right, aZ cy (ma 2) 36 m_down, aI cy (ma 4) 72 m_keptFigures_1, aI cy (ma 5) 8 m_keptNumbers_1, aZ cy (ma 6) 2 (upd m_isKept p1.toNatClampNeg (qnb 1))]) H := by rw [e5]; exact hP
      have hD : va_D A ([oX10 mo ma 0 m_textSize m_rows m_columns m_a m_b m_readRows m_readColumns m_at m_looks m_came m_draw m_turnedRows m_turnedColumns, aZ cy (ma 1) 36 m_right, aZ cy (ma 2) 36 m_down, aI cy (ma 4) 72 m_keptFigures_1, aI cy (ma 5) 8 m_keptNumbers_1, aZ cy (ma 6) 2 (upd m_isKept p1.toNatClampNeg (qnb 1))]) := by rw [e5]; exact hD
      refine lv_aload_n hx hb dX10_keep_80 rfl (lv_at hl 0 rfl) ?_
      refine va_get (D := D) (ci := 10) (v := .ref (ma 5)) (C := RX10) (T := TX10) (N := 34) hx hb hts inwX10_keep_X10 hown hK hP 0 rfl rfl 13 (by decide) (hts (.fieldLink RX10 33 "HedgeWaysModel" "keptNumbers" "[I") (List.mem_of_getElem? (i := 4) rfl)) (fun _ h9 => h9) rfl dX10_keep_81 ?_
      refine lv_iconst (v := 4) hx hb dX10_keep_84 (by decide) ?_
      refine lv_iload_n hx hb dX10_keep_85 rfl (lv_at hl 1 rfl) ?_
      refine lv_imul hx hb dX10_keep_86 ?_
      refine lv_iconst (v := 2) hx hb dX10_keep_87 (by decide) ?_
      refine lv_iadd hx hb dX10_keep_88 ?_
      refine lv_aload_n hx hb dX10_keep_89 rfl (lv_at hl 0 rfl) ?_
      refine va_get (D := D) (ci := 10) (v := .int m_a) (C := RX10) (T := TX10) (N := 34) hx hb hts inwX10_keep_X10 hown hK hP 0 rfl rfl 7 (by decide) (hts (.fieldLink RX10 103 "HedgeWaysModel" "a" "I") (List.mem_of_getElem? (i := 7) rfl)) (fun _ h9 => h9) rfl dX10_keep_90 ?_
      obtain ⟨i6, hf⟩ := qob_gd hf
      refine va_iast hx hb hK hP hD hS 4 0 rfl rfl i6 dX10_keep_93 (fun H locs hP hD hS => ?_)
      have hP : va_P D vwCl ([oX10 mo ma 0 m_textSize m_rows m_columns m_a m_b m_readRows m_readColumns m_at m_looks m_came m_draw m_turnedRows m_turnedColumns, aZ cy (ma 1) 36 m_right, aZ cy (ma 2) 36 m_down, aI cy (ma 4) 72 m_keptFigures_1, aI cy (ma 5) 8 (upd m_keptNumbers_1 (((4 * p1) + 2)).toNatClampNeg m_a), aZ cy (ma 6) 2 (upd m_isKept p1.toNatClampNeg (qnb 1))]) H := hP
      have hD : va_D A ([oX10 mo ma 0 m_textSize m_rows m_columns m_a m_b m_readRows m_readColumns m_at m_looks m_came m_draw m_turnedRows m_turnedColumns, aZ cy (ma 1) 36 m_right, aZ cy (ma 2) 36 m_down, aI cy (ma 4) 72 m_keptFigures_1, aI cy (ma 5) 8 (upd m_keptNumbers_1 (((4 * p1) + 2)).toNatClampNeg m_a), aZ cy (ma 6) 2 (upd m_isKept p1.toNatClampNeg (qnb 1))]) := hD
      refine lv_aload_n hx hb dX10_keep_94 rfl (lv_at hl 0 rfl) ?_
      refine va_get (D := D) (ci := 10) (v := .ref (ma 5)) (C := RX10) (T := TX10) (N := 34) hx hb hts inwX10_keep_X10 hown hK hP 0 rfl rfl 13 (by decide) (hts (.fieldLink RX10 33 "HedgeWaysModel" "keptNumbers" "[I") (List.mem_of_getElem? (i := 4) rfl)) (fun _ h9 => h9) rfl dX10_keep_95 ?_
      refine lv_iconst (v := 4) hx hb dX10_keep_98 (by decide) ?_
      refine lv_iload_n hx hb dX10_keep_99 rfl (lv_at hl 1 rfl) ?_
      refine lv_imul hx hb dX10_keep_100 ?_
      refine lv_iconst (v := 3) hx hb dX10_keep_101 (by decide) ?_
      refine lv_iadd hx hb dX10_keep_102 ?_
      refine lv_aload_n hx hb dX10_keep_103 rfl (lv_at hl 0 rfl) ?_
      refine va_get (D := D) (ci := 10) (v := .int m_b) (C := RX10) (T := TX10) (N := 34) hx hb hts inwX10_keep_X10 hown hK hP 0 rfl rfl 8 (by decide) (hts (.fieldLink RX10 106 "HedgeWaysModel" "b" "I") (List.mem_of_getElem? (i := 8) rfl)) (fun _ h9 => h9) rfl dX10_keep_104 ?_
      obtain ⟨i7, hf⟩ := qob_gd hf
      obtain ⟨m_keptNumbers_2, e8⟩ : ∃ z, z = (upd (upd m_keptNumbers_1 (((4 * p1) + 2)).toNatClampNeg m_a) (((4 * p1) + 3)).toNatClampNeg m_b) := ⟨_, rfl⟩
      have hf := qob_bd hf e8
      refine va_iast hx hb hK hP hD hS 4 0 rfl rfl i7 dX10_keep_107 (fun H locs hP hD hS => ?_)
      have hP : va_P D vwCl ([oX10 mo ma 0 m_textSize m_rows m_columns m_a m_b m_readRows m_readColumns m_at m_looks m_came m_draw m_turnedRows m_turnedColumns, aZ cy (ma 1) 36 m_right, aZ cy (ma 2) 36 m_down, aI cy (ma 4) 72 m_keptFigures_1, aI cy (ma 5) 8 m_keptNumbers_2, aZ cy (ma 6) 2 (upd m_isKept p1.toNatClampNeg (qnb 1))]) H := by rw [e8]; exact hP
      have hD : va_D A ([oX10 mo ma 0 m_textSize m_rows m_columns m_a m_b m_readRows m_readColumns m_at m_looks m_came m_draw m_turnedRows m_turnedColumns, aZ cy (ma 1) 36 m_right, aZ cy (ma 2) 36 m_down, aI cy (ma 4) 72 m_keptFigures_1, aI cy (ma 5) 8 m_keptNumbers_2, aZ cy (ma 6) 2 (upd m_isKept p1.toNatClampNeg (qnb 1))]) := by rw [e8]; exact hD
      refine lv_aload_n hx hb dX10_keep_108 rfl (lv_at hl 0 rfl) ?_
      refine va_get (D := D) (ci := 10) (v := .int m_rows) (C := RX10) (T := TX10) (N := 34) hx hb hts inwX10_keep_X10 hown hK hP 0 rfl rfl 3 (by decide) (hts (.fieldLink RX10 13 "HedgeWaysModel" "rows" "I") (List.mem_of_getElem? (i := 5) rfl)) (fun _ h9 => h9) rfl dX10_keep_109 ?_
      refine lv_aload_n hx hb dX10_keep_112 rfl (lv_at hl 0 rfl) ?_
      refine va_get (D := D) (ci := 10) (v := .int m_columns) (C := RX10) (T := TX10) (N := 34) hx hb hts inwX10_keep_X10 hown hK hP 0 rfl rfl 4 (by decide) (hts (.fieldLink RX10 17 "HedgeWaysModel" "columns" "I") (List.mem_of_getElem? (i := 6) rfl)) (fun _ h9 => h9) rfl dX10_keep_113 ?_
      refine lv_imul hx hb dX10_keep_116 ?_
      cases qob_ret hf
      exact ct_iret X hQ hK hP hD hS rfl dX10_keep_117
    · intro J9 hJ9 hf
      refine qwalk2 (fun (x2_1 : Int32) (m_keptFigures_2 : Nat → Int32) => ∀ (H : Heap) (locs : List Loc) (ls : Array Slot), ctW D A s ([oX10 mo ma 0 m_textSize m_rows m_columns m_a m_b m_readRows m_readColumns m_at m_looks m_came m_draw m_turnedRows m_turnedColumns, aZ cy (ma 1) 36 m_right, aZ cy (ma 2) 36 m_down, aI cy (ma 4) 72 m_keptFigures_2, aI cy (ma 5) 8 m_keptNumbers, aZ cy (ma 6) 2 (upd m_isKept p1.toNatClampNeg (qnb 1))]) H locs → lv_has ls 3 [(0, .ref mo), (1, .int p1), (2, .int x2_1)] → W p l e rmX10_keep s m args below meth c H locs 0 0 Q (F0 m 26 ls [])) ?_ _ (0 : Int32) m_keptFigures hf _ _ _ ⟨hP, hD, hS⟩ (lv_sub hl [1, 2, 0] rfl)
      intro J10 hL10 x2_1 m_keptFigures_2 hf H locs ls ⟨hP, hD, hS⟩ hl
      refine lv_iload_n hx hb dX10_keep_26 rfl (lv_at hl 2 rfl) ?_
      refine lv_bipush (v := 36) hx hb dX10_keep_27 (by decide) ?_
      refine lv_icmp_ge (tgt := 54) hx hb dX10_keep_29 (by decide) (fun c11 => ?_) (fun c11 => ?_)
      · have hf := qob_t hf c11
        have hf := qob_esc hf
        exact hJ9 m_keptFigures_2 hf _ _ _ ⟨hP, hD, hS⟩ (lv_sub hl [0, 1] rfl)
      · have hf := qob_f hf c11
        refine lv_aload_n hx hb dX10_keep_32 rfl (lv_at hl 0 rfl) ?_
        refine va_get (D := D) (ci := 10) (v := .ref (ma 4)) (C := RX10) (T := TX10) (N := 34) hx hb hts inwX10_keep_X10 hown hK hP 0 rfl rfl 12 (by decide) (hts (.fieldLink RX10 30 "HedgeWaysModel" "keptFigures" "[I") (List.mem_of_getElem? (i := 3) rfl)) (fun _ h9 => h9) rfl dX10_keep_33 ?_
        refine lv_bipush (v := 36) hx hb dX10_keep_36 (by decide) ?_
        refine lv_iload_n hx hb dX10_keep_38 rfl (lv_at hl 1 rfl) ?_
        refine lv_imul hx hb dX10_keep_39 ?_
        refine lv_iload_n hx hb dX10_keep_40 rfl (lv_at hl 2 rfl) ?_
        refine lv_iadd hx hb dX10_keep_41 ?_
        refine lv_aload_n hx hb dX10_keep_42 rfl (lv_at hl 0 rfl) ?_
        refine lv_iload_n hx hb dX10_keep_43 rfl (lv_at hl 2 rfl) ?_
        obtain ⟨r_1, q12, hf⟩ := qcall1 hf
        refine ctV_i0 (r := r_1) (wc := [oX10 mo ma 0 m_textSize m_rows m_columns m_a m_b m_readRows m_readColumns m_at m_looks m_came m_draw m_turnedRows m_turnedColumns, aZ cy (ma 1) 36 m_right, aZ cy (ma 2) 36 m_down]) (As := [.int x2_1]) (rest := [.int ((36 * p1) + x2_1), .ref (ma 4)]) (q0 := 0) X hK hP hD hS [0, 1, 2] rfl rfl rfl (KX10_figureOf q12 _) (cwV 1 hts gX10_keep_X10_figureOf rfl rfl rfl hdX10_figureOf ⟨Nat.le_of_ble_eq_true rfl, Nat.le_of_ble_eq_true rfl⟩) rfl rfl rfl hl rfl (Nat.le_of_ble_eq_true rfl) dX10_keep_44 (Nat.zero_le _) (Nat.zero_le _) (fun H locs hP hS => ?_)
        obtain ⟨i13, hf⟩ := qob_gd hf
        refine va_iast hx hb hK hP hD hS 3 0 rfl rfl i13 dX10_keep_47 (fun H locs hP hD hS => ?_)
        have hP : va_P D vwCl ([oX10 mo ma 0 m_textSize m_rows m_columns m_a m_b m_readRows m_readColumns m_at m_looks m_came m_draw m_turnedRows m_turnedColumns, aZ cy (ma 1) 36 m_right, aZ cy (ma 2) 36 m_down, aI cy (ma 4) 72 (upd m_keptFigures_2 (((36 * p1) + x2_1)).toNatClampNeg r_1), aI cy (ma 5) 8 m_keptNumbers, aZ cy (ma 6) 2 (upd m_isKept p1.toNatClampNeg (qnb 1))]) H := hP
        have hD : va_D A ([oX10 mo ma 0 m_textSize m_rows m_columns m_a m_b m_readRows m_readColumns m_at m_looks m_came m_draw m_turnedRows m_turnedColumns, aZ cy (ma 1) 36 m_right, aZ cy (ma 2) 36 m_down, aI cy (ma 4) 72 (upd m_keptFigures_2 (((36 * p1) + x2_1)).toNatClampNeg r_1), aI cy (ma 5) 8 m_keptNumbers, aZ cy (ma 6) 2 (upd m_isKept p1.toNatClampNeg (qnb 1))]) := hD
        refine lv_iinc (v := (x2_1 + 1)) (lv' := [(2, .int (x2_1 + 1)), (0, .ref mo), (1, .int p1)]) hx hb dX10_keep_48 hl (k := 2) rfl rfl (by decide) rfl (fun ls hl => ?_)
        refine lv_goto (tgt := 26) hx hb dX10_keep_51 (by decide) ?_
        exact hL10 (x2_1 + 1) (upd m_keptFigures_2 (((36 * p1) + x2_1)).toNatClampNeg r_1) hf _ _ _ ⟨hP, hD, hS⟩ (lv_sub hl [1, 2, 0] rfl)
  · have hf := qob_t hf c1
    refine lv_iconst (v := (-1)) hx hb dX10_keep_15 (by decide) ?_
    cases qob_ret hf
    exact ct_iret X hQ hK hP hD hS rfl dX10_keep_16
theorem inwX10_again_X10 : ∀ w ∈ wsX100, w ∈ wsX10_again := fun _ h => List.mem_cons_of_mem _ (List.mem_append_right _ h)
abbrev rmX10_again : Room := { frames := 1, cells := 0, slots := 0, locals := 25 }
theorem hdX10_again : yX10_again.cls = RX10 ∧ yX10_again.cls ≠ "java/lang/invoke/MethodHandle" ∧ yX10_again.cls ≠ "java/lang/invoke/VarHandle" ∧ (parseMethodDescriptor yX10_again.desc).map (fun d => d.parameters.length) = some 1 := by decide +kernel
set_option maxHeartbeats 4000000 in
set_option maxRecDepth 100000 in
theorem KX10_again {l : Launch} {D : va_G} {cy : Nat → ClassId} {mo : Nat} {ma : Nat → Nat} {m_thrown : Int32} {m_textSize : Int32} {m_rows : Int32} {m_columns : Int32} {m_a : Int32} {m_b : Int32} {m_readRows : Int32} {m_readColumns : Int32} {m_at : Int32} {m_looks : Int32} {m_came : Int32} {m_draw : Int64} {m_turnedRows : Int32} {m_turnedColumns : Int32} {m_right : Nat → Int32} {m_down : Nat → Int32} {m_keptFigures : Nat → Int32} {m_keptNumbers : Nat → Int32} {m_isKept : Nat → Int32} {p1 : Int32} {r : Int32} {m_thrown' : Int32} {m_rows' : Int32} {m_columns' : Int32} {m_a' : Int32} {m_b' : Int32} {m_right' : Nat → Int32} {m_down' : Nat → Int32} (hf : fX10_again m_thrown m_rows m_columns m_a m_b m_right m_down m_keptFigures m_keptNumbers m_isKept p1 = some (r, m_thrown', m_rows', m_columns', m_a', m_b', m_right', m_down')) : CtI l yX10_again wsX10_again rmX10_again D cy [.ref mo, .int p1] ([oX10 mo ma m_thrown m_textSize m_rows m_columns m_a m_b m_readRows m_readColumns m_at m_looks m_came m_draw m_turnedRows m_turnedColumns, aZ cy (ma 1) 36 m_right, aZ cy (ma 2) 36 m_down, aI cy (ma 4) 72 m_keptFigures, aI cy (ma 5) 8 m_keptNumbers, aZ cy (ma 6) 2 m_isKept]) ([oX10 mo ma m_thrown' m_textSize m_rows' m_columns' m_a' m_b' m_readRows m_readColumns m_at m_looks m_came m_draw m_turnedRows m_turnedColumns, aZ cy (ma 1) 36 m_right', aZ cy (ma 2) 36 m_down', aI cy (ma 4) 72 m_keptFigures, aI cy (ma 5) 8 m_keptNumbers, aZ cy (ma 6) 2 m_isKept]) r := by
  refine CtI.of (cc := cX10_again) (maxL := 3) (ret := some .int) (own := RX10) (by decide) rfl rfl (Nat.le_of_ble_eq_true rfl) ?_
  intro p e s m args below meth c A Q X hQ hK hP hD hS ls hl
  obtain ⟨hx, hb, hml, hown, hts, hr, hlocks, hA, hZ⟩ := id X
  have hl : lv_has ls 3 [(0, .ref mo), (1, .int p1)] := hl
  unfold fX10_again at hf
  have hf := qob_top hf
  refine lv_aload_n hx hb dX10_again_0 rfl (lv_at hl 0 rfl) ?_
  refine lv_iconst (v := 0) hx hb dX10_again_1 (by decide) ?_
  refine va_put (D := D) (ci := 10) (v := .int 0) (ty := .int) (C := RX10) (T := TX10) (N := 34) hx hb hts inwX10_again_X10 tyX10 tyX10_ok nmX10 hown hK hP hD hS 0 rfl rfl 0 (by decide) (hts (.fieldLink RX10 79 "HedgeWaysModel" "thrown" "I") (List.mem_of_getElem? (i := 1) rfl)) (fun _ h9 => h9) rfl (tyX10_ok 0 (by decide)) rfl rfl (Nat.le_of_ble_eq_true rfl) dX10_again_2 (fun H locs hP hD hS => ?_)
  have hP : va_P D vwCl ([oX10 mo ma 0 m_textSize m_rows m_columns m_a m_b m_readRows m_readColumns m_at m_looks m_came m_draw m_turnedRows m_turnedColumns, aZ cy (ma 1) 36 m_right, aZ cy (ma 2) 36 m_down, aI cy (ma 4) 72 m_keptFigures, aI cy (ma 5) 8 m_keptNumbers, aZ cy (ma 6) 2 m_isKept]) H := hP
  have hD : va_D A ([oX10 mo ma 0 m_textSize m_rows m_columns m_a m_b m_readRows m_readColumns m_at m_looks m_came m_draw m_turnedRows m_turnedColumns, aZ cy (ma 1) 36 m_right, aZ cy (ma 2) 36 m_down, aI cy (ma 4) 72 m_keptFigures, aI cy (ma 5) 8 m_keptNumbers, aZ cy (ma 6) 2 m_isKept]) := hD
  refine lv_iload_n hx hb dX10_again_5 rfl (lv_at hl 1 rfl) ?_
  refine lv_i2l (v := p1.toInt64) hx hb dX10_again_6 rfl ?_
  refine lv_lconst (v := 0) hx hb dX10_again_7 (by decide) ?_
  refine lv_lconst (v := 1) hx hb dX10_again_8 (by decide) ?_
  refine ctS_i0 (r := (fX10_in p1.toInt64 0 1)) (wc := []) (As := [.long p1.toInt64, .long 0, .long 1]) (rest := []) X hK hP hD hS [] rfl rfl rfl (KX10_in rfl _) (va_cwS 3 hts gX10_again_X10_in rfl rfl rfl hdX10_in ⟨Nat.le_of_ble_eq_true rfl, Nat.le_of_ble_eq_true rfl⟩) rfl hl rfl (Nat.le_of_ble_eq_true rfl) dX10_again_9 (Nat.zero_le _) (Nat.zero_le _) (fun H locs hP hS => ?_)
  refine lv_if_ne (tgt := 17) hx hb dX10_again_12 (by decide) (fun c1 => ?_) (fun c1 => ?_)
  · have hf := qob_f hf c1
    refine lv_aload_n hx hb dX10_again_17 rfl (lv_at hl 0 rfl) ?_
    refine va_get (D := D) (ci := 10) (v := .ref (ma 6)) (C := RX10) (T := TX10) (N := 34) hx hb hts inwX10_again_X10 hown hK hP 0 rfl rfl 14 (by decide) (hts (.fieldLink RX10 36 "HedgeWaysModel" "isKept" "[Z") (List.mem_of_getElem? (i := 2) rfl)) (fun _ h9 => h9) rfl dX10_again_18 ?_
    refine lv_iload_n hx hb dX10_again_21 rfl (lv_at hl 1 rfl) ?_
    obtain ⟨i2, hf⟩ := qob_gd hf
    refine va_zald hx hb hK hP 5 2 rfl rfl i2 dX10_again_22 ?_
    refine lv_if_ne (tgt := 29) hx hb dX10_again_23 (by decide) (fun c3 => ?_) (fun c3 => ?_)
    · have hf := qob_f hf c3
      refine lv_aload_n hx hb dX10_again_29 rfl (lv_at hl 0 rfl) ?_
      refine lv_aload_n hx hb dX10_again_30 rfl (lv_at hl 0 rfl) ?_
      refine va_get (D := D) (ci := 10) (v := .ref (ma 5)) (C := RX10) (T := TX10) (N := 34) hx hb hts inwX10_again_X10 hown hK hP 0 rfl rfl 13 (by decide) (hts (.fieldLink RX10 33 "HedgeWaysModel" "keptNumbers" "[I") (List.mem_of_getElem? (i := 3) rfl)) (fun _ h9 => h9) rfl dX10_again_31 ?_
      refine lv_iconst (v := 4) hx hb dX10_again_34 (by decide) ?_
      refine lv_iload_n hx hb dX10_again_35 rfl (lv_at hl 1 rfl) ?_
      refine lv_imul hx hb dX10_again_36 ?_
      obtain ⟨i4, hf⟩ := qob_gd hf
      refine va_iald hx hb hK hP 4 0 rfl rfl i4 dX10_again_37 ?_
      refine lv_topi (fun m_rows_1 e5 => ?_)
      have hf := qob_bd hf e5
      refine va_put (D := D) (ci := 10) (v := .int m_rows_1) (ty := .int) (C := RX10) (T := TX10) (N := 34) hx hb hts inwX10_again_X10 tyX10 tyX10_ok nmX10 hown hK hP hD hS 0 rfl rfl 3 (by decide) (hts (.fieldLink RX10 13 "HedgeWaysModel" "rows" "I") (List.mem_of_getElem? (i := 4) rfl)) (fun _ h9 => h9) rfl (tyX10_ok 3 (by decide)) rfl rfl (Nat.le_of_ble_eq_true rfl) dX10_again_38 (fun H locs hP hD hS => ?_)
      have hP : va_P D vwCl ([oX10 mo ma 0 m_textSize m_rows_1 m_columns m_a m_b m_readRows m_readColumns m_at m_looks m_came m_draw m_turnedRows m_turnedColumns, aZ cy (ma 1) 36 m_right, aZ cy (ma 2) 36 m_down, aI cy (ma 4) 72 m_keptFigures, aI cy (ma 5) 8 m_keptNumbers, aZ cy (ma 6) 2 m_isKept]) H := hP
      have hD : va_D A ([oX10 mo ma 0 m_textSize m_rows_1 m_columns m_a m_b m_readRows m_readColumns m_at m_looks m_came m_draw m_turnedRows m_turnedColumns, aZ cy (ma 1) 36 m_right, aZ cy (ma 2) 36 m_down, aI cy (ma 4) 72 m_keptFigures, aI cy (ma 5) 8 m_keptNumbers, aZ cy (ma 6) 2 m_isKept]) := hD
      refine lv_aload_n hx hb dX10_again_41 rfl (lv_at hl 0 rfl) ?_
      refine lv_aload_n hx hb dX10_again_42 rfl (lv_at hl 0 rfl) ?_
      refine va_get (D := D) (ci := 10) (v := .ref (ma 5)) (C := RX10) (T := TX10) (N := 34) hx hb hts inwX10_again_X10 hown hK hP 0 rfl rfl 13 (by decide) (hts (.fieldLink RX10 33 "HedgeWaysModel" "keptNumbers" "[I") (List.mem_of_getElem? (i := 3) rfl)) (fun _ h9 => h9) rfl dX10_again_43 ?_
      refine lv_iconst (v := 4) hx hb dX10_again_46 (by decide) ?_
      refine lv_iload_n hx hb dX10_again_47 rfl (lv_at hl 1 rfl) ?_
      refine lv_imul hx hb dX10_again_48 ?_
      refine lv_iconst (v := 1) hx hb dX10_again_49 (by decide) ?_
      refine lv_iadd hx hb dX10_again_50 ?_
      obtain ⟨i6, hf⟩ := qob_gd hf
      refine va_iald hx hb hK hP 4 0 rfl rfl i6 dX10_again_51 ?_
      refine lv_topi (fun m_columns_1 e7 => ?_)
      have hf := qob_bd hf e7
      refine va_put (D := D) (ci := 10) (v := .int m_columns_1) (ty := .int) (C := RX10) (T := TX10) (N := 34) hx hb hts inwX10_again_X10 tyX10 tyX10_ok nmX10 hown hK hP hD hS 0 rfl rfl 4 (by decide) (hts (.fieldLink RX10 17 "HedgeWaysModel" "columns" "I") (List.mem_of_getElem? (i := 5) rfl)) (fun _ h9 => h9) rfl (tyX10_ok 4 (by decide)) rfl rfl (Nat.le_of_ble_eq_true rfl) dX10_again_52 (fun H locs hP hD hS => ?_)
      have hP : va_P D vwCl ([oX10 mo ma 0 m_textSize m_rows_1 m_columns_1 m_a m_b m_readRows m_readColumns m_at m_looks m_came m_draw m_turnedRows m_turnedColumns, aZ cy (ma 1) 36 m_right, aZ cy (ma 2) 36 m_down, aI cy (ma 4) 72 m_keptFigures, aI cy (ma 5) 8 m_keptNumbers, aZ cy (ma 6) 2 m_isKept]) H := hP
      have hD : va_D A ([oX10 mo ma 0 m_textSize m_rows_1 m_columns_1 m_a m_b m_readRows m_readColumns m_at m_looks m_came m_draw m_turnedRows m_turnedColumns, aZ cy (ma 1) 36 m_right, aZ cy (ma 2) 36 m_down, aI cy (ma 4) 72 m_keptFigures, aI cy (ma 5) 8 m_keptNumbers, aZ cy (ma 6) 2 m_isKept]) := hD
      refine lv_aload_n hx hb dX10_again_55 rfl (lv_at hl 0 rfl) ?_
      refine lv_aload_n hx hb dX10_again_56 rfl (lv_at hl 0 rfl) ?_
      refine va_get (D := D) (ci := 10) (v := .ref (ma 5)) (C := RX10) (T := TX10) (N := 34) hx hb hts inwX10_again_X10 hown hK hP 0 rfl rfl 13 (by decide) (hts (.fieldLink RX10 33 "HedgeWaysModel" "keptNumbers" "[I") (List.mem_of_getElem? (i := 3) rfl)) (fun _ h9 => h9) rfl dX10_again_57 ?_
      refine lv_iconst (v := 4) hx hb dX10_again_60 (by decide) ?_
      refine lv_iload_n hx hb dX10_again_61 rfl (lv_at hl 1 rfl) ?_
      refine lv_imul hx hb dX10_again_62 ?_
      refine lv_iconst (v := 2) hx hb dX10_again_63 (by decide) ?_
      refine lv_iadd hx hb dX10_again_64 ?_
      obtain ⟨i8, hf⟩ := qob_gd hf
      refine va_iald hx hb hK hP 4 0 rfl rfl i8 dX10_again_65 ?_
      refine lv_topi (fun m_a_1 e9 => ?_)
      have hf := qob_bd hf e9
      refine va_put (D := D) (ci := 10) (v := .int m_a_1) (ty := .int) (C := RX10) (T := TX10) (N := 34) hx hb hts inwX10_again_X10 tyX10 tyX10_ok nmX10 hown hK hP hD hS 0 rfl rfl 7 (by decide) (hts (.fieldLink RX10 103 "HedgeWaysModel" "a" "I") (List.mem_of_getElem? (i := 6) rfl)) (fun _ h9 => h9) rfl (tyX10_ok 7 (by decide)) rfl rfl (Nat.le_of_ble_eq_true rfl) dX10_again_66 (fun H locs hP hD hS => ?_)
      have hP : va_P D vwCl ([oX10 mo ma 0 m_textSize m_rows_1 m_columns_1 m_a_1 m_b m_readRows m_readColumns m_at m_looks m_came m_draw m_turnedRows m_turnedColumns, aZ cy (ma 1) 36 m_right, aZ cy (ma 2) 36 m_down, aI cy (ma 4) 72 m_keptFigures, aI cy (ma 5) 8 m_keptNumbers, aZ cy (ma 6) 2 m_isKept]) H := hP
      have hD : va_D A ([oX10 mo ma 0 m_textSize m_rows_1 m_columns_1 m_a_1 m_b m_readRows m_readColumns m_at m_looks m_came m_draw m_turnedRows m_turnedColumns, aZ cy (ma 1) 36 m_right, aZ cy (ma 2) 36 m_down, aI cy (ma 4) 72 m_keptFigures, aI cy (ma 5) 8 m_keptNumbers, aZ cy (ma 6) 2 m_isKept]) := hD
      refine lv_aload_n hx hb dX10_again_69 rfl (lv_at hl 0 rfl) ?_
      refine lv_aload_n hx hb dX10_again_70 rfl (lv_at hl 0 rfl) ?_
      refine va_get (D := D) (ci := 10) (v := .ref (ma 5)) (C := RX10) (T := TX10) (N := 34) hx hb hts inwX10_again_X10 hown hK hP 0 rfl rfl 13 (by decide) (hts (.fieldLink RX10 33 "HedgeWaysModel" "keptNumbers" "[I") (List.mem_of_getElem? (i := 3) rfl)) (fun _ h9 => h9) rfl dX10_again_71 ?_
      refine lv_iconst (v := 4) hx hb dX10_again_74 (by decide) ?_
      refine lv_iload_n hx hb dX10_again_75 rfl (lv_at hl 1 rfl) ?_
      refine lv_imul hx hb dX10_again_76 ?_
      refine lv_iconst (v := 3) hx hb dX10_again_77 (by decide) ?_
      refine lv_iadd hx hb dX10_again_78 ?_
      obtain ⟨i10, hf⟩ := qob_gd hf
      refine va_iald hx hb hK hP 4 0 rfl rfl i10 dX10_again_79 ?_
      refine lv_topi (fun m_b_1 e11 => ?_)
      have hf := qob_bd hf e11
      refine va_put (D := D) (ci := 10) (v := .int m_b_1) (ty := .int) (C := RX10) (T := TX10) (N := 34) hx hb hts inwX10_again_X10 tyX10 tyX10_ok nmX10 hown hK hP hD hS 0 rfl rfl 8 (by decide) (hts (.fieldLink RX10 106 "HedgeWaysModel" "b" "I") (List.mem_of_getElem? (i := 7) rfl)) (fun _ h9 => h9) rfl (tyX10_ok 8 (by decide)) rfl rfl (Nat.le_of_ble_eq_true rfl) dX10_again_80 (fun H locs hP hD hS => ?_)
      have hP : va_P D vwCl ([oX10 mo ma 0 m_textSize m_rows_1 m_columns_1 m_a_1 m_b_1 m_readRows m_readColumns m_at m_looks m_came m_draw m_turnedRows m_turnedColumns, aZ cy (ma 1) 36 m_right, aZ cy (ma 2) 36 m_down, aI cy (ma 4) 72 m_keptFigures, aI cy (ma 5) 8 m_keptNumbers, aZ cy (ma 6) 2 m_isKept]) H := hP
      have hD : va_D A ([oX10 mo ma 0 m_textSize m_rows_1 m_columns_1 m_a_1 m_b_1 m_readRows m_readColumns m_at m_looks m_came m_draw m_turnedRows m_turnedColumns, aZ cy (ma 1) 36 m_right, aZ cy (ma 2) 36 m_down, aI cy (ma 4) 72 m_keptFigures, aI cy (ma 5) 8 m_keptNumbers, aZ cy (ma 6) 2 m_isKept]) := hD
      refine lv_iconst (v := 0) hx hb dX10_again_83 (by decide) ?_
      refine lv_istore_n (lv' := [(2, .int 0), (0, .ref mo), (1, .int p1)]) hx hb dX10_again_84 rfl hl (by decide) rfl (fun ls hl => ?_)
      refine qjoin2 hf (fun (m_right_1 : Nat → Int32) (m_down_1 : Nat → Int32) => ∀ (H : Heap) (locs : List Loc) (ls : Array Slot), ctW D A s ([oX10 mo ma 0 m_textSize m_rows_1 m_columns_1 m_a_1 m_b_1 m_readRows m_readColumns m_at m_looks m_came m_draw m_turnedRows m_turnedColumns, aZ cy (ma 1) 36 m_right_1, aZ cy (ma 2) 36 m_down_1, aI cy (ma 4) 72 m_keptFigures, aI cy (ma 5) 8 m_keptNumbers, aZ cy (ma 6) 2 m_isKept]) H locs → lv_has ls 3 [(0, .ref mo)] → W p l e rmX10_again s m args below meth c H locs 0 0 Q (F0 m 151 ls [])) ?_ ?_
      · intro m_right_1 m_down_1 hf H locs ls ⟨hP, hD, hS⟩ hl
        refine lv_aload_n hx hb dX10_again_151 rfl (lv_at hl 0 rfl) ?_
        refine va_get (D := D) (ci := 10) (v := .int m_rows_1) (C := RX10) (T := TX10) (N := 34) hx hb hts inwX10_again_X10 hown hK hP 0 rfl rfl 3 (by decide) (hts (.fieldLink RX10 13 "HedgeWaysModel" "rows" "I") (List.mem_of_getElem? (i := 4) rfl)) (fun _ h9 => h9) rfl dX10_again_152 ?_
        refine lv_aload_n hx hb dX10_again_155 rfl (lv_at hl 0 rfl) ?_
        refine va_get (D := D) (ci := 10) (v := .int m_columns_1) (C := RX10) (T := TX10) (N := 34) hx hb hts inwX10_again_X10 hown hK hP 0 rfl rfl 4 (by decide) (hts (.fieldLink RX10 17 "HedgeWaysModel" "columns" "I") (List.mem_of_getElem? (i := 5) rfl)) (fun _ h9 => h9) rfl dX10_again_156 ?_
        refine lv_imul hx hb dX10_again_159 ?_
        cases qob_ret hf
        exact ct_iret X hQ hK hP hD hS rfl dX10_again_160
      · intro J12 hJ12 hf
        refine qwalk3 (fun (x2_1 : Int32) (m_right_2 : Nat → Int32) (m_down_2 : Nat → Int32) => ∀ (H : Heap) (locs : List Loc) (ls : Array Slot), ctW D A s ([oX10 mo ma 0 m_textSize m_rows_1 m_columns_1 m_a_1 m_b_1 m_readRows m_readColumns m_at m_looks m_came m_draw m_turnedRows m_turnedColumns, aZ cy (ma 1) 36 m_right_2, aZ cy (ma 2) 36 m_down_2, aI cy (ma 4) 72 m_keptFigures, aI cy (ma 5) 8 m_keptNumbers, aZ cy (ma 6) 2 m_isKept]) H locs → lv_has ls 3 [(0, .ref mo), (1, .int p1), (2, .int x2_1)] → W p l e rmX10_again s m args below meth c H locs 0 0 Q (F0 m 85 ls [])) ?_ _ (0 : Int32) m_right m_down hf _ _ _ ⟨hP, hD, hS⟩ (lv_sub hl [1, 2, 0] rfl)
        intro J13 hL13 x2_1 m_right_2 m_down_2 hf H locs ls ⟨hP, hD, hS⟩ hl
        refine lv_iload_n hx hb dX10_again_85 rfl (lv_at hl 2 rfl) ?_
        refine lv_bipush (v := 36) hx hb dX10_again_86 (by decide) ?_
        refine lv_icmp_ge (tgt := 151) hx hb dX10_again_88 (by decide) (fun c14 => ?_) (fun c14 => ?_)
        · have hf := qob_t hf c14
          have hf := qob_esc hf
          exact hJ12 m_right_2 m_down_2 hf _ _ _ ⟨hP, hD, hS⟩ (lv_sub hl [0] rfl)
        · have hf := qob_f hf c14
          refine lv_aload_n hx hb dX10_again_91 rfl (lv_at hl 0 rfl) ?_
          refine va_get (D := D) (ci := 10) (v := .ref (ma 1)) (C := RX10) (T := TX10) (N := 34) hx hb hts inwX10_again_X10 hown hK hP 0 rfl rfl 5 (by decide) (hts (.fieldLink RX10 20 "HedgeWaysModel" "right" "[Z") (List.mem_of_getElem? (i := 8) rfl)) (fun _ h9 => h9) rfl dX10_again_92 ?_
          refine lv_iload_n hx hb dX10_again_95 rfl (lv_at hl 2 rfl) ?_
          refine lv_aload_n hx hb dX10_again_96 rfl (lv_at hl 0 rfl) ?_
          refine va_get (D := D) (ci := 10) (v := .ref (ma 4)) (C := RX10) (T := TX10) (N := 34) hx hb hts inwX10_again_X10 hown hK hP 0 rfl rfl 12 (by decide) (hts (.fieldLink RX10 30 "HedgeWaysModel" "keptFigures" "[I") (List.mem_of_getElem? (i := 9) rfl)) (fun _ h9 => h9) rfl dX10_again_97 ?_
          refine lv_bipush (v := 36) hx hb dX10_again_100 (by decide) ?_
          refine lv_iload_n hx hb dX10_again_102 rfl (lv_at hl 1 rfl) ?_
          refine lv_imul hx hb dX10_again_103 ?_
          refine lv_iload_n hx hb dX10_again_104 rfl (lv_at hl 2 rfl) ?_
          refine lv_iadd hx hb dX10_again_105 ?_
          obtain ⟨i15, hf⟩ := qob_gd hf
          refine va_iald hx hb hK hP 3 0 rfl rfl i15 dX10_again_106 ?_
          refine lv_iconst (v := 2) hx hb dX10_again_107 (by decide) ?_
          refine lv_irem hx hb dX10_again_108 (by decide) ?_
          refine lv_iconst (v := 1) hx hb dX10_again_109 (by decide) ?_
          refine qjoin1 hf (fun (s_1 : Int32) => ∀ (H : Heap) (locs : List Loc) (ls : Array Slot), ctW D A s ([oX10 mo ma 0 m_textSize m_rows_1 m_columns_1 m_a_1 m_b_1 m_readRows m_readColumns m_at m_looks m_came m_draw m_turnedRows m_turnedColumns, aZ cy (ma 1) 36 m_right_2, aZ cy (ma 2) 36 m_down_2, aI cy (ma 4) 72 m_keptFigures, aI cy (ma 5) 8 m_keptNumbers, aZ cy (ma 6) 2 m_isKept]) H locs → lv_has ls 3 [(0, .ref mo), (1, .int p1), (2, .int x2_1)] → W p l e rmX10_again s m args below meth c H locs 0 0 Q (F0 m 118 ls [.int s_1, .int x2_1, .ref (ma 1)])) ?_ ?_
          · intro s_1 hf H locs ls ⟨hP, hD, hS⟩ hl
            obtain ⟨i16, hf⟩ := qob_gd hf
            refine va_zast hx hb hK hP hD hS 1 2 rfl rfl i16 dX10_again_118 (fun H locs hP hD hS => ?_)
            have hP : va_P D vwCl ([oX10 mo ma 0 m_textSize m_rows_1 m_columns_1 m_a_1 m_b_1 m_readRows m_readColumns m_at m_looks m_came m_draw m_turnedRows m_turnedColumns, aZ cy (ma 1) 36 (upd m_right_2 x2_1.toNatClampNeg (qnb s_1)), aZ cy (ma 2) 36 m_down_2, aI cy (ma 4) 72 m_keptFigures, aI cy (ma 5) 8 m_keptNumbers, aZ cy (ma 6) 2 m_isKept]) H := hP
            have hD : va_D A ([oX10 mo ma 0 m_textSize m_rows_1 m_columns_1 m_a_1 m_b_1 m_readRows m_readColumns m_at m_looks m_came m_draw m_turnedRows m_turnedColumns, aZ cy (ma 1) 36 (upd m_right_2 x2_1.toNatClampNeg (qnb s_1)), aZ cy (ma 2) 36 m_down_2, aI cy (ma 4) 72 m_keptFigures, aI cy (ma 5) 8 m_keptNumbers, aZ cy (ma 6) 2 m_isKept]) := hD
            refine lv_aload_n hx hb dX10_again_119 rfl (lv_at hl 0 rfl) ?_
            refine va_get (D := D) (ci := 10) (v := .ref (ma 2)) (C := RX10) (T := TX10) (N := 34) hx hb hts inwX10_again_X10 hown hK hP 0 rfl rfl 6 (by decide) (hts (.fieldLink RX10 24 "HedgeWaysModel" "down" "[Z") (List.mem_of_getElem? (i := 10) rfl)) (fun _ h9 => h9) rfl dX10_again_120 ?_
            refine lv_iload_n hx hb dX10_again_123 rfl (lv_at hl 2 rfl) ?_
            refine lv_aload_n hx hb dX10_again_124 rfl (lv_at hl 0 rfl) ?_
            refine va_get (D := D) (ci := 10) (v := .ref (ma 4)) (C := RX10) (T := TX10) (N := 34) hx hb hts inwX10_again_X10 hown hK hP 0 rfl rfl 12 (by decide) (hts (.fieldLink RX10 30 "HedgeWaysModel" "keptFigures" "[I") (List.mem_of_getElem? (i := 9) rfl)) (fun _ h9 => h9) rfl dX10_again_125 ?_
            refine lv_bipush (v := 36) hx hb dX10_again_128 (by decide) ?_
            refine lv_iload_n hx hb dX10_again_130 rfl (lv_at hl 1 rfl) ?_
            refine lv_imul hx hb dX10_again_131 ?_
            refine lv_iload_n hx hb dX10_again_132 rfl (lv_at hl 2 rfl) ?_
            refine lv_iadd hx hb dX10_again_133 ?_
            obtain ⟨i17, hf⟩ := qob_gd hf
            refine va_iald hx hb hK hP 3 0 rfl rfl i17 dX10_again_134 ?_
            refine lv_iconst (v := 1) hx hb dX10_again_135 (by decide) ?_
            refine lv_icmp_le (tgt := 143) hx hb dX10_again_136 (by decide) (fun c18 => ?_) (fun c18 => ?_)
            · have hf := qob_t hf c18
              refine lv_iconst (v := 0) hx hb dX10_again_143 (by decide) ?_
              obtain ⟨i19, hf⟩ := qob_gd hf
              refine va_zast hx hb hK hP hD hS 2 2 rfl rfl i19 dX10_again_144 (fun H locs hP hD hS => ?_)
              have hP : va_P D vwCl ([oX10 mo ma 0 m_textSize m_rows_1 m_columns_1 m_a_1 m_b_1 m_readRows m_readColumns m_at m_looks m_came m_draw m_turnedRows m_turnedColumns, aZ cy (ma 1) 36 (upd m_right_2 x2_1.toNatClampNeg (qnb s_1)), aZ cy (ma 2) 36 (upd m_down_2 x2_1.toNatClampNeg (qnb 0)), aI cy (ma 4) 72 m_keptFigures, aI cy (ma 5) 8 m_keptNumbers, aZ cy (ma 6) 2 m_isKept]) H := hP
              have hD : va_D A ([oX10 mo ma 0 m_textSize m_rows_1 m_columns_1 m_a_1 m_b_1 m_readRows m_readColumns m_at m_looks m_came m_draw m_turnedRows m_turnedColumns, aZ cy (ma 1) 36 (upd m_right_2 x2_1.toNatClampNeg (qnb s_1)), aZ cy (ma 2) 36 (upd m_down_2 x2_1.toNatClampNeg (qnb 0)), aI cy (ma 4) 72 m_keptFigures, aI cy (ma 5) 8 m_keptNumbers, aZ cy (ma 6) 2 m_isKept]) := hD
              refine lv_iinc (v := (x2_1 + 1)) (lv' := [(2, .int (x2_1 + 1)), (0, .ref mo), (1, .int p1)]) hx hb dX10_again_145 hl (k := 2) rfl rfl (by decide) rfl (fun ls hl => ?_)
              refine lv_goto (tgt := 85) hx hb dX10_again_148 (by decide) ?_
              exact hL13 (x2_1 + 1) (upd m_right_2 x2_1.toNatClampNeg (qnb s_1)) (upd m_down_2 x2_1.toNatClampNeg (qnb 0)) hf _ _ _ ⟨hP, hD, hS⟩ (lv_sub hl [1, 2, 0] rfl)
            · have hf := qob_f hf c18
              refine lv_iconst (v := 1) hx hb dX10_again_139 (by decide) ?_
              refine lv_goto (tgt := 144) hx hb dX10_again_140 (by decide) ?_
              obtain ⟨i20, hf⟩ := qob_gd hf
              refine va_zast hx hb hK hP hD hS 2 2 rfl rfl i20 dX10_again_144 (fun H locs hP hD hS => ?_)
              have hP : va_P D vwCl ([oX10 mo ma 0 m_textSize m_rows_1 m_columns_1 m_a_1 m_b_1 m_readRows m_readColumns m_at m_looks m_came m_draw m_turnedRows m_turnedColumns, aZ cy (ma 1) 36 (upd m_right_2 x2_1.toNatClampNeg (qnb s_1)), aZ cy (ma 2) 36 (upd m_down_2 x2_1.toNatClampNeg (qnb 1)), aI cy (ma 4) 72 m_keptFigures, aI cy (ma 5) 8 m_keptNumbers, aZ cy (ma 6) 2 m_isKept]) H := hP
              have hD : va_D A ([oX10 mo ma 0 m_textSize m_rows_1 m_columns_1 m_a_1 m_b_1 m_readRows m_readColumns m_at m_looks m_came m_draw m_turnedRows m_turnedColumns, aZ cy (ma 1) 36 (upd m_right_2 x2_1.toNatClampNeg (qnb s_1)), aZ cy (ma 2) 36 (upd m_down_2 x2_1.toNatClampNeg (qnb 1)), aI cy (ma 4) 72 m_keptFigures, aI cy (ma 5) 8 m_keptNumbers, aZ cy (ma 6) 2 m_isKept]) := hD
              refine lv_iinc (v := (x2_1 + 1)) (lv' := [(2, .int (x2_1 + 1)), (0, .ref mo), (1, .int p1)]) hx hb dX10_again_145 hl (k := 2) rfl rfl (by decide) rfl (fun ls hl => ?_)
              refine lv_goto (tgt := 85) hx hb dX10_again_148 (by decide) ?_
              exact hL13 (x2_1 + 1) (upd m_right_2 x2_1.toNatClampNeg (qnb s_1)) (upd m_down_2 x2_1.toNatClampNeg (qnb 1)) hf _ _ _ ⟨hP, hD, hS⟩ (lv_sub hl [1, 2, 0] rfl)
          · intro J21 hJ21 hf
            refine lv_icmp_ne (tgt := 117) hx hb dX10_again_110 (by decide) (fun c22 => ?_) (fun c22 => ?_)
            · have hf := qob_f hf c22
              refine lv_iconst (v := 0) hx hb dX10_again_117 (by decide) ?_
              exact hJ21 0 hf _ _ _ ⟨hP, hD, hS⟩ hl
            · have hf := qob_t hf c22
              refine lv_iconst (v := 1) hx hb dX10_again_113 (by decide) ?_
              refine lv_goto (tgt := 118) hx hb dX10_again_114 (by decide) ?_
              exact hJ21 1 hf _ _ _ ⟨hP, hD, hS⟩ hl
    · have hf := qob_t hf c3
      refine lv_bipush (v := (-3)) hx hb dX10_again_26 (by decide) ?_
      cases qob_ret hf
      exact ct_iret X hQ hK hP hD hS rfl dX10_again_28
  · have hf := qob_t hf c1
    refine lv_iconst (v := (-1)) hx hb dX10_again_15 (by decide) ?_
    cases qob_ret hf
    exact ct_iret X hQ hK hP hD hS rfl dX10_again_16

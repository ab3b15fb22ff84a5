abbrev rmX10_in : Room := { frames := 0, cells := 0, slots := 0, locals := 0 }
theorem hdX10_in : yX10_in.cls ≠ "java/lang/invoke/MethodHandle" ∧ yX10_in.cls ≠ "java/lang/invoke/VarHandle" ∧ (parseMethodDescriptor yX10_in.desc).map (fun d => d.parameters.length) = some 3 := by decide +kernel
set_option maxHeartbeats 4000000 in
set_option maxRecDepth 100000 in
theorem KX10_in {l : Launch} {D : va_G} {cy : Nat → ClassId}  {p1 : Int64} {p2 : Int64} {p3 : Int64} {r : Int32} (hf : fX10_in p1 p2 p3 = r) : CtI l yX10_in wsX10_in rmX10_in D cy [.long p1, .long p2, .long p3] ([]) ([]) r := by
  refine CtI.of (cc := cX10_in) (maxL := 6) (ret := some .boolean) (own := RX10) (by decide) rfl rfl (Nat.le_of_ble_eq_true rfl) ?_
  intro p e s m args below meth c A Q X hQ hK hP hD hS ls hl
  obtain ⟨hx, hb, hml, hown, hts, hr, hlocks, hA, hZ⟩ := id X
  have hl : lv_has ls 6 [(0, .long p1), (2, .long p2), (4, .long p3)] := hl
  unfold fX10_in at hf
  have hf := qbb_top hf
  refine lv_lload_n hx hb dX10_in_0 rfl (lv_at hl 0 rfl) ?_
  refine lv_lload_n hx hb dX10_in_1 rfl (lv_at hl 1 rfl) ?_
  refine W.lcmp hx hb dX10_in_2 ?_
  refine lv_if_lt (tgt := 17) hx hb dX10_in_3 (by decide) (fun c1 => ?_) (fun c1 => ?_)
  · have hf := qbb_t hf c1
    refine lv_iconst (v := 0) hx hb dX10_in_17 (by decide) ?_
    cases qbb_ret hf
    exact ct_zret X hQ hK hP hD hS qnb0 dX10_in_18
  · have hf := qbb_f hf c1
    refine lv_lload_n hx hb dX10_in_6 rfl (lv_at hl 0 rfl) ?_
    refine lv_lload hx hb dX10_in_7 (lv_at hl 2 rfl) ?_
    refine W.lcmp hx hb dX10_in_9 ?_
    refine lv_if_gt (tgt := 17) hx hb dX10_in_10 (by decide) (fun c2 => ?_) (fun c2 => ?_)
    · have hf := qbb_t hf c2
      refine lv_iconst (v := 0) hx hb dX10_in_17 (by decide) ?_
      cases qbb_ret hf
      exact ct_zret X hQ hK hP hD hS qnb0 dX10_in_18
    · have hf := qbb_f hf c2
      refine lv_iconst (v := 1) hx hb dX10_in_13 (by decide) ?_
      refine lv_goto (tgt := 18) hx hb dX10_in_14 (by decide) ?_
      cases qbb_ret hf
      exact ct_zret X hQ hK hP hD hS qnb1 dX10_in_18
theorem inwX10_write_X10 : ∀ w ∈ wsX100, w ∈ wsX10_write := fun _ h => List.mem_cons_of_mem _ (List.mem_append_right _ h)
abbrev rmX10_write : Room := { frames := 1, cells := 0, slots := 0, locals := 25 }
theorem hdX10_write : yX10_write.cls = RX10 ∧ yX10_write.cls ≠ "java/lang/invoke/MethodHandle" ∧ yX10_write.cls ≠ "java/lang/invoke/VarHandle" ∧ (parseMethodDescriptor yX10_write.desc).map (fun d => d.parameters.length) = some 2 := by decide +kernel
set_option maxHeartbeats 4000000 in
set_option maxRecDepth 100000 in
theorem KX10_write {l : Launch} {D : va_G} {cy : Nat → ClassId} {mo : Nat} {ma : Nat → Nat} {m_thrown : Int32} {m_textSize : Int32} {m_rows : Int32} {m_columns : Int32} {m_a : Int32} {m_b : Int32} {m_readRows : Int32} {m_readColumns : Int32} {m_at : Int32} {m_looks : Int32} {m_came : Int32} {m_draw : Int64} {m_turnedRows : Int32} {m_turnedColumns : Int32} {m_text : Nat → Int32} {p1 : Int32} {p2 : Int64} {r : Int32} {m_thrown' : Int32} {m_textSize' : Int32} {m_text' : Nat → Int32} (hf : fX10_write m_thrown m_textSize m_text p1 p2 = some (r, m_thrown', m_textSize', m_text')) : CtI l yX10_write wsX10_write rmX10_write D cy [.ref mo, .int p1, .long p2] ([oX10 mo ma m_thrown m_textSize m_rows m_columns m_a m_b m_readRows m_readColumns m_at m_looks m_came m_draw m_turnedRows m_turnedColumns, aI cy (ma 0) 41 m_text]) ([oX10 mo ma m_thrown' m_textSize' m_rows m_columns m_a m_b m_readRows m_readColumns m_at m_looks m_came m_draw m_turnedRows m_turnedColumns, aI cy (ma 0) 41 m_text']) r := by
  refine CtI.of (cc := cX10_write) (maxL := 5) (ret := some .int) (own := RX10) (by decide) rfl rfl (Nat.le_of_ble_eq_true rfl) ?_
  intro p e s m args below meth c A Q X hQ hK hP hD hS ls hl
  obtain ⟨hx, hb, hml, hown, hts, hr, hlocks, hA, hZ⟩ := id X
  have hl : lv_has ls 5 [(0, .ref mo), (1, .int p1), (2, .long p2)] := hl
  unfold fX10_write at hf
  have hf := qob_top hf
  refine lv_aload_n hx hb dX10_write_0 rfl (lv_at hl 0 rfl) ?_
  refine lv_iconst (v := 0) hx hb dX10_write_1 (by decide) ?_
  refine va_put (D := D) (ci := 10) (v := .int 0) (ty := .int) (C := RX10) (T := TX10) (N := 34) hx hb hts inwX10_write_X10 tyX10 tyX10_ok nmX10 hown hK hP hD hS 0 rfl rfl 0 (by decide) (hts (.fieldLink RX10 79 "HedgeWaysModel" "thrown" "I") (List.mem_of_getElem? (i := 1) rfl)) (fun _ h9 => h9) rfl (tyX10_ok 0 (by decide)) rfl rfl (Nat.le_of_ble_eq_true rfl) dX10_write_2 (fun H locs hP hD hS => ?_)
  have hP : va_P D vwCl ([oX10 mo ma 0 m_textSize m_rows m_columns m_a m_b m_readRows m_readColumns m_at m_looks m_came m_draw m_turnedRows m_turnedColumns, aI cy (ma 0) 41 m_text]) H := hP
  have hD : va_D A ([oX10 mo ma 0 m_textSize m_rows m_columns m_a m_b m_readRows m_readColumns m_at m_looks m_came m_draw m_turnedRows m_turnedColumns, aI cy (ma 0) 41 m_text]) := hD
  refine lv_iload_n hx hb dX10_write_5 rfl (lv_at hl 1 rfl) ?_
  refine lv_i2l (v := p1.toInt64) hx hb dX10_write_6 rfl ?_
  refine lv_lconst (v := 1) hx hb dX10_write_7 (by decide) ?_
  refine lv_ldc2 hx hb hown (hts (.constantLong RX10 82 (8)) (List.mem_of_getElem? (i := 2) rfl)) dX10_write_8 ?_
  refine ctS_i0 (r := (fX10_in p1.toInt64 1 8)) (wc := []) (As := [.long p1.toInt64, .long 1, .long 8]) (rest := []) X hK hP hD hS [] rfl rfl rfl (KX10_in rfl _) (va_cwS 3 hts gX10_write_X10_in rfl rfl rfl hdX10_in ⟨Nat.le_of_ble_eq_true rfl, Nat.le_of_ble_eq_true rfl⟩) rfl hl rfl (Nat.le_of_ble_eq_true rfl) dX10_write_11 (Nat.zero_le _) (Nat.zero_le _) (fun H locs hP hS => ?_)
  refine lv_if_ne (tgt := 20) hx hb dX10_write_14 (by decide) (fun c1 => ?_) (fun c1 => ?_)
  · have hf := qob_f hf c1
    refine lv_aload_n hx hb dX10_write_20 rfl (lv_at hl 0 rfl) ?_
    refine va_get (D := D) (ci := 10) (v := .int m_textSize) (C := RX10) (T := TX10) (N := 34) hx hb hts inwX10_write_X10 hown hK hP 0 rfl rfl 2 (by decide) (hts (.fieldLink RX10 88 "HedgeWaysModel" "textSize" "I") (List.mem_of_getElem? (i := 3) rfl)) (fun _ h9 => h9) rfl dX10_write_21 ?_
    refine lv_iload_n hx hb dX10_write_24 rfl (lv_at hl 1 rfl) ?_
    refine lv_iadd hx hb dX10_write_25 ?_
    refine lv_bipush (v := 41) hx hb dX10_write_26 (by decide) ?_
    refine lv_icmp_le (tgt := 34) hx hb dX10_write_28 (by decide) (fun c2 => ?_) (fun c2 => ?_)
    · have hf := qob_t hf c2
      refine lv_iload_n hx hb dX10_write_34 rfl (lv_at hl 1 rfl) ?_
      refine lv_iconst (v := 1) hx hb dX10_write_35 (by decide) ?_
      refine lv_isub hx hb dX10_write_36 ?_
      refine lv_istore (lv' := [(4, .int (p1 - 1)), (0, .ref mo), (1, .int p1), (2, .long p2)]) hx hb dX10_write_37 hl (by decide) rfl (fun ls hl => ?_)
      refine qjoin2 hf (fun (m_textSize_1 : Int32) (m_text_1 : Nat → Int32) => ∀ (H : Heap) (locs : List Loc) (ls : Array Slot), ctW D A s ([oX10 mo ma 0 m_textSize_1 m_rows m_columns m_a m_b m_readRows m_readColumns m_at m_looks m_came m_draw m_turnedRows m_turnedColumns, aI cy (ma 0) 41 m_text_1]) H locs → lv_has ls 5 [(0, .ref mo)] → W p l e rmX10_write s m args below meth c H locs 0 0 Q (F0 m 81 ls [])) ?_ ?_
      · intro m_textSize_1 m_text_1 hf H locs ls ⟨hP, hD, hS⟩ hl
        refine lv_aload_n hx hb dX10_write_81 rfl (lv_at hl 0 rfl) ?_
        refine va_get (D := D) (ci := 10) (v := .int m_textSize_1) (C := RX10) (T := TX10) (N := 34) hx hb hts inwX10_write_X10 hown hK hP 0 rfl rfl 2 (by decide) (hts (.fieldLink RX10 88 "HedgeWaysModel" "textSize" "I") (List.mem_of_getElem? (i := 3) rfl)) (fun _ h9 => h9) rfl dX10_write_82 ?_
        cases qob_ret hf
        exact ct_iret X hQ hK hP hD hS rfl dX10_write_85
      · intro J3 hJ3 hf
        refine qwalk3 (fun (x4_1 : Int32) (m_textSize_2 : Int32) (m_text_2 : Nat → Int32) => ∀ (H : Heap) (locs : List Loc) (ls : Array Slot), ctW D A s ([oX10 mo ma 0 m_textSize_2 m_rows m_columns m_a m_b m_readRows m_readColumns m_at m_looks m_came m_draw m_turnedRows m_turnedColumns, aI cy (ma 0) 41 m_text_2]) H locs → lv_has ls 5 [(0, .ref mo), (2, .long p2), (4, .int x4_1)] → W p l e rmX10_write s m args below meth c H locs 0 0 Q (F0 m 39 ls [])) ?_ _ (p1 - 1) m_textSize m_text hf _ _ _ ⟨hP, hD, hS⟩ (lv_sub hl [1, 3, 0] rfl)
        intro J4 hL4 x4_1 m_textSize_2 m_text_2 hf H locs ls ⟨hP, hD, hS⟩ hl
        refine lv_iload hx hb dX10_write_39 (lv_at hl 2 rfl) ?_
        refine lv_if_lt (tgt := 81) hx hb dX10_write_41 (by decide) (fun c5 => ?_) (fun c5 => ?_)
        · have hf := qob_t hf c5
          have hf := qob_esc hf
          exact hJ3 m_textSize_2 m_text_2 hf _ _ _ ⟨hP, hD, hS⟩ (lv_sub hl [0] rfl)
        · have hf := qob_f hf c5
          refine lv_aload_n hx hb dX10_write_44 rfl (lv_at hl 0 rfl) ?_
          refine va_get (D := D) (ci := 10) (v := .ref (ma 0)) (C := RX10) (T := TX10) (N := 34) hx hb hts inwX10_write_X10 hown hK hP 0 rfl rfl 1 (by decide) (hts (.fieldLink RX10 7 "HedgeWaysModel" "text" "[I") (List.mem_of_getElem? (i := 4) rfl)) (fun _ h9 => h9) rfl dX10_write_45 ?_
          refine lv_aload_n hx hb dX10_write_48 rfl (lv_at hl 0 rfl) ?_
          refine va_get (D := D) (ci := 10) (v := .int m_textSize_2) (C := RX10) (T := TX10) (N := 34) hx hb hts inwX10_write_X10 hown hK hP 0 rfl rfl 2 (by decide) (hts (.fieldLink RX10 88 "HedgeWaysModel" "textSize" "I") (List.mem_of_getElem? (i := 3) rfl)) (fun _ h9 => h9) rfl dX10_write_49 ?_
          refine lv_lload_n hx hb dX10_write_52 rfl (lv_at hl 1 rfl) ?_
          refine lv_bipush (v := 8) hx hb dX10_write_53 (by decide) ?_
          refine lv_iload hx hb dX10_write_55 (lv_at hl 2 rfl) ?_
          refine lv_imul hx hb dX10_write_57 ?_
          refine lv_lshr (v := (qshr p2 (8 * x4_1))) hx hb dX10_write_58 rfl ?_
          refine lv_l2i (v := (qshr p2 (8 * x4_1)).toInt32) hx hb dX10_write_59 rfl ?_
          refine lv_sipush (v := 255) hx hb dX10_write_60 (by decide) ?_
          refine lv_iand hx hb dX10_write_63 ?_
          obtain ⟨i6, hf⟩ := qob_gd hf
          obtain ⟨m_text_3, e7⟩ : ∃ z, z = (upd m_text_2 m_textSize_2.toNatClampNeg (((qshr p2 (8 * x4_1)).toInt32) &&& 255)) := ⟨_, rfl⟩
          have hf := qob_bd hf e7
          refine va_iast hx hb hK hP hD hS 1 0 rfl rfl i6 dX10_write_64 (fun H locs hP hD hS => ?_)
          have hP : va_P D vwCl ([oX10 mo ma 0 m_textSize_2 m_rows m_columns m_a m_b m_readRows m_readColumns m_at m_looks m_came m_draw m_turnedRows m_turnedColumns, aI cy (ma 0) 41 m_text_3]) H := by rw [e7]; exact hP
          have hD : va_D A ([oX10 mo ma 0 m_textSize_2 m_rows m_columns m_a m_b m_readRows m_readColumns m_at m_looks m_came m_draw m_turnedRows m_turnedColumns, aI cy (ma 0) 41 m_text_3]) := by rw [e7]; exact hD
          refine lv_aload_n hx hb dX10_write_65 rfl (lv_at hl 0 rfl) ?_
          refine lv_dup hx hb dX10_write_66 rfl ?_
          refine va_get (D := D) (ci := 10) (v := .int m_textSize_2) (C := RX10) (T := TX10) (N := 34) hx hb hts inwX10_write_X10 hown hK hP 0 rfl rfl 2 (by decide) (hts (.fieldLink RX10 88 "HedgeWaysModel" "textSize" "I") (List.mem_of_getElem? (i := 3) rfl)) (fun _ h9 => h9) rfl dX10_write_67 ?_
          refine lv_iconst (v := 1) hx hb dX10_write_70 (by decide) ?_
          refine lv_iadd hx hb dX10_write_71 ?_
          refine va_put (D := D) (ci := 10) (v := .int (m_textSize_2 + 1)) (ty := .int) (C := RX10) (T := TX10) (N := 34) hx hb hts inwX10_write_X10 tyX10 tyX10_ok nmX10 hown hK hP hD hS 0 rfl rfl 2 (by decide) (hts (.fieldLink RX10 88 "HedgeWaysModel" "textSize" "I") (List.mem_of_getElem? (i := 3) rfl)) (fun _ h9 => h9) rfl (tyX10_ok 2 (by decide)) rfl rfl (Nat.le_of_ble_eq_true rfl) dX10_write_72 (fun H locs hP hD hS => ?_)
          have hP : va_P D vwCl ([oX10 mo ma 0 (m_textSize_2 + 1) m_rows m_columns m_a m_b m_readRows m_readColumns m_at m_looks m_came m_draw m_turnedRows m_turnedColumns, aI cy (ma 0) 41 m_text_3]) H := hP
          have hD : va_D A ([oX10 mo ma 0 (m_textSize_2 + 1) m_rows m_columns m_a m_b m_readRows m_readColumns m_at m_looks m_came m_draw m_turnedRows m_turnedColumns, aI cy (ma 0) 41 m_text_3]) := hD
          refine lv_iinc (v := (x4_1 + (-1))) (lv' := [(4, .int (x4_1 + (-1))), (0, .ref mo), (2, .long p2)]) hx hb dX10_write_75 hl (k := 2) rfl rfl (by decide) rfl (fun ls hl => ?_)
          refine lv_goto (tgt := 39) hx hb dX10_write_78 (by decide) ?_
          exact hL4 (x4_1 + (-1)) (m_textSize_2 + 1) m_text_3 hf _ _ _ ⟨hP, hD, hS⟩ (lv_sub hl [1, 2, 0] rfl)
    · have hf := qob_f hf c2
      refine lv_bipush (v := (-4)) hx hb dX10_write_31 (by decide) ?_
      cases qob_ret hf
      exact ct_iret X hQ hK hP hD hS rfl dX10_write_33
  · have hf := qob_t hf c1
    refine lv_bipush (v := (-2)) hx hb dX10_write_17 (by decide) ?_
    cases qob_ret hf
    exact ct_iret X hQ hK hP hD hS rfl dX10_write_19
theorem inwX10_wipe_X10 : ∀ w ∈ wsX100, w ∈ wsX10_wipe := fun _ h => List.mem_cons_of_mem _ (List.mem_append_right _ h)
abbrev rmX10_wipe : Room := { frames := 0, cells := 0, slots := 0, locals := 0 }
theorem hdX10_wipe : yX10_wipe.cls = RX10 ∧ yX10_wipe.cls ≠ "java/lang/invoke/MethodHandle" ∧ yX10_wipe.cls ≠ "java/lang/invoke/VarHandle" ∧ (parseMethodDescriptor yX10_wipe.desc).map (fun d => d.parameters.length) = some 0 := by decide +kernel
set_option maxHeartbeats 4000000 in
set_option maxRecDepth 100000 in
theorem KX10_wipe {l : Launch} {D : va_G} {cy : Nat → ClassId} {mo : Nat} {ma : Nat → Nat} {m_thrown : Int32} {m_textSize : Int32} {m_rows : Int32} {m_columns : Int32} {m_a : Int32} {m_b : Int32} {m_readRows : Int32} {m_readColumns : Int32} {m_at : Int32} {m_looks : Int32} {m_came : Int32} {m_draw : Int64} {m_turnedRows : Int32} {m_turnedColumns : Int32}  {r : Int32} {m_thrown' : Int32} {m_textSize' : Int32} (hf : fX10_wipe m_thrown m_textSize = (r, m_thrown', m_textSize')) : CtI l yX10_wipe wsX10_wipe rmX10_wipe D cy [.ref mo] ([oX10 mo ma m_thrown m_textSize m_rows m_columns m_a m_b m_readRows m_readColumns m_at m_looks m_came m_draw m_turnedRows m_turnedColumns]) ([oX10 mo ma m_thrown' m_textSize' m_rows m_columns m_a m_b m_readRows m_readColumns m_at m_looks m_came m_draw m_turnedRows m_turnedColumns]) r := by
  refine CtI.of (cc := cX10_wipe) (maxL := 2) (ret := some .int) (own := RX10) (by decide) rfl rfl (Nat.le_of_ble_eq_true rfl) ?_
  intro p e s m args below meth c A Q X hQ hK hP hD hS ls hl
  obtain ⟨hx, hb, hml, hown, hts, hr, hlocks, hA, hZ⟩ := id X
  have hl : lv_has ls 2 [(0, .ref mo)] := hl
  unfold fX10_wipe at hf
  have hf := qbb_top hf
  refine lv_aload_n hx hb dX10_wipe_0 rfl (lv_at hl 0 rfl) ?_
  refine lv_iconst (v := 0) hx hb dX10_wipe_1 (by decide) ?_
  refine va_put (D := D) (ci := 10) (v := .int 0) (ty := .int) (C := RX10) (T := TX10) (N := 34) hx hb hts inwX10_wipe_X10 tyX10 tyX10_ok nmX10 hown hK hP hD hS 0 rfl rfl 0 (by decide) (hts (.fieldLink RX10 79 "HedgeWaysModel" "thrown" "I") (List.mem_of_getElem? (i := 1) rfl)) (fun _ h9 => h9) rfl (tyX10_ok 0 (by decide)) rfl rfl (Nat.le_of_ble_eq_true rfl) dX10_wipe_2 (fun H locs hP hD hS => ?_)
  have hP : va_P D vwCl ([oX10 mo ma 0 m_textSize m_rows m_columns m_a m_b m_readRows m_readColumns m_at m_looks m_came m_draw m_turnedRows m_turnedColumns]) H := hP
  have hD : va_D A ([oX10 mo ma 0 m_textSize m_rows m_columns m_a m_b m_readRows m_readColumns m_at m_looks m_came m_draw m_turnedRows m_turnedColumns]) := hD
  refine lv_aload_n hx hb dX10_wipe_5 rfl (lv_at hl 0 rfl) ?_
  refine va_get (D := D) (ci := 10) (v := .int m_textSize) (C := RX10) (T := TX10) (N := 34) hx hb hts inwX10_wipe_X10 hown hK hP 0 rfl rfl 2 (by decide) (hts (.fieldLink RX10 88 "HedgeWaysModel" "textSize" "I") (List.mem_of_getElem? (i := 2) rfl)) (fun _ h9 => h9) rfl dX10_wipe_6 ?_
  refine lv_istore_n (lv' := [(1, .int m_textSize), (0, .ref mo)]) hx hb dX10_wipe_9 rfl hl (by decide) rfl (fun ls hl => ?_)
  refine lv_aload_n hx hb dX10_wipe_10 rfl (lv_at hl 1 rfl) ?_
  refine lv_iconst (v := 0) hx hb dX10_wipe_11 (by decide) ?_
  refine va_put (D := D) (ci := 10) (v := .int 0) (ty := .int) (C := RX10) (T := TX10) (N := 34) hx hb hts inwX10_wipe_X10 tyX10 tyX10_ok nmX10 hown hK hP hD hS 0 rfl rfl 2 (by decide) (hts (.fieldLink RX10 88 "HedgeWaysModel" "textSize" "I") (List.mem_of_getElem? (i := 2) rfl)) (fun _ h9 => h9) rfl (tyX10_ok 2 (by decide)) rfl rfl (Nat.le_of_ble_eq_true rfl) dX10_wipe_12 (fun H locs hP hD hS => ?_)
  have hP : va_P D vwCl ([oX10 mo ma 0 0 m_rows m_columns m_a m_b m_readRows m_readColumns m_at m_looks m_came m_draw m_turnedRows m_turnedColumns]) H := hP
  have hD : va_D A ([oX10 mo ma 0 0 m_rows m_columns m_a m_b m_readRows m_readColumns m_at m_looks m_came m_draw m_turnedRows m_turnedColumns]) := hD
  refine lv_iload_n hx hb dX10_wipe_15 rfl (lv_at hl 0 rfl) ?_
  cases qbb_ret hf
  exact ct_iret X hQ hK hP hD hS rfl dX10_wipe_16
theorem inwX10_readMaze_X10 : ∀ w ∈ wsX100, w ∈ wsX10_readMaze := fun _ h => List.mem_cons_of_mem _ (List.mem_append_right _ h)
abbrev rmX10_readMaze : Room := { frames := 1, cells := 0, slots := 0, locals := 25 }
theorem hdX10_readMaze : yX10_readMaze.cls = RX10 ∧ yX10_readMaze.cls ≠ "java/lang/invoke/MethodHandle" ∧ yX10_readMaze.cls ≠ "java/lang/invoke/VarHandle" ∧ (parseMethodDescriptor yX10_readMaze.desc).map (fun d => d.parameters.length) = some 0 := by decide +kernel
set_option maxHeartbeats 4000000 in
set_option maxRecDepth 100000 in
theorem KX10_readMaze {l : Launch} {D : va_G} {cy : Nat → ClassId} {mo : Nat} {ma : Nat → Nat} {m_thrown : Int32} {m_textSize : Int32} {m_rows : Int32} {m_columns : Int32} {m_a : Int32} {m_b : Int32} {m_readRows : Int32} {m_readColumns : Int32} {m_at : Int32} {m_looks : Int32} {m_came : Int32} {m_draw : Int64} {m_turnedRows : Int32} {m_turnedColumns : Int32} {m_text : Nat → Int32} {m_read : Nat → Int32}  {r : Int32} {m_readRows' : Int32} {m_readColumns' : Int32} {m_read' : Nat → Int32} (hf : fX10_readMaze m_textSize m_readRows m_readColumns m_text m_read = some (r, m_readRows', m_readColumns', m_read')) : CtI l yX10_readMaze wsX10_readMaze rmX10_readMaze D cy [.ref mo] ([oX10 mo ma m_thrown m_textSize m_rows m_columns m_a m_b m_readRows m_readColumns m_at m_looks m_came m_draw m_turnedRows m_turnedColumns, aI cy (ma 0) 41 m_text, aI cy (ma 3) 36 m_read]) ([oX10 mo ma m_thrown m_textSize m_rows m_columns m_a m_b m_readRows' m_readColumns' m_at m_looks m_came m_draw m_turnedRows m_turnedColumns, aI cy (ma 0) 41 m_text, aI cy (ma 3) 36 m_read']) r := by
  refine CtI.of (cc := cX10_readMaze) (maxL := 9) (ret := some .int) (own := RX10) (by decide) rfl rfl (Nat.le_of_ble_eq_true rfl) ?_
  intro p e s m args below meth c A Q X hQ hK hP hD hS ls hl
  obtain ⟨hx, hb, hml, hown, hts, hr, hlocks, hA, hZ⟩ := id X
  have hl : lv_has ls 9 [(0, .ref mo)] := hl
  unfold fX10_readMaze at hf
  have hf := qob_top hf
  refine lv_aload_n hx hb dX10_readMaze_0 rfl (lv_at hl 0 rfl) ?_
  refine lv_iconst (v := 1) hx hb dX10_readMaze_1 (by decide) ?_
  refine va_put (D := D) (ci := 10) (v := .int 1) (ty := .int) (C := RX10) (T := TX10) (N := 34) hx hb hts inwX10_readMaze_X10 tyX10 tyX10_ok nmX10 hown hK hP hD hS 0 rfl rfl 9 (by decide) (hts (.fieldLink RX10 91 "HedgeWaysModel" "readRows" "I") (List.mem_of_getElem? (i := 1) rfl)) (fun _ h9 => h9) rfl (tyX10_ok 9 (by decide)) rfl rfl (Nat.le_of_ble_eq_true rfl) dX10_readMaze_2 (fun H locs hP hD hS => ?_)
  have hP : va_P D vwCl ([oX10 mo ma m_thrown m_textSize m_rows m_columns m_a m_b 1 m_readColumns m_at m_looks m_came m_draw m_turnedRows m_turnedColumns, aI cy (ma 0) 41 m_text, aI cy (ma 3) 36 m_read]) H := hP
  have hD : va_D A ([oX10 mo ma m_thrown m_textSize m_rows m_columns m_a m_b 1 m_readColumns m_at m_looks m_came m_draw m_turnedRows m_turnedColumns, aI cy (ma 0) 41 m_text, aI cy (ma 3) 36 m_read]) := hD
  refine lv_aload_n hx hb dX10_readMaze_5 rfl (lv_at hl 0 rfl) ?_
  refine lv_bipush (v := 6) hx hb dX10_readMaze_6 (by decide) ?_
  refine va_put (D := D) (ci := 10) (v := .int 6) (ty := .int) (C := RX10) (T := TX10) (N := 34) hx hb hts inwX10_readMaze_X10 tyX10 tyX10_ok nmX10 hown hK hP hD hS 0 rfl rfl 10 (by decide) (hts (.fieldLink RX10 94 "HedgeWaysModel" "readColumns" "I") (List.mem_of_getElem? (i := 2) rfl)) (fun _ h9 => h9) rfl (tyX10_ok 10 (by decide)) rfl rfl (Nat.le_of_ble_eq_true rfl) dX10_readMaze_8 (fun H locs hP hD hS => ?_)
  have hP : va_P D vwCl ([oX10 mo ma m_thrown m_textSize m_rows m_columns m_a m_b 1 6 m_at m_looks m_came m_draw m_turnedRows m_turnedColumns, aI cy (ma 0) 41 m_text, aI cy (ma 3) 36 m_read]) H := hP
  have hD : va_D A ([oX10 mo ma m_thrown m_textSize m_rows m_columns m_a m_b 1 6 m_at m_looks m_came m_draw m_turnedRows m_turnedColumns, aI cy (ma 0) 41 m_text, aI cy (ma 3) 36 m_read]) := hD
  refine lv_iconst (v := 0) hx hb dX10_readMaze_11 (by decide) ?_
  refine lv_istore_n (lv' := [(1, .int 0), (0, .ref mo)]) hx hb dX10_readMaze_12 rfl hl (by decide) rfl (fun ls hl => ?_)
  refine lv_iconst (v := 0) hx hb dX10_readMaze_13 (by decide) ?_
  refine lv_istore_n (lv' := [(2, .int 0), (1, .int 0), (0, .ref mo)]) hx hb dX10_readMaze_14 rfl hl (by decide) rfl (fun ls hl => ?_)
  refine lv_iconst (v := 0) hx hb dX10_readMaze_15 (by decide) ?_
  refine lv_istore_n (lv' := [(3, .int 0), (2, .int 0), (1, .int 0), (0, .ref mo)]) hx hb dX10_readMaze_16 rfl hl (by decide) rfl (fun ls hl => ?_)
  refine qjoinE5 hf (fun (x1_1 : Int32) (x2_1 : Int32) (m_readRows_1 : Int32) (m_readColumns_1 : Int32) (m_read_1 : Nat → Int32) => ∀ (H : Heap) (locs : List Loc) (ls : Array Slot), ctW D A s ([oX10 mo ma m_thrown m_textSize m_rows m_columns m_a m_b m_readRows_1 m_readColumns_1 m_at m_looks m_came m_draw m_turnedRows m_turnedColumns, aI cy (ma 0) 41 m_text, aI cy (ma 3) 36 m_read_1]) H locs → lv_has ls 9 [(0, .ref mo), (1, .int x1_1), (2, .int x2_1)] → W p l e rmX10_readMaze s m args below meth c H locs 0 0 Q (F0 m 287 ls [])) ?_ ?_
  · intro x1_1 x2_1 m_readRows_1 m_readColumns_1 m_read_1 hf H locs ls ⟨hP, hD, hS⟩ hl
    refine lv_iload_n hx hb dX10_readMaze_287 rfl (lv_at hl 1 rfl) ?_
    refine qjoin1 hf (fun (s_1 : Int32) => ∀ (H : Heap) (locs : List Loc) (ls : Array Slot), ctW D A s ([oX10 mo ma m_thrown m_textSize m_rows m_columns m_a m_b m_readRows_1 m_readColumns_1 m_at m_looks m_came m_draw m_turnedRows m_turnedColumns, aI cy (ma 0) 41 m_text, aI cy (ma 3) 36 m_read_1]) H locs → lv_has ls 9 [(0, .ref mo), (1, .int x1_1), (2, .int x2_1)] → W p l e rmX10_readMaze s m args below meth c H locs 0 0 Q (F0 m 320 ls [.int s_1])) ?_ ?_
    · intro s_1 hf H locs ls ⟨hP, hD, hS⟩ hl
      refine lv_istore_n (lv' := [(3, .int s_1), (0, .ref mo), (1, .int x1_1), (2, .int x2_1)]) hx hb dX10_readMaze_320 rfl hl (by decide) rfl (fun ls hl => ?_)
      refine lv_iload_n hx hb dX10_readMaze_321 rfl (lv_at hl 2 rfl) ?_
      refine lv_if_eq (tgt := 349) hx hb dX10_readMaze_322 (by decide) (fun c1 => ?_) (fun c1 => ?_)
      · have hf := qob_t hf c1
        refine lv_aload_n hx hb dX10_readMaze_349 rfl (lv_at hl 1 rfl) ?_
        refine va_get (D := D) (ci := 10) (v := .int m_textSize) (C := RX10) (T := TX10) (N := 34) hx hb hts inwX10_readMaze_X10 hown hK hP 0 rfl rfl 2 (by decide) (hts (.fieldLink RX10 88 "HedgeWaysModel" "textSize" "I") (List.mem_of_getElem? (i := 3) rfl)) (fun _ h9 => h9) rfl dX10_readMaze_350 ?_
        cases qob_ret hf
        exact ct_iret X hQ hK hP hD hS rfl dX10_readMaze_353
      · have hf := qob_f hf c1
        refine lv_aload_n hx hb dX10_readMaze_325 rfl (lv_at hl 1 rfl) ?_
        refine va_get (D := D) (ci := 10) (v := .int m_readRows_1) (C := RX10) (T := TX10) (N := 34) hx hb hts inwX10_readMaze_X10 hown hK hP 0 rfl rfl 9 (by decide) (hts (.fieldLink RX10 91 "HedgeWaysModel" "readRows" "I") (List.mem_of_getElem? (i := 1) rfl)) (fun _ h9 => h9) rfl dX10_readMaze_326 ?_
        refine lv_iconst (v := 1) hx hb dX10_readMaze_329 (by decide) ?_
        refine lv_icmp_le (tgt := 341) hx hb dX10_readMaze_330 (by decide) (fun c2 => ?_) (fun c2 => ?_)
        · have hf := qob_t hf c2
          refine lv_iload_n hx hb dX10_readMaze_341 rfl (lv_at hl 0 rfl) ?_
          refine lv_if_ne (tgt := 349) hx hb dX10_readMaze_342 (by decide) (fun c3 => ?_) (fun c3 => ?_)
          · have hf := qob_f hf c3
            refine lv_aload_n hx hb dX10_readMaze_349 rfl (lv_at hl 1 rfl) ?_
            refine va_get (D := D) (ci := 10) (v := .int m_textSize) (C := RX10) (T := TX10) (N := 34) hx hb hts inwX10_readMaze_X10 hown hK hP 0 rfl rfl 2 (by decide) (hts (.fieldLink RX10 88 "HedgeWaysModel" "textSize" "I") (List.mem_of_getElem? (i := 3) rfl)) (fun _ h9 => h9) rfl dX10_readMaze_350 ?_
            cases qob_ret hf
            exact ct_iret X hQ hK hP hD hS rfl dX10_readMaze_353
          · have hf := qob_t hf c3
            refine lv_iload_n hx hb dX10_readMaze_345 rfl (lv_at hl 3 rfl) ?_
            refine lv_if_eq (tgt := 354) hx hb dX10_readMaze_346 (by decide) (fun c4 => ?_) (fun c4 => ?_)
            · have hf := qob_t hf c4
              refine lv_aload_n hx hb dX10_readMaze_354 rfl (lv_at hl 1 rfl) ?_
              refine lv_iload_n hx hb dX10_readMaze_355 rfl (lv_at hl 2 rfl) ?_
              refine va_put (D := D) (ci := 10) (v := .int x1_1) (ty := .int) (C := RX10) (T := TX10) (N := 34) hx hb hts inwX10_readMaze_X10 tyX10 tyX10_ok nmX10 hown hK hP hD hS 0 rfl rfl 10 (by decide) (hts (.fieldLink RX10 94 "HedgeWaysModel" "readColumns" "I") (List.mem_of_getElem? (i := 2) rfl)) (fun _ h9 => h9) rfl (tyX10_ok 10 (by decide)) rfl rfl (Nat.le_of_ble_eq_true rfl) dX10_readMaze_356 (fun H locs hP hD hS => ?_)
              have hP : va_P D vwCl ([oX10 mo ma m_thrown m_textSize m_rows m_columns m_a m_b m_readRows_1 x1_1 m_at m_looks m_came m_draw m_turnedRows m_turnedColumns, aI cy (ma 0) 41 m_text, aI cy (ma 3) 36 m_read_1]) H := hP
              have hD : va_D A ([oX10 mo ma m_thrown m_textSize m_rows m_columns m_a m_b m_readRows_1 x1_1 m_at m_looks m_came m_draw m_turnedRows m_turnedColumns, aI cy (ma 0) 41 m_text, aI cy (ma 3) 36 m_read_1]) := hD
              refine lv_bipush (v := (-9)) hx hb dX10_readMaze_359 (by decide) ?_
              cases qob_ret hf
              exact ct_iret X hQ hK hP hD hS rfl dX10_readMaze_361
            · have hf := qob_f hf c4
              refine lv_aload_n hx hb dX10_readMaze_349 rfl (lv_at hl 1 rfl) ?_
              refine va_get (D := D) (ci := 10) (v := .int m_textSize) (C := RX10) (T := TX10) (N := 34) hx hb hts inwX10_readMaze_X10 hown hK hP 0 rfl rfl 2 (by decide) (hts (.fieldLink RX10 88 "HedgeWaysModel" "textSize" "I") (List.mem_of_getElem? (i := 3) rfl)) (fun _ h9 => h9) rfl dX10_readMaze_350 ?_
              cases qob_ret hf
              exact ct_iret X hQ hK hP hD hS rfl dX10_readMaze_353
        · have hf := qob_f hf c2
          refine lv_iload_n hx hb dX10_readMaze_333 rfl (lv_at hl 2 rfl) ?_
          refine lv_aload_n hx hb dX10_readMaze_334 rfl (lv_at hl 1 rfl) ?_
          refine va_get (D := D) (ci := 10) (v := .int m_readColumns_1) (C := RX10) (T := TX10) (N := 34) hx hb hts inwX10_readMaze_X10 hown hK hP 0 rfl rfl 10 (by decide) (hts (.fieldLink RX10 94 "HedgeWaysModel" "readColumns" "I") (List.mem_of_getElem? (i := 2) rfl)) (fun _ h9 => h9) rfl dX10_readMaze_335 ?_
          refine lv_icmp_lt (tgt := 349) hx hb dX10_readMaze_338 (by decide) (fun c5 => ?_) (fun c5 => ?_)
          · have hf := qob_t hf c5
            refine lv_aload_n hx hb dX10_readMaze_349 rfl (lv_at hl 1 rfl) ?_
            refine va_get (D := D) (ci := 10) (v := .int m_textSize) (C := RX10) (T := TX10) (N := 34) hx hb hts inwX10_readMaze_X10 hown hK hP 0 rfl rfl 2 (by decide) (hts (.fieldLink RX10 88 "HedgeWaysModel" "textSize" "I") (List.mem_of_getElem? (i := 3) rfl)) (fun _ h9 => h9) rfl dX10_readMaze_350 ?_
            cases qob_ret hf
            exact ct_iret X hQ hK hP hD hS rfl dX10_readMaze_353
          · have hf := qob_f hf c5
            refine lv_iload_n hx hb dX10_readMaze_341 rfl (lv_at hl 0 rfl) ?_
            refine lv_if_ne (tgt := 349) hx hb dX10_readMaze_342 (by decide) (fun c6 => ?_) (fun c6 => ?_)
            · have hf := qob_f hf c6
              refine lv_aload_n hx hb dX10_readMaze_349 rfl (lv_at hl 1 rfl) ?_
              refine va_get (D := D) (ci := 10) (v := .int m_textSize) (C := RX10) (T := TX10) (N := 34) hx hb hts inwX10_readMaze_X10 hown hK hP 0 rfl rfl 2 (by decide) (hts (.fieldLink RX10 88 "HedgeWaysModel" "textSize" "I") (List.mem_of_getElem? (i := 3) rfl)) (fun _ h9 => h9) rfl dX10_readMaze_350 ?_
              cases qob_ret hf
              exact ct_iret X hQ hK hP hD hS rfl dX10_readMaze_353
            · have hf := qob_t hf c6
              refine lv_iload_n hx hb dX10_readMaze_345 rfl (lv_at hl 3 rfl) ?_
              refine lv_if_eq (tgt := 354) hx hb dX10_readMaze_346 (by decide) (fun c7 => ?_) (fun c7 => ?_)
              · have hf := qob_t hf c7
                refine lv_aload_n hx hb dX10_readMaze_354 rfl (lv_at hl 1 rfl) ?_
                refine lv_iload_n hx hb dX10_readMaze_355 rfl (lv_at hl 2 rfl) ?_
                refine va_put (D := D) (ci := 10) (v := .int x1_1) (ty := .int) (C := RX10) (T := TX10) (N := 34) hx hb hts inwX10_readMaze_X10 tyX10 tyX10_ok nmX10 hown hK hP hD hS 0 rfl rfl 10 (by decide) (hts (.fieldLink RX10 94 "HedgeWaysModel" "readColumns" "I") (List.mem_of_getElem? (i := 2) rfl)) (fun _ h9 => h9) rfl (tyX10_ok 10 (by decide)) rfl rfl (Nat.le_of_ble_eq_true rfl) dX10_readMaze_356 (fun H locs hP hD hS => ?_)
                have hP : va_P D vwCl ([oX10 mo ma m_thrown m_textSize m_rows m_columns m_a m_b m_readRows_1 x1_1 m_at m_looks m_came m_draw m_turnedRows m_turnedColumns, aI cy (ma 0) 41 m_text, aI cy (ma 3) 36 m_read_1]) H := hP
                have hD : va_D A ([oX10 mo ma m_thrown m_textSize m_rows m_columns m_a m_b m_readRows_1 x1_1 m_at m_looks m_came m_draw m_turnedRows m_turnedColumns, aI cy (ma 0) 41 m_text, aI cy (ma 3) 36 m_read_1]) := hD
                refine lv_bipush (v := (-9)) hx hb dX10_readMaze_359 (by decide) ?_
                cases qob_ret hf
                exact ct_iret X hQ hK hP hD hS rfl dX10_readMaze_361
              · have hf := qob_f hf c7
                refine lv_aload_n hx hb dX10_readMaze_349 rfl (lv_at hl 1 rfl) ?_
                refine va_get (D := D) (ci := 10) (v := .int m_textSize) (C := RX10) (T := TX10) (N := 34) hx hb hts inwX10_readMaze_X10 hown hK hP 0 rfl rfl 2 (by decide) (hts (.fieldLink RX10 88 "HedgeWaysModel" "textSize" "I") (List.mem_of_getElem? (i := 3) rfl)) (fun _ h9 => h9) rfl dX10_readMaze_350 ?_
                cases qob_ret hf
                exact ct_iret X hQ hK hP hD hS rfl dX10_readMaze_353
    · intro J8 hJ8 hf
      refine lv_if_le (tgt := 319) hx hb dX10_readMaze_288 (by decide) (fun c9 => ?_) (fun c9 => ?_)
      · have hf := qob_t hf c9
        refine lv_iconst (v := 0) hx hb dX10_readMaze_319 (by decide) ?_
        exact hJ8 0 hf _ _ _ ⟨hP, hD, hS⟩ hl
      · have hf := qob_f hf c9
        refine lv_aload_n hx hb dX10_readMaze_291 rfl (lv_at hl 0 rfl) ?_
        refine va_get (D := D) (ci := 10) (v := .ref (ma 3)) (C := RX10) (T := TX10) (N := 34) hx hb hts inwX10_readMaze_X10 hown hK hP 0 rfl rfl 11 (by decide) (hts (.fieldLink RX10 27 "HedgeWaysModel" "read" "[I") (List.mem_of_getElem? (i := 4) rfl)) (fun _ h9 => h9) rfl dX10_readMaze_292 ?_
        refine lv_bipush (v := 6) hx hb dX10_readMaze_295 (by decide) ?_
        refine lv_aload_n hx hb dX10_readMaze_297 rfl (lv_at hl 0 rfl) ?_
        refine va_get (D := D) (ci := 10) (v := .int m_readRows_1) (C := RX10) (T := TX10) (N := 34) hx hb hts inwX10_readMaze_X10 hown hK hP 0 rfl rfl 9 (by decide) (hts (.fieldLink RX10 91 "HedgeWaysModel" "readRows" "I") (List.mem_of_getElem? (i := 1) rfl)) (fun _ h9 => h9) rfl dX10_readMaze_298 ?_
        refine lv_iconst (v := 1) hx hb dX10_readMaze_301 (by decide) ?_
        refine lv_isub hx hb dX10_readMaze_302 ?_
        refine lv_imul hx hb dX10_readMaze_303 ?_
        refine lv_iload_n hx hb dX10_readMaze_304 rfl (lv_at hl 1 rfl) ?_
        refine lv_iadd hx hb dX10_readMaze_305 ?_
        refine lv_iconst (v := 1) hx hb dX10_readMaze_306 (by decide) ?_
        refine lv_isub hx hb dX10_readMaze_307 ?_
        obtain ⟨i10, hf⟩ := qob_gd hf
        refine va_iald hx hb hK hP 2 0 rfl rfl i10 dX10_readMaze_308 ?_
        refine lv_iconst (v := 2) hx hb dX10_readMaze_309 (by decide) ?_
        refine lv_irem hx hb dX10_readMaze_310 (by decide) ?_
        refine lv_iconst (v := 1) hx hb dX10_readMaze_311 (by decide) ?_
        refine lv_icmp_ne (tgt := 319) hx hb dX10_readMaze_312 (by decide) (fun c11 => ?_) (fun c11 => ?_)
        · have hf := qob_f hf c11
          refine lv_iconst (v := 0) hx hb dX10_readMaze_319 (by decide) ?_
          exact hJ8 0 hf _ _ _ ⟨hP, hD, hS⟩ hl
        · have hf := qob_t hf c11
          refine lv_iconst (v := 1) hx hb dX10_readMaze_315 (by decide) ?_
          refine lv_goto (tgt := 320) hx hb dX10_readMaze_316 (by decide) ?_
          exact hJ8 1 hf _ _ _ ⟨hP, hD, hS⟩ hl
  · intro J12 hJ12 hf
    refine qwalk6 (fun (x1_2 : Int32) (x2_2 : Int32) (x3_1 : Int32) (m_readRows_2 : Int32) (m_readColumns_2 : Int32) (m_read_2 : Nat → Int32) => ∀ (H : Heap) (locs : List Loc) (ls : Array Slot), ctW D A s ([oX10 mo ma m_thrown m_textSize m_rows m_columns m_a m_b m_readRows_2 m_readColumns_2 m_at m_looks m_came m_draw m_turnedRows m_turnedColumns, aI cy (ma 0) 41 m_text, aI cy (ma 3) 36 m_read_2]) H locs → lv_has ls 9 [(0, .ref mo), (1, .int x1_2), (2, .int x2_2), (3, .int x3_1)] → W p l e rmX10_readMaze s m args below meth c H locs 0 0 Q (F0 m 17 ls [])) ?_ _ (0 : Int32) (0 : Int32) (0 : Int32) (1 : Int32) (6 : Int32) m_read hf _ _ _ ⟨hP, hD, hS⟩ (lv_sub hl [3, 2, 1, 0] rfl)
    intro J13 hL13 x1_2 x2_2 x3_1 m_readRows_2 m_readColumns_2 m_read_2 hf H locs ls ⟨hP, hD, hS⟩ hl
    refine lv_iload_n hx hb dX10_readMaze_17 rfl (lv_at hl 3 rfl) ?_
    refine lv_aload_n hx hb dX10_readMaze_18 rfl (lv_at hl 0 rfl) ?_
    refine va_get (D := D) (ci := 10) (v := .int m_textSize) (C := RX10) (T := TX10) (N := 34) hx hb hts inwX10_readMaze_X10 hown hK hP 0 rfl rfl 2 (by decide) (hts (.fieldLink RX10 88 "HedgeWaysModel" "textSize" "I") (List.mem_of_getElem? (i := 3) rfl)) (fun _ h9 => h9) rfl dX10_readMaze_19 ?_
    refine lv_icmp_ge (tgt := 287) hx hb dX10_readMaze_22 (by decide) (fun c14 => ?_) (fun c14 => ?_)
    · have hf := qob_t hf c14
      have hf := qob_esc hf
      exact hJ12 x1_2 x2_2 m_readRows_2 m_readColumns_2 m_read_2 hf _ _ _ ⟨hP, hD, hS⟩ (lv_sub hl [0, 1, 2] rfl)
    · have hf := qob_f hf c14
      refine lv_aload_n hx hb dX10_readMaze_25 rfl (lv_at hl 0 rfl) ?_
      refine va_get (D := D) (ci := 10) (v := .int m_readRows_2) (C := RX10) (T := TX10) (N := 34) hx hb hts inwX10_readMaze_X10 hown hK hP 0 rfl rfl 9 (by decide) (hts (.fieldLink RX10 91 "HedgeWaysModel" "readRows" "I") (List.mem_of_getElem? (i := 1) rfl)) (fun _ h9 => h9) rfl dX10_readMaze_26 ?_
      refine lv_iconst (v := 1) hx hb dX10_readMaze_29 (by decide) ?_
      refine qjoin1 hf (fun (s_2 : Int32) => ∀ (H : Heap) (locs : List Loc) (ls : Array Slot), ctW D A s ([oX10 mo ma m_thrown m_textSize m_rows m_columns m_a m_b m_readRows_2 m_readColumns_2 m_at m_looks m_came m_draw m_turnedRows m_turnedColumns, aI cy (ma 0) 41 m_text, aI cy (ma 3) 36 m_read_2]) H locs → lv_has ls 9 [(0, .ref mo), (1, .int x1_2), (2, .int x2_2), (3, .int x3_1)] → W p l e rmX10_readMaze s m args below meth c H locs 0 0 Q (F0 m 38 ls [.int s_2])) ?_ ?_
      · intro s_2 hf H locs ls ⟨hP, hD, hS⟩ hl
        refine lv_istore (lv' := [(4, .int s_2), (0, .ref mo), (1, .int x1_2), (2, .int x2_2), (3, .int x3_1)]) hx hb dX10_readMaze_38 hl (by decide) rfl (fun ls hl => ?_)
        refine lv_iload_n hx hb dX10_readMaze_40 rfl (lv_at hl 2 rfl) ?_
        refine qjoin1 hf (fun (s_3 : Int32) => ∀ (H : Heap) (locs : List Loc) (ls : Array Slot), ctW D A s ([oX10 mo ma m_thrown m_textSize m_rows m_columns m_a m_b m_readRows_2 m_readColumns_2 m_at m_looks m_came m_draw m_turnedRows m_turnedColumns, aI cy (ma 0) 41 m_text, aI cy (ma 3) 36 m_read_2]) H locs → lv_has ls 9 [(0, .ref mo), (1, .int x1_2), (2, .int x2_2), (3, .int x3_1), (4, .int s_2)] → W p l e rmX10_readMaze s m args below meth c H locs 0 0 Q (F0 m 73 ls [.int s_3])) ?_ ?_
        · intro s_3 hf H locs ls ⟨hP, hD, hS⟩ hl
          refine lv_istore (lv' := [(5, .int s_3), (0, .ref mo), (1, .int x1_2), (2, .int x2_2), (3, .int x3_1), (4, .int s_2)]) hx hb dX10_readMaze_73 hl (by decide) rfl (fun ls hl => ?_)
          refine lv_aload_n hx hb dX10_readMaze_75 rfl (lv_at hl 1 rfl) ?_
          refine va_get (D := D) (ci := 10) (v := .ref (ma 0)) (C := RX10) (T := TX10) (N := 34) hx hb hts inwX10_readMaze_X10 hown hK hP 0 rfl rfl 1 (by decide) (hts (.fieldLink RX10 7 "HedgeWaysModel" "text" "[I") (List.mem_of_getElem? (i := 5) rfl)) (fun _ h9 => h9) rfl dX10_readMaze_76 ?_
          refine lv_iload_n hx hb dX10_readMaze_79 rfl (lv_at hl 4 rfl) ?_
          obtain ⟨i15, hf⟩ := qob_gd hf
          refine va_iald hx hb hK hP 1 0 rfl rfl i15 dX10_readMaze_80 ?_
          refine lv_bipush (v := 47) hx hb dX10_readMaze_81 (by decide) ?_
          refine lv_icmp_ne (tgt := 153) hx hb dX10_readMaze_83 (by decide) (fun c16 => ?_) (fun c16 => ?_)
          · have hf := qob_f hf c16
            refine lv_aload_n hx hb dX10_readMaze_153 rfl (lv_at hl 1 rfl) ?_
            refine va_get (D := D) (ci := 10) (v := .ref (ma 0)) (C := RX10) (T := TX10) (N := 34) hx hb hts inwX10_readMaze_X10 hown hK hP 0 rfl rfl 1 (by decide) (hts (.fieldLink RX10 7 "HedgeWaysModel" "text" "[I") (List.mem_of_getElem? (i := 5) rfl)) (fun _ h9 => h9) rfl dX10_readMaze_154 ?_
            refine lv_iload_n hx hb dX10_readMaze_157 rfl (lv_at hl 4 rfl) ?_
            obtain ⟨i17, hf⟩ := qob_gd hf
            refine va_iald hx hb hK hP 1 0 rfl rfl i17 dX10_readMaze_158 ?_
            refine lv_bipush (v := 48) hx hb dX10_readMaze_159 (by decide) ?_
            refine lv_isub hx hb dX10_readMaze_161 ?_
            refine lv_istore (lv' := [(6, .int ((m_text x3_1.toNatClampNeg) - 48)), (5, .int s_3), (0, .ref mo), (1, .int x1_2), (2, .int x2_2), (3, .int x3_1), (4, .int s_2)]) hx hb dX10_readMaze_162 hl (by decide) rfl (fun ls hl => ?_)
            refine lv_iload_n hx hb dX10_readMaze_164 rfl (lv_at hl 3 rfl) ?_
            refine lv_aload_n hx hb dX10_readMaze_165 rfl (lv_at hl 2 rfl) ?_
            refine va_get (D := D) (ci := 10) (v := .int m_readColumns_2) (C := RX10) (T := TX10) (N := 34) hx hb hts inwX10_readMaze_X10 hown hK hP 0 rfl rfl 10 (by decide) (hts (.fieldLink RX10 94 "HedgeWaysModel" "readColumns" "I") (List.mem_of_getElem? (i := 2) rfl)) (fun _ h9 => h9) rfl dX10_readMaze_166 ?_
            refine lv_iconst (v := 1) hx hb dX10_readMaze_169 (by decide) ?_
            refine lv_isub hx hb dX10_readMaze_170 ?_
            refine qjoin1 hf (fun (s_4 : Int32) => ∀ (H : Heap) (locs : List Loc) (ls : Array Slot), ctW D A s ([oX10 mo ma m_thrown m_textSize m_rows m_columns m_a m_b m_readRows_2 m_readColumns_2 m_at m_looks m_came m_draw m_turnedRows m_turnedColumns, aI cy (ma 0) 41 m_text, aI cy (ma 3) 36 m_read_2]) H locs → lv_has ls 9 [(0, .ref mo), (1, .int x1_2), (2, .int x2_2), (3, .int x3_1), (6, .int ((m_text x3_1.toNatClampNeg) - 48))] → W p l e rmX10_readMaze s m args below meth c H locs 0 0 Q (F0 m 179 ls [.int s_4])) ?_ ?_
            · intro s_4 hf H locs ls ⟨hP, hD, hS⟩ hl
              refine lv_istore (lv' := [(7, .int s_4), (0, .ref mo), (1, .int x1_2), (2, .int x2_2), (3, .int x3_1), (6, .int ((m_text x3_1.toNatClampNeg) - 48))]) hx hb dX10_readMaze_179 hl (by decide) rfl (fun ls hl => ?_)
              refine lv_iload hx hb dX10_readMaze_181 (lv_at hl 5 rfl) ?_
              refine lv_i2l (v := ((m_text x3_1.toNatClampNeg) - 48).toInt64) hx hb dX10_readMaze_183 rfl ?_
              refine lv_lconst (v := 0) hx hb dX10_readMaze_184 (by decide) ?_
              refine lv_ldc2 hx hb hown (hts (.constantLong RX10 97 (3)) (List.mem_of_getElem? (i := 6) rfl)) dX10_readMaze_185 ?_
              refine ctS_i0 (r := (fX10_in (((m_text x3_1.toNatClampNeg) - 48).toInt64) 0 3)) (wc := []) (As := [.long (((m_text x3_1.toNatClampNeg) - 48).toInt64), .long 0, .long 3]) (rest := []) X hK hP hD hS [] rfl rfl rfl (KX10_in rfl _) (va_cwS 3 hts gX10_readMaze_X10_in rfl rfl rfl hdX10_in ⟨Nat.le_of_ble_eq_true rfl, Nat.le_of_ble_eq_true rfl⟩) rfl hl rfl (Nat.le_of_ble_eq_true rfl) dX10_readMaze_188 (Nat.zero_le _) (Nat.zero_le _) (fun H locs hP hS => ?_)
              refine qjoin1 hf (fun (s_5 : Int32) => ∀ (H : Heap) (locs : List Loc) (ls : Array Slot), ctW D A s ([oX10 mo ma m_thrown m_textSize m_rows m_columns m_a m_b m_readRows_2 m_readColumns_2 m_at m_looks m_came m_draw m_turnedRows m_turnedColumns, aI cy (ma 0) 41 m_text, aI cy (ma 3) 36 m_read_2]) H locs → lv_has ls 9 [(0, .ref mo), (1, .int x1_2), (2, .int x2_2), (3, .int x3_1), (6, .int ((m_text x3_1.toNatClampNeg) - 48))] → W p l e rmX10_readMaze s m args below meth c H locs 0 0 Q (F0 m 235 ls [.int s_5])) ?_ ?_
              · intro s_5 hf H locs ls ⟨hP, hD, hS⟩ hl
                refine lv_istore (lv' := [(8, .int s_5), (0, .ref mo), (1, .int x1_2), (2, .int x2_2), (3, .int x3_1), (6, .int ((m_text x3_1.toNatClampNeg) - 48))]) hx hb dX10_readMaze_235 hl (by decide) rfl (fun ls hl => ?_)
                refine lv_iload hx hb dX10_readMaze_237 (lv_at hl 0 rfl) ?_
                refine lv_if_ne (tgt := 244) hx hb dX10_readMaze_239 (by decide) (fun c18 => ?_) (fun c18 => ?_)
                · have hf := qob_f hf c18
                  refine lv_aload_n hx hb dX10_readMaze_244 rfl (lv_at hl 1 rfl) ?_
                  refine va_get (D := D) (ci := 10) (v := .ref (ma 3)) (C := RX10) (T := TX10) (N := 34) hx hb hts inwX10_readMaze_X10 hown hK hP 0 rfl rfl 11 (by decide) (hts (.fieldLink RX10 27 "HedgeWaysModel" "read" "[I") (List.mem_of_getElem? (i := 4) rfl)) (fun _ h9 => h9) rfl dX10_readMaze_245 ?_
                  refine lv_bipush (v := 6) hx hb dX10_readMaze_248 (by decide) ?_
                  refine lv_aload_n hx hb dX10_readMaze_250 rfl (lv_at hl 1 rfl) ?_
                  refine va_get (D := D) (ci := 10) (v := .int m_readRows_2) (C := RX10) (T := TX10) (N := 34) hx hb hts inwX10_readMaze_X10 hown hK hP 0 rfl rfl 9 (by decide) (hts (.fieldLink RX10 91 "HedgeWaysModel" "readRows" "I") (List.mem_of_getElem? (i := 1) rfl)) (fun _ h9 => h9) rfl dX10_readMaze_251 ?_
                  refine lv_iconst (v := 1) hx hb dX10_readMaze_254 (by decide) ?_
                  refine lv_isub hx hb dX10_readMaze_255 ?_
                  refine lv_imul hx hb dX10_readMaze_256 ?_
                  refine lv_iload_n hx hb dX10_readMaze_257 rfl (lv_at hl 2 rfl) ?_
                  refine lv_iadd hx hb dX10_readMaze_258 ?_
                  refine lv_iload hx hb dX10_readMaze_259 (lv_at hl 5 rfl) ?_
                  obtain ⟨i19, hf⟩ := qob_gd hf
                  obtain ⟨m_read_3, e20⟩ : ∃ z, z = (upd m_read_2 (((6 * (m_readRows_2 - 1)) + x1_2)).toNatClampNeg ((m_text x3_1.toNatClampNeg) - 48)) := ⟨_, rfl⟩
                  have hf := qob_bd hf e20
                  refine va_iast hx hb hK hP hD hS 2 0 rfl rfl i19 dX10_readMaze_261 (fun H locs hP hD hS => ?_)
                  have hP : va_P D vwCl ([oX10 mo ma m_thrown m_textSize m_rows m_columns m_a m_b m_readRows_2 m_readColumns_2 m_at m_looks m_came m_draw m_turnedRows m_turnedColumns, aI cy (ma 0) 41 m_text, aI cy (ma 3) 36 m_read_3]) H := by rw [e20]; exact hP
                  have hD : va_D A ([oX10 mo ma m_thrown m_textSize m_rows m_columns m_a m_b m_readRows_2 m_readColumns_2 m_at m_looks m_came m_draw m_turnedRows m_turnedColumns, aI cy (ma 0) 41 m_text, aI cy (ma 3) 36 m_read_3]) := by rw [e20]; exact hD
                  refine lv_iload_n hx hb dX10_readMaze_262 rfl (lv_at hl 3 rfl) ?_
                  refine qjoin1 hf (fun (s_6 : Int32) => ∀ (H : Heap) (locs : List Loc) (ls : Array Slot), ctW D A s ([oX10 mo ma m_thrown m_textSize m_rows m_columns m_a m_b m_readRows_2 m_readColumns_2 m_at m_looks m_came m_draw m_turnedRows m_turnedColumns, aI cy (ma 0) 41 m_text, aI cy (ma 3) 36 m_read_3]) H locs → lv_has ls 9 [(0, .ref mo), (1, .int x1_2), (3, .int x3_1)] → W p l e rmX10_readMaze s m args below meth c H locs 0 0 Q (F0 m 277 ls [.int s_6])) ?_ ?_
                  · intro s_6 hf H locs ls ⟨hP, hD, hS⟩ hl
                    refine lv_istore_n (lv' := [(2, .int s_6), (0, .ref mo), (1, .int x1_2), (3, .int x3_1)]) hx hb dX10_readMaze_277 rfl hl (by decide) rfl (fun ls hl => ?_)
                    refine lv_iinc (v := (x1_2 + 1)) (lv' := [(1, .int (x1_2 + 1)), (2, .int s_6), (0, .ref mo), (3, .int x3_1)]) hx hb dX10_readMaze_278 hl (k := 2) rfl rfl (by decide) rfl (fun ls hl => ?_)
                    refine lv_iinc (v := (x3_1 + 1)) (lv' := [(3, .int (x3_1 + 1)), (1, .int (x1_2 + 1)), (2, .int s_6), (0, .ref mo)]) hx hb dX10_readMaze_281 hl (k := 3) rfl rfl (by decide) rfl (fun ls hl => ?_)
                    refine lv_goto (tgt := 17) hx hb dX10_readMaze_284 (by decide) ?_
                    exact hL13 (x1_2 + 1) s_6 (x3_1 + 1) m_readRows_2 m_readColumns_2 m_read_3 hf _ _ _ ⟨hP, hD, hS⟩ (lv_sub hl [3, 1, 2, 0] rfl)
                  · intro J21 hJ21 hf
                    refine lv_if_ne (tgt := 272) hx hb dX10_readMaze_263 (by decide) (fun c22 => ?_) (fun c22 => ?_)
                    · have hf := qob_f hf c22
                      refine lv_iconst (v := 1) hx hb dX10_readMaze_272 (by decide) ?_
                      refine lv_goto (tgt := 277) hx hb dX10_readMaze_273 (by decide) ?_
                      exact hJ21 1 hf _ _ _ ⟨hP, hD, hS⟩ (lv_sub hl [1, 2, 4] rfl)
                    · have hf := qob_t hf c22
                      refine lv_iload hx hb dX10_readMaze_266 (lv_at hl 5 rfl) ?_
                      refine lv_iconst (v := 1) hx hb dX10_readMaze_268 (by decide) ?_
                      refine lv_icmp_le (tgt := 276) hx hb dX10_readMaze_269 (by decide) (fun c23 => ?_) (fun c23 => ?_)
                      · have hf := qob_t hf c23
                        refine lv_iconst (v := 0) hx hb dX10_readMaze_276 (by decide) ?_
                        exact hJ21 0 hf _ _ _ ⟨hP, hD, hS⟩ (lv_sub hl [1, 2, 4] rfl)
                      · have hf := qob_f hf c23
                        refine lv_iconst (v := 1) hx hb dX10_readMaze_272 (by decide) ?_
                        refine lv_goto (tgt := 277) hx hb dX10_readMaze_273 (by decide) ?_
                        exact hJ21 1 hf _ _ _ ⟨hP, hD, hS⟩ (lv_sub hl [1, 2, 4] rfl)
                · have hf := qob_t hf c18
                  refine lv_iload_n hx hb dX10_readMaze_242 rfl (lv_at hl 4 rfl) ?_
                  have hf := qob_esc hf
                  have hf := qob_esc hf
                  cases qob_ret hf
                  exact ct_iret X hQ hK hP hD hS rfl dX10_readMaze_243
              · intro J24 hJ24 hf
                refine lv_if_eq (tgt := 234) hx hb dX10_readMaze_191 (by decide) (fun c25 => ?_) (fun c25 => ?_)
                · have hf := qob_t hf c25
                  refine lv_iconst (v := 0) hx hb dX10_readMaze_234 (by decide) ?_
                  exact hJ24 0 hf _ _ _ ⟨hP, hD, hS⟩ (lv_sub hl [1, 2, 3, 4, 5] rfl)
                · have hf := qob_f hf c25
                  refine lv_iload_n hx hb dX10_readMaze_194 rfl (lv_at hl 2 rfl) ?_
                  refine lv_aload_n hx hb dX10_readMaze_195 rfl (lv_at hl 1 rfl) ?_
                  refine va_get (D := D) (ci := 10) (v := .int m_readColumns_2) (C := RX10) (T := TX10) (N := 34) hx hb hts inwX10_readMaze_X10 hown hK hP 0 rfl rfl 10 (by decide) (hts (.fieldLink RX10 94 "HedgeWaysModel" "readColumns" "I") (List.mem_of_getElem? (i := 2) rfl)) (fun _ h9 => h9) rfl dX10_readMaze_196 ?_
                  refine lv_icmp_ge (tgt := 234) hx hb dX10_readMaze_199 (by decide) (fun c26 => ?_) (fun c26 => ?_)
                  · have hf := qob_t hf c26
                    refine lv_iconst (v := 0) hx hb dX10_readMaze_234 (by decide) ?_
                    exact hJ24 0 hf _ _ _ ⟨hP, hD, hS⟩ (lv_sub hl [1, 2, 3, 4, 5] rfl)
                  · have hf := qob_f hf c26
                    refine lv_iload hx hb dX10_readMaze_202 (lv_at hl 0 rfl) ?_
                    refine lv_if_eq (tgt := 215) hx hb dX10_readMaze_204 (by decide) (fun c27 => ?_) (fun c27 => ?_)
                    · have hf := qob_t hf c27
                      refine lv_aload_n hx hb dX10_readMaze_215 rfl (lv_at hl 1 rfl) ?_
                      refine va_get (D := D) (ci := 10) (v := .int m_readRows_2) (C := RX10) (T := TX10) (N := 34) hx hb hts inwX10_readMaze_X10 hown hK hP 0 rfl rfl 9 (by decide) (hts (.fieldLink RX10 91 "HedgeWaysModel" "readRows" "I") (List.mem_of_getElem? (i := 1) rfl)) (fun _ h9 => h9) rfl dX10_readMaze_216 ?_
                      refine lv_bipush (v := 6) hx hb dX10_readMaze_219 (by decide) ?_
                      refine lv_icmp_ne (tgt := 230) hx hb dX10_readMaze_221 (by decide) (fun c28 => ?_) (fun c28 => ?_)
                      · have hf := qob_f hf c28
                        refine lv_iconst (v := 1) hx hb dX10_readMaze_230 (by decide) ?_
                        refine lv_goto (tgt := 235) hx hb dX10_readMaze_231 (by decide) ?_
                        exact hJ24 1 hf _ _ _ ⟨hP, hD, hS⟩ (lv_sub hl [1, 2, 3, 4, 5] rfl)
                      · have hf := qob_t hf c28
                        refine lv_iload hx hb dX10_readMaze_224 (lv_at hl 5 rfl) ?_
                        refine lv_iconst (v := 1) hx hb dX10_readMaze_226 (by decide) ?_
                        refine lv_icmp_gt (tgt := 234) hx hb dX10_readMaze_227 (by decide) (fun c29 => ?_) (fun c29 => ?_)
                        · have hf := qob_t hf c29
                          refine lv_iconst (v := 0) hx hb dX10_readMaze_234 (by decide) ?_
                          exact hJ24 0 hf _ _ _ ⟨hP, hD, hS⟩ (lv_sub hl [1, 2, 3, 4, 5] rfl)
                        · have hf := qob_f hf c29
                          refine lv_iconst (v := 1) hx hb dX10_readMaze_230 (by decide) ?_
                          refine lv_goto (tgt := 235) hx hb dX10_readMaze_231 (by decide) ?_
                          exact hJ24 1 hf _ _ _ ⟨hP, hD, hS⟩ (lv_sub hl [1, 2, 3, 4, 5] rfl)
                    · have hf := qob_f hf c27
                      refine lv_iload hx hb dX10_readMaze_207 (lv_at hl 5 rfl) ?_
                      refine lv_iconst (v := 2) hx hb dX10_readMaze_209 (by decide) ?_
                      refine lv_irem hx hb dX10_readMaze_210 (by decide) ?_
                      refine lv_iconst (v := 1) hx hb dX10_readMaze_211 (by decide) ?_
                      refine lv_icmp_eq (tgt := 234) hx hb dX10_readMaze_212 (by decide) (fun c30 => ?_) (fun c30 => ?_)
                      · have hf := qob_t hf c30
                        refine lv_iconst (v := 0) hx hb dX10_readMaze_234 (by decide) ?_
                        exact hJ24 0 hf _ _ _ ⟨hP, hD, hS⟩ (lv_sub hl [1, 2, 3, 4, 5] rfl)
                      · have hf := qob_f hf c30
                        refine lv_aload_n hx hb dX10_readMaze_215 rfl (lv_at hl 1 rfl) ?_
                        refine va_get (D := D) (ci := 10) (v := .int m_readRows_2) (C := RX10) (T := TX10) (N := 34) hx hb hts inwX10_readMaze_X10 hown hK hP 0 rfl rfl 9 (by decide) (hts (.fieldLink RX10 91 "HedgeWaysModel" "readRows" "I") (List.mem_of_getElem? (i := 1) rfl)) (fun _ h9 => h9) rfl dX10_readMaze_216 ?_
                        refine lv_bipush (v := 6) hx hb dX10_readMaze_219 (by decide) ?_
                        refine lv_icmp_ne (tgt := 230) hx hb dX10_readMaze_221 (by decide) (fun c31 => ?_) (fun c31 => ?_)
                        · have hf := qob_f hf c31
                          refine lv_iconst (v := 1) hx hb dX10_readMaze_230 (by decide) ?_
                          refine lv_goto (tgt := 235) hx hb dX10_readMaze_231 (by decide) ?_
                          exact hJ24 1 hf _ _ _ ⟨hP, hD, hS⟩ (lv_sub hl [1, 2, 3, 4, 5] rfl)
                        · have hf := qob_t hf c31
                          refine lv_iload hx hb dX10_readMaze_224 (lv_at hl 5 rfl) ?_
                          refine lv_iconst (v := 1) hx hb dX10_readMaze_226 (by decide) ?_
                          refine lv_icmp_gt (tgt := 234) hx hb dX10_readMaze_227 (by decide) (fun c32 => ?_) (fun c32 => ?_)
                          · have hf := qob_t hf c32
                            refine lv_iconst (v := 0) hx hb dX10_readMaze_234 (by decide) ?_
                            exact hJ24 0 hf _ _ _ ⟨hP, hD, hS⟩ (lv_sub hl [1, 2, 3, 4, 5] rfl)
                          · have hf := qob_f hf c32
                            refine lv_iconst (v := 1) hx hb dX10_readMaze_230 (by decide) ?_
                            refine lv_goto (tgt := 235) hx hb dX10_readMaze_231 (by decide) ?_
                            exact hJ24 1 hf _ _ _ ⟨hP, hD, hS⟩ (lv_sub hl [1, 2, 3, 4, 5] rfl)
            · intro J33 hJ33 hf
              refine lv_icmp_ne (tgt := 178) hx hb dX10_readMaze_171 (by decide) (fun c34 => ?_) (fun c34 => ?_)
              · have hf := qob_f hf c34
                refine lv_iconst (v := 0) hx hb dX10_readMaze_178 (by decide) ?_
                exact hJ33 0 hf _ _ _ ⟨hP, hD, hS⟩ (lv_sub hl [2, 3, 4, 5, 0] rfl)
              · have hf := qob_t hf c34
                refine lv_iconst (v := 1) hx hb dX10_readMaze_174 (by decide) ?_
                refine lv_goto (tgt := 179) hx hb dX10_readMaze_175 (by decide) ?_
                exact hJ33 1 hf _ _ _ ⟨hP, hD, hS⟩ (lv_sub hl [2, 3, 4, 5, 0] rfl)
          · have hf := qob_t hf c16
            refine lv_iload_n hx hb dX10_readMaze_86 rfl (lv_at hl 2 rfl) ?_
            refine qjoin1 hf (fun (s_7 : Int32) => ∀ (H : Heap) (locs : List Loc) (ls : Array Slot), ctW D A s ([oX10 mo ma m_thrown m_textSize m_rows m_columns m_a m_b m_readRows_2 m_readColumns_2 m_at m_looks m_came m_draw m_turnedRows m_turnedColumns, aI cy (ma 0) 41 m_text, aI cy (ma 3) 36 m_read_2]) H locs → lv_has ls 9 [(0, .ref mo), (1, .int x1_2), (3, .int x3_1)] → W p l e rmX10_readMaze s m args below meth c H locs 0 0 Q (F0 m 113 ls [.int s_7])) ?_ ?_
            · intro s_7 hf H locs ls ⟨hP, hD, hS⟩ hl
              refine lv_istore (lv' := [(6, .int s_7), (0, .ref mo), (1, .int x1_2), (3, .int x3_1)]) hx hb dX10_readMaze_113 hl (by decide) rfl (fun ls hl => ?_)
              refine lv_iload hx hb dX10_readMaze_115 (lv_at hl 0 rfl) ?_
              refine lv_if_eq (tgt := 129) hx hb dX10_readMaze_117 (by decide) (fun c35 => ?_) (fun c35 => ?_)
              · have hf := qob_t hf c35
                refine lv_iload_n hx hb dX10_readMaze_129 rfl (lv_at hl 3 rfl) ?_
                have hf := qob_esc hf
                have hf := qob_esc hf
                cases qob_ret hf
                exact ct_iret X hQ hK hP hD hS rfl dX10_readMaze_130
              · have hf := qob_f hf c35
                refine lv_aload_n hx hb dX10_readMaze_120 rfl (lv_at hl 1 rfl) ?_
                refine va_get (D := D) (ci := 10) (v := .int m_readRows_2) (C := RX10) (T := TX10) (N := 34) hx hb hts inwX10_readMaze_X10 hown hK hP 0 rfl rfl 9 (by decide) (hts (.fieldLink RX10 91 "HedgeWaysModel" "readRows" "I") (List.mem_of_getElem? (i := 1) rfl)) (fun _ h9 => h9) rfl dX10_readMaze_121 ?_
                refine lv_bipush (v := 6) hx hb dX10_readMaze_124 (by decide) ?_
                refine lv_icmp_ne (tgt := 131) hx hb dX10_readMaze_126 (by decide) (fun c36 => ?_) (fun c36 => ?_)
                · have hf := qob_f hf c36
                  refine lv_aload_n hx hb dX10_readMaze_131 rfl (lv_at hl 1 rfl) ?_
                  refine lv_iload_n hx hb dX10_readMaze_132 rfl (lv_at hl 2 rfl) ?_
                  refine va_put (D := D) (ci := 10) (v := .int x1_2) (ty := .int) (C := RX10) (T := TX10) (N := 34) hx hb hts inwX10_readMaze_X10 tyX10 tyX10_ok nmX10 hown hK hP hD hS 0 rfl rfl 10 (by decide) (hts (.fieldLink RX10 94 "HedgeWaysModel" "readColumns" "I") (List.mem_of_getElem? (i := 2) rfl)) (fun _ h9 => h9) rfl (tyX10_ok 10 (by decide)) rfl rfl (Nat.le_of_ble_eq_true rfl) dX10_readMaze_133 (fun H locs hP hD hS => ?_)
                  have hP : va_P D vwCl ([oX10 mo ma m_thrown m_textSize m_rows m_columns m_a m_b m_readRows_2 x1_2 m_at m_looks m_came m_draw m_turnedRows m_turnedColumns, aI cy (ma 0) 41 m_text, aI cy (ma 3) 36 m_read_2]) H := hP
                  have hD : va_D A ([oX10 mo ma m_thrown m_textSize m_rows m_columns m_a m_b m_readRows_2 x1_2 m_at m_looks m_came m_draw m_turnedRows m_turnedColumns, aI cy (ma 0) 41 m_text, aI cy (ma 3) 36 m_read_2]) := hD
                  refine lv_aload_n hx hb dX10_readMaze_136 rfl (lv_at hl 1 rfl) ?_
                  refine lv_dup hx hb dX10_readMaze_137 rfl ?_
                  refine va_get (D := D) (ci := 10) (v := .int m_readRows_2) (C := RX10) (T := TX10) (N := 34) hx hb hts inwX10_readMaze_X10 hown hK hP 0 rfl rfl 9 (by decide) (hts (.fieldLink RX10 91 "HedgeWaysModel" "readRows" "I") (List.mem_of_getElem? (i := 1) rfl)) (fun _ h9 => h9) rfl dX10_readMaze_138 ?_
                  refine lv_iconst (v := 1) hx hb dX10_readMaze_141 (by decide) ?_
                  refine lv_iadd hx hb dX10_readMaze_142 ?_
                  refine va_put (D := D) (ci := 10) (v := .int (m_readRows_2 + 1)) (ty := .int) (C := RX10) (T := TX10) (N := 34) hx hb hts inwX10_readMaze_X10 tyX10 tyX10_ok nmX10 hown hK hP hD hS 0 rfl rfl 9 (by decide) (hts (.fieldLink RX10 91 "HedgeWaysModel" "readRows" "I") (List.mem_of_getElem? (i := 1) rfl)) (fun _ h9 => h9) rfl (tyX10_ok 9 (by decide)) rfl rfl (Nat.le_of_ble_eq_true rfl) dX10_readMaze_143 (fun H locs hP hD hS => ?_)
                  have hP : va_P D vwCl ([oX10 mo ma m_thrown m_textSize m_rows m_columns m_a m_b (m_readRows_2 + 1) x1_2 m_at m_looks m_came m_draw m_turnedRows m_turnedColumns, aI cy (ma 0) 41 m_text, aI cy (ma 3) 36 m_read_2]) H := hP
                  have hD : va_D A ([oX10 mo ma m_thrown m_textSize m_rows m_columns m_a m_b (m_readRows_2 + 1) x1_2 m_at m_looks m_came m_draw m_turnedRows m_turnedColumns, aI cy (ma 0) 41 m_text, aI cy (ma 3) 36 m_read_2]) := hD
                  refine lv_iconst (v := 0) hx hb dX10_readMaze_146 (by decide) ?_
                  refine lv_istore_n (lv' := [(1, .int 0), (6, .int s_7), (0, .ref mo), (3, .int x3_1)]) hx hb dX10_readMaze_147 rfl hl (by decide) rfl (fun ls hl => ?_)
                  refine lv_iconst (v := 0) hx hb dX10_readMaze_148 (by decide) ?_
                  refine lv_istore_n (lv' := [(2, .int 0), (1, .int 0), (6, .int s_7), (0, .ref mo), (3, .int x3_1)]) hx hb dX10_readMaze_149 rfl hl (by decide) rfl (fun ls hl => ?_)
                  refine lv_goto (tgt := 281) hx hb dX10_readMaze_150 (by decide) ?_
                  refine lv_iinc (v := (x3_1 + 1)) (lv' := [(3, .int (x3_1 + 1)), (2, .int 0), (1, .int 0), (6, .int s_7), (0, .ref mo)]) hx hb dX10_readMaze_281 hl (k := 4) rfl rfl (by decide) rfl (fun ls hl => ?_)
                  refine lv_goto (tgt := 17) hx hb dX10_readMaze_284 (by decide) ?_
                  exact hL13 0 0 (x3_1 + 1) (m_readRows_2 + 1) x1_2 m_read_2 hf _ _ _ ⟨hP, hD, hS⟩ (lv_sub hl [4, 2, 1, 0] rfl)
                · have hf := qob_t hf c36
                  refine lv_iload_n hx hb dX10_readMaze_129 rfl (lv_at hl 3 rfl) ?_
                  have hf := qob_esc hf
                  have hf := qob_esc hf
                  cases qob_ret hf
                  exact ct_iret X hQ hK hP hD hS rfl dX10_readMaze_130
            · intro J37 hJ37 hf
              refine lv_if_le (tgt := 112) hx hb dX10_readMaze_87 (by decide) (fun c38 => ?_) (fun c38 => ?_)
              · have hf := qob_t hf c38
                refine lv_iconst (v := 0) hx hb dX10_readMaze_112 (by decide) ?_
                exact hJ37 0 hf _ _ _ ⟨hP, hD, hS⟩ (lv_sub hl [1, 2, 4] rfl)
              · have hf := qob_f hf c38
                refine lv_iload hx hb dX10_readMaze_90 (lv_at hl 0 rfl) ?_
                refine lv_if_ne (tgt := 112) hx hb dX10_readMaze_92 (by decide) (fun c39 => ?_) (fun c39 => ?_)
                · have hf := qob_f hf c39
                  refine lv_iconst (v := 0) hx hb dX10_readMaze_112 (by decide) ?_
                  exact hJ37 0 hf _ _ _ ⟨hP, hD, hS⟩ (lv_sub hl [1, 2, 4] rfl)
                · have hf := qob_t hf c39
                  refine lv_iload hx hb dX10_readMaze_95 (lv_at hl 5 rfl) ?_
                  refine lv_if_ne (tgt := 108) hx hb dX10_readMaze_97 (by decide) (fun c40 => ?_) (fun c40 => ?_)
                  · have hf := qob_f hf c40
                    refine lv_iconst (v := 1) hx hb dX10_readMaze_108 (by decide) ?_
                    refine lv_goto (tgt := 113) hx hb dX10_readMaze_109 (by decide) ?_
                    exact hJ37 1 hf _ _ _ ⟨hP, hD, hS⟩ (lv_sub hl [1, 2, 4] rfl)
                  · have hf := qob_t hf c40
                    refine lv_iload_n hx hb dX10_readMaze_100 rfl (lv_at hl 2 rfl) ?_
                    refine lv_aload_n hx hb dX10_readMaze_101 rfl (lv_at hl 1 rfl) ?_
                    refine va_get (D := D) (ci := 10) (v := .int m_readColumns_2) (C := RX10) (T := TX10) (N := 34) hx hb hts inwX10_readMaze_X10 hown hK hP 0 rfl rfl 10 (by decide) (hts (.fieldLink RX10 94 "HedgeWaysModel" "readColumns" "I") (List.mem_of_getElem? (i := 2) rfl)) (fun _ h9 => h9) rfl dX10_readMaze_102 ?_
                    refine lv_icmp_ne (tgt := 112) hx hb dX10_readMaze_105 (by decide) (fun c41 => ?_) (fun c41 => ?_)
                    · have hf := qob_f hf c41
                      refine lv_iconst (v := 0) hx hb dX10_readMaze_112 (by decide) ?_
                      exact hJ37 0 hf _ _ _ ⟨hP, hD, hS⟩ (lv_sub hl [1, 2, 4] rfl)
                    · have hf := qob_t hf c41
                      refine lv_iconst (v := 1) hx hb dX10_readMaze_108 (by decide) ?_
                      refine lv_goto (tgt := 113) hx hb dX10_readMaze_109 (by decide) ?_
                      exact hJ37 1 hf _ _ _ ⟨hP, hD, hS⟩ (lv_sub hl [1, 2, 4] rfl)
        · intro J42 hJ42 hf
          refine lv_if_le (tgt := 72) hx hb dX10_readMaze_41 (by decide) (fun c43 => ?_) (fun c43 => ?_)
          · have hf := qob_t hf c43
            refine lv_iconst (v := 0) hx hb dX10_readMaze_72 (by decide) ?_
            exact hJ42 0 hf _ _ _ ⟨hP, hD, hS⟩ (lv_sub hl [1, 2, 3, 4, 0] rfl)
          · have hf := qob_f hf c43
            refine lv_aload_n hx hb dX10_readMaze_44 rfl (lv_at hl 1 rfl) ?_
            refine va_get (D := D) (ci := 10) (v := .ref (ma 3)) (C := RX10) (T := TX10) (N := 34) hx hb hts inwX10_readMaze_X10 hown hK hP 0 rfl rfl 11 (by decide) (hts (.fieldLink RX10 27 "HedgeWaysModel" "read" "[I") (List.mem_of_getElem? (i := 4) rfl)) (fun _ h9 => h9) rfl dX10_readMaze_45 ?_
            refine lv_bipush (v := 6) hx hb dX10_readMaze_48 (by decide) ?_
            refine lv_aload_n hx hb dX10_readMaze_50 rfl (lv_at hl 1 rfl) ?_
            refine va_get (D := D) (ci := 10) (v := .int m_readRows_2) (C := RX10) (T := TX10) (N := 34) hx hb hts inwX10_readMaze_X10 hown hK hP 0 rfl rfl 9 (by decide) (hts (.fieldLink RX10 91 "HedgeWaysModel" "readRows" "I") (List.mem_of_getElem? (i := 1) rfl)) (fun _ h9 => h9) rfl dX10_readMaze_51 ?_
            refine lv_iconst (v := 1) hx hb dX10_readMaze_54 (by decide) ?_
            refine lv_isub hx hb dX10_readMaze_55 ?_
            refine lv_imul hx hb dX10_readMaze_56 ?_
            refine lv_iload_n hx hb dX10_readMaze_57 rfl (lv_at hl 2 rfl) ?_
            refine lv_iadd hx hb dX10_readMaze_58 ?_
            refine lv_iconst (v := 1) hx hb dX10_readMaze_59 (by decide) ?_
            refine lv_isub hx hb dX10_readMaze_60 ?_
            obtain ⟨i44, hf⟩ := qob_gd hf
            refine va_iald hx hb hK hP 2 0 rfl rfl i44 dX10_readMaze_61 ?_
            refine lv_iconst (v := 2) hx hb dX10_readMaze_62 (by decide) ?_
            refine lv_irem hx hb dX10_readMaze_63 (by decide) ?_
            refine lv_iconst (v := 1) hx hb dX10_readMaze_64 (by decide) ?_
            refine lv_icmp_ne (tgt := 72) hx hb dX10_readMaze_65 (by decide) (fun c45 => ?_) (fun c45 => ?_)
            · have hf := qob_f hf c45
              refine lv_iconst (v := 0) hx hb dX10_readMaze_72 (by decide) ?_
              exact hJ42 0 hf _ _ _ ⟨hP, hD, hS⟩ (lv_sub hl [1, 2, 3, 4, 0] rfl)
            · have hf := qob_t hf c45
              refine lv_iconst (v := 1) hx hb dX10_readMaze_68 (by decide) ?_
              refine lv_goto (tgt := 73) hx hb dX10_readMaze_69 (by decide) ?_
              exact hJ42 1 hf _ _ _ ⟨hP, hD, hS⟩ (lv_sub hl [1, 2, 3, 4, 0] rfl)
      · intro J46 hJ46 hf
        refine lv_icmp_ne (tgt := 37) hx hb dX10_readMaze_30 (by decide) (fun c47 => ?_) (fun c47 => ?_)
        · have hf := qob_f hf c47
          refine lv_iconst (v := 0) hx hb dX10_readMaze_37 (by decide) ?_
          exact hJ46 0 hf _ _ _ ⟨hP, hD, hS⟩ hl
        · have hf := qob_t hf c47
          refine lv_iconst (v := 1) hx hb dX10_readMaze_33 (by decide) ?_
          refine lv_goto (tgt := 38) hx hb dX10_readMaze_34 (by decide) ?_
          exact hJ46 1 hf _ _ _ ⟨hP, hD, hS⟩ hl
theorem inwX10_fault_X10 : ∀ w ∈ wsX100, w ∈ wsX10_fault := fun _ h => List.mem_cons_of_mem _ (List.mem_append_right _ h)
abbrev rmX10_fault : Room := { frames := 2, cells := 0, slots := 0, locals := 53 }
theorem hdX10_fault : yX10_fault.cls = RX10 ∧ yX10_fault.cls ≠ "java/lang/invoke/MethodHandle" ∧ yX10_fault.cls ≠ "java/lang/invoke/VarHandle" ∧ (parseMethodDescriptor yX10_fault.desc).map (fun d => d.parameters.length) = some 0 := by decide +kernel
set_option maxHeartbeats 4000000 in
set_option maxRecDepth 100000 in
theorem KX10_fault {l : Launch} {D : va_G} {cy : Nat → ClassId} {mo : Nat} {ma : Nat → Nat} {m_thrown : Int32} {m_textSize : Int32} {m_rows : Int32} {m_columns : Int32} {m_a : Int32} {m_b : Int32} {m_readRows : Int32} {m_readColumns : Int32} {m_at : Int32} {m_looks : Int32} {m_came : Int32} {m_draw : Int64} {m_turnedRows : Int32} {m_turnedColumns : Int32} {m_text : Nat → Int32} {m_read : Nat → Int32}  {r : Int32} {m_thrown' : Int32} {m_readRows' : Int32} {m_readColumns' : Int32} {m_read' : Nat → Int32} (hf : fX10_fault m_thrown m_textSize m_readRows m_readColumns m_text m_read = some (r, m_thrown', m_readRows', m_readColumns', m_read')) : CtI l yX10_fault wsX10_fault rmX10_fault D cy [.ref mo] ([oX10 mo ma m_thrown m_textSize m_rows m_columns m_a m_b m_readRows m_readColumns m_at m_looks m_came m_draw m_turnedRows m_turnedColumns, aI cy (ma 0) 41 m_text, aI cy (ma 3) 36 m_read]) ([oX10 mo ma m_thrown' m_textSize m_rows m_columns m_a m_b m_readRows' m_readColumns' m_at m_looks m_came m_draw m_turnedRows m_turnedColumns, aI cy (ma 0) 41 m_text, aI cy (ma 3) 36 m_read']) r := by
  refine CtI.of (cc := cX10_fault) (maxL := 1) (ret := some .int) (own := RX10) (by decide) rfl rfl (Nat.le_of_ble_eq_true rfl) ?_
  intro p e s m args below meth c A Q X hQ hK hP hD hS ls hl
  obtain ⟨hx, hb, hml, hown, hts, hr, hlocks, hA, hZ⟩ := id X
  have hl : lv_has ls 1 [(0, .ref mo)] := hl
  unfold fX10_fault at hf
  have hf := qob_top hf
  refine lv_aload_n hx hb dX10_fault_0 rfl (lv_at hl 0 rfl) ?_
  refine lv_iconst (v := 0) hx hb dX10_fault_1 (by decide) ?_
  refine va_put (D := D) (ci := 10) (v := .int 0) (ty := .int) (C := RX10) (T := TX10) (N := 34) hx hb hts inwX10_fault_X10 tyX10 tyX10_ok nmX10 hown hK hP hD hS 0 rfl rfl 0 (by decide) (hts (.fieldLink RX10 79 "HedgeWaysModel" "thrown" "I") (List.mem_of_getElem? (i := 1) rfl)) (fun _ h9 => h9) rfl (tyX10_ok 0 (by decide)) rfl rfl (Nat.le_of_ble_eq_true rfl) dX10_fault_2 (fun H locs hP hD hS => ?_)
  have hP : va_P D vwCl ([oX10 mo ma 0 m_textSize m_rows m_columns m_a m_b m_readRows m_readColumns m_at m_looks m_came m_draw m_turnedRows m_turnedColumns, aI cy (ma 0) 41 m_text, aI cy (ma 3) 36 m_read]) H := hP
  have hD : va_D A ([oX10 mo ma 0 m_textSize m_rows m_columns m_a m_b m_readRows m_readColumns m_at m_looks m_came m_draw m_turnedRows m_turnedColumns, aI cy (ma 0) 41 m_text, aI cy (ma 3) 36 m_read]) := hD
  refine lv_aload_n hx hb dX10_fault_5 rfl (lv_at hl 0 rfl) ?_
  obtain ⟨r_1, m_readRows_1, m_readColumns_1, m_read_1, q1, hf⟩ := qcall4 hf
  refine ctV_i (r := r_1) (wc := [oX10 mo ma 0 m_textSize m_rows m_columns m_a m_b m_readRows m_readColumns m_at m_looks m_came m_draw m_turnedRows m_turnedColumns, aI cy (ma 0) 41 m_text, aI cy (ma 3) 36 m_read]) (w1 := [oX10 mo ma 0 m_textSize m_rows m_columns m_a m_b m_readRows_1 m_readColumns_1 m_at m_looks m_came m_draw m_turnedRows m_turnedColumns, aI cy (ma 0) 41 m_text, aI cy (ma 3) 36 m_read_1]) (wr := []) (wn := [oX10 mo ma 0 m_textSize m_rows m_columns m_a m_b m_readRows_1 m_readColumns_1 m_at m_looks m_came m_draw m_turnedRows m_turnedColumns, aI cy (ma 0) 41 m_text, aI cy (ma 3) 36 m_read_1]) (As := []) (rest := []) (q0 := 0) X hK hP hD hS [0, 1, 2] [] [0, 1, 2] rfl rfl rfl rfl rfl (by decide) rfl rfl rfl (KX10_readMaze q1 _) (cwV 0 hts gX10_fault_X10_readMaze rfl rfl rfl hdX10_readMaze ⟨Nat.le_of_ble_eq_true rfl, Nat.le_of_ble_eq_true rfl⟩) rfl rfl rfl hl rfl (Nat.le_of_ble_eq_true rfl) dX10_fault_6 (Nat.zero_le _) (Nat.zero_le _) (fun H locs hP hD hS => ?_)
  cases qob_ret hf
  exact ct_iret X hQ hK hP hD hS rfl dX10_fault_9
theorem inwX10_shutAll_X10 : ∀ w ∈ wsX100, w ∈ wsX10_shutAll := fun _ h => List.mem_cons_of_mem _ (List.mem_append_right _ h)
abbrev rmX10_shutAll : Room := { frames := 0, cells := 0, slots := 0, locals := 0 }
theorem hdX10_shutAll : yX10_shutAll.cls = RX10 ∧ yX10_shutAll.cls ≠ "java/lang/invoke/MethodHandle" ∧ yX10_shutAll.cls ≠ "java/lang/invoke/VarHandle" ∧ (parseMethodDescriptor yX10_shutAll.desc).map (fun d => d.parameters.length) = some 2 := by decide +kernel
set_option maxHeartbeats 4000000 in
set_option maxRecDepth 100000 in
theorem KX10_shutAll {l : Launch} {D : va_G} {cy : Nat → ClassId} {mo : Nat} {ma : Nat → Nat} {m_thrown : Int32} {m_textSize : Int32} {m_rows : Int32} {m_columns : Int32} {m_a : Int32} {m_b : Int32} {m_readRows : Int32} {m_readColumns : Int32} {m_at : Int32} {m_looks : Int32} {m_came : Int32} {m_draw : Int64} {m_turnedRows : Int32} {m_turnedColumns : Int32} {m_right : Nat → Int32} {m_down : Nat → Int32} {p1 : Int32} {p2 : Int32} {m_rows' : Int32} {m_columns' : Int32} {m_a' : Int32} {m_b' : Int32} {m_right' : Nat → Int32} {m_down' : Nat → Int32} (hf : fX10_shutAll m_rows m_columns m_a m_b m_right m_down p1 p2 = some (m_rows', m_columns', m_a', m_b', m_right', m_down')) : CtV l yX10_shutAll wsX10_shutAll rmX10_shutAll D cy [.ref mo, .int p1, .int p2] ([oX10 mo ma m_thrown m_textSize m_rows m_columns m_a m_b m_readRows m_readColumns m_at m_looks m_came m_draw m_turnedRows m_turnedColumns, aZ cy (ma 1) 36 m_right, aZ cy (ma 2) 36 m_down]) ([oX10 mo ma m_thrown m_textSize m_rows' m_columns' m_a' m_b' m_readRows m_readColumns m_at m_looks m_came m_draw m_turnedRows m_turnedColumns, aZ cy (ma 1) 36 m_right', aZ cy (ma 2) 36 m_down']) := by
  refine CtV.of (cc := cX10_shutAll) (maxL := 4) (ret := none) (own := RX10) (by decide) rfl rfl (Nat.le_of_ble_eq_true rfl) ?_
  intro p e s m args below meth c A Q X hQ hK hP hD hS ls hl
  obtain ⟨hx, hb, hml, hown, hts, hr, hlocks, hA, hZ⟩ := id X
  have hl : lv_has ls 4 [(0, .ref mo), (1, .int p1), (2, .int p2)] := hl
  unfold fX10_shutAll at hf
  have hf := qob_top hf
  refine lv_aload_n hx hb dX10_shutAll_0 rfl (lv_at hl 0 rfl) ?_
  refine lv_iload_n hx hb dX10_shutAll_1 rfl (lv_at hl 1 rfl) ?_
  refine va_put (D := D) (ci := 10) (v := .int p1) (ty := .int) (C := RX10) (T := TX10) (N := 34) hx hb hts inwX10_shutAll_X10 tyX10 tyX10_ok nmX10 hown hK hP hD hS 0 rfl rfl 3 (by decide) (hts (.fieldLink RX10 13 "HedgeWaysModel" "rows" "I") (List.mem_of_getElem? (i := 1) rfl)) (fun _ h9 => h9) rfl (tyX10_ok 3 (by decide)) rfl rfl (Nat.le_of_ble_eq_true rfl) dX10_shutAll_2 (fun H locs hP hD hS => ?_)
  have hP : va_P D vwCl ([oX10 mo ma m_thrown m_textSize p1 m_columns m_a m_b m_readRows m_readColumns m_at m_looks m_came m_draw m_turnedRows m_turnedColumns, aZ cy (ma 1) 36 m_right, aZ cy (ma 2) 36 m_down]) H := hP
  have hD : va_D A ([oX10 mo ma m_thrown m_textSize p1 m_columns m_a m_b m_readRows m_readColumns m_at m_looks m_came m_draw m_turnedRows m_turnedColumns, aZ cy (ma 1) 36 m_right, aZ cy (ma 2) 36 m_down]) := hD
  refine lv_aload_n hx hb dX10_shutAll_5 rfl (lv_at hl 0 rfl) ?_
  refine lv_iload_n hx hb dX10_shutAll_6 rfl (lv_at hl 2 rfl) ?_
  refine va_put (D := D) (ci := 10) (v := .int p2) (ty := .int) (C := RX10) (T := TX10) (N := 34) hx hb hts inwX10_shutAll_X10 tyX10 tyX10_ok nmX10 hown hK hP hD hS 0 rfl rfl 4 (by decide) (hts (.fieldLink RX10 17 "HedgeWaysModel" "columns" "I") (List.mem_of_getElem? (i := 2) rfl)) (fun _ h9 => h9) rfl (tyX10_ok 4 (by decide)) rfl rfl (Nat.le_of_ble_eq_true rfl) dX10_shutAll_7 (fun H locs hP hD hS => ?_)
  have hP : va_P D vwCl ([oX10 mo ma m_thrown m_textSize p1 p2 m_a m_b m_readRows m_readColumns m_at m_looks m_came m_draw m_turnedRows m_turnedColumns, aZ cy (ma 1) 36 m_right, aZ cy (ma 2) 36 m_down]) H := hP
  have hD : va_D A ([oX10 mo ma m_thrown m_textSize p1 p2 m_a m_b m_readRows m_readColumns m_at m_looks m_came m_draw m_turnedRows m_turnedColumns, aZ cy (ma 1) 36 m_right, aZ cy (ma 2) 36 m_down]) := hD
  refine lv_iconst (v := 0) hx hb dX10_shutAll_10 (by decide) ?_
  refine lv_istore_n (lv' := [(3, .int 0), (0, .ref mo), (1, .int p1), (2, .int p2)]) hx hb dX10_shutAll_11 rfl hl (by decide) rfl (fun ls hl => ?_)
  refine qjoin2 hf (fun (m_right_1 : Nat → Int32) (m_down_1 : Nat → Int32) => ∀ (H : Heap) (locs : List Loc) (ls : Array Slot), ctW D A s ([oX10 mo ma m_thrown m_textSize p1 p2 m_a m_b m_readRows m_readColumns m_at m_looks m_came m_draw m_turnedRows m_turnedColumns, aZ cy (ma 1) 36 m_right_1, aZ cy (ma 2) 36 m_down_1]) H locs → lv_has ls 4 [(0, .ref mo), (1, .int p1), (2, .int p2)] → W p l e rmX10_shutAll s m args below meth c H locs 0 0 Q (F0 m 38 ls [])) ?_ ?_
  · intro m_right_1 m_down_1 hf H locs ls ⟨hP, hD, hS⟩ hl
    refine lv_aload_n hx hb dX10_shutAll_38 rfl (lv_at hl 0 rfl) ?_
    refine lv_iconst (v := 0) hx hb dX10_shutAll_39 (by decide) ?_
    refine va_put (D := D) (ci := 10) (v := .int 0) (ty := .int) (C := RX10) (T := TX10) (N := 34) hx hb hts inwX10_shutAll_X10 tyX10 tyX10_ok nmX10 hown hK hP hD hS 0 rfl rfl 7 (by decide) (hts (.fieldLink RX10 103 "HedgeWaysModel" "a" "I") (List.mem_of_getElem? (i := 5) rfl)) (fun _ h9 => h9) rfl (tyX10_ok 7 (by decide)) rfl rfl (Nat.le_of_ble_eq_true rfl) dX10_shutAll_40 (fun H locs hP hD hS => ?_)
    have hP : va_P D vwCl ([oX10 mo ma m_thrown m_textSize p1 p2 0 m_b m_readRows m_readColumns m_at m_looks m_came m_draw m_turnedRows m_turnedColumns, aZ cy (ma 1) 36 m_right_1, aZ cy (ma 2) 36 m_down_1]) H := hP
    have hD : va_D A ([oX10 mo ma m_thrown m_textSize p1 p2 0 m_b m_readRows m_readColumns m_at m_looks m_came m_draw m_turnedRows m_turnedColumns, aZ cy (ma 1) 36 m_right_1, aZ cy (ma 2) 36 m_down_1]) := hD
    refine lv_aload_n hx hb dX10_shutAll_43 rfl (lv_at hl 0 rfl) ?_
    refine lv_bipush (v := 6) hx hb dX10_shutAll_44 (by decide) ?_
    refine lv_iload_n hx hb dX10_shutAll_46 rfl (lv_at hl 1 rfl) ?_
    refine lv_iconst (v := 1) hx hb dX10_shutAll_47 (by decide) ?_
    refine lv_isub hx hb dX10_shutAll_48 ?_
    refine lv_imul hx hb dX10_shutAll_49 ?_
    refine lv_iload_n hx hb dX10_shutAll_50 rfl (lv_at hl 2 rfl) ?_
    refine lv_iadd hx hb dX10_shutAll_51 ?_
    refine lv_iconst (v := 1) hx hb dX10_shutAll_52 (by decide) ?_
    refine lv_isub hx hb dX10_shutAll_53 ?_
    refine va_put (D := D) (ci := 10) (v := .int (((6 * (p1 - 1)) + p2) - 1)) (ty := .int) (C := RX10) (T := TX10) (N := 34) hx hb hts inwX10_shutAll_X10 tyX10 tyX10_ok nmX10 hown hK hP hD hS 0 rfl rfl 8 (by decide) (hts (.fieldLink RX10 106 "HedgeWaysModel" "b" "I") (List.mem_of_getElem? (i := 6) rfl)) (fun _ h9 => h9) rfl (tyX10_ok 8 (by decide)) rfl rfl (Nat.le_of_ble_eq_true rfl) dX10_shutAll_54 (fun H locs hP hD hS => ?_)
    have hP : va_P D vwCl ([oX10 mo ma m_thrown m_textSize p1 p2 0 (((6 * (p1 - 1)) + p2) - 1) m_readRows m_readColumns m_at m_looks m_came m_draw m_turnedRows m_turnedColumns, aZ cy (ma 1) 36 m_right_1, aZ cy (ma 2) 36 m_down_1]) H := hP
    have hD : va_D A ([oX10 mo ma m_thrown m_textSize p1 p2 0 (((6 * (p1 - 1)) + p2) - 1) m_readRows m_readColumns m_at m_looks m_came m_draw m_turnedRows m_turnedColumns, aZ cy (ma 1) 36 m_right_1, aZ cy (ma 2) 36 m_down_1]) := hD
    cases qob_ret hf
    exact ct_vret X hQ hK hP hD hS dX10_shutAll_57
  · intro J1 hJ1 hf
    refine qwalk3 (fun (x3_1 : Int32) (m_right_2 : Nat → Int32) (m_down_2 : Nat → Int32) => ∀ (H : Heap) (locs : List Loc) (ls : Array Slot), ctW D A s ([oX10 mo ma m_thrown m_textSize p1 p2 m_a m_b m_readRows m_readColumns m_at m_looks m_came m_draw m_turnedRows m_turnedColumns, aZ cy (ma 1) 36 m_right_2, aZ cy (ma 2) 36 m_down_2]) H locs → lv_has ls 4 [(0, .ref mo), (1, .int p1), (2, .int p2), (3, .int x3_1)] → W p l e rmX10_shutAll s m args below meth c H locs 0 0 Q (F0 m 12 ls [])) ?_ _ (0 : Int32) m_right m_down hf _ _ _ ⟨hP, hD, hS⟩ (lv_sub hl [1, 2, 3, 0] rfl)
    intro J2 hL2 x3_1 m_right_2 m_down_2 hf H locs ls ⟨hP, hD, hS⟩ hl
    refine lv_iload_n hx hb dX10_shutAll_12 rfl (lv_at hl 3 rfl) ?_
    refine lv_bipush (v := 36) hx hb dX10_shutAll_13 (by decide) ?_
    refine lv_icmp_ge (tgt := 38) hx hb dX10_shutAll_15 (by decide) (fun c3 => ?_) (fun c3 => ?_)
    · have hf := qob_t hf c3
      have hf := qob_esc hf
      exact hJ1 m_right_2 m_down_2 hf _ _ _ ⟨hP, hD, hS⟩ (lv_sub hl [0, 1, 2] rfl)
    · have hf := qob_f hf c3
      refine lv_aload_n hx hb dX10_shutAll_18 rfl (lv_at hl 0 rfl) ?_
      refine va_get (D := D) (ci := 10) (v := .ref (ma 1)) (C := RX10) (T := TX10) (N := 34) hx hb hts inwX10_shutAll_X10 hown hK hP 0 rfl rfl 5 (by decide) (hts (.fieldLink RX10 20 "HedgeWaysModel" "right" "[Z") (List.mem_of_getElem? (i := 3) rfl)) (fun _ h9 => h9) rfl dX10_shutAll_19 ?_
      refine lv_iload_n hx hb dX10_shutAll_22 rfl (lv_at hl 3 rfl) ?_
      refine lv_iconst (v := 0) hx hb dX10_shutAll_23 (by decide) ?_
      obtain ⟨i4, hf⟩ := qob_gd hf
      refine va_zast hx hb hK hP hD hS 1 2 rfl rfl i4 dX10_shutAll_24 (fun H locs hP hD hS => ?_)
      have hP : va_P D vwCl ([oX10 mo ma m_thrown m_textSize p1 p2 m_a m_b m_readRows m_readColumns m_at m_looks m_came m_draw m_turnedRows m_turnedColumns, aZ cy (ma 1) 36 (upd m_right_2 x3_1.toNatClampNeg (qnb 0)), aZ cy (ma 2) 36 m_down_2]) H := hP
      have hD : va_D A ([oX10 mo ma m_thrown m_textSize p1 p2 m_a m_b m_readRows m_readColumns m_at m_looks m_came m_draw m_turnedRows m_turnedColumns, aZ cy (ma 1) 36 (upd m_right_2 x3_1.toNatClampNeg (qnb 0)), aZ cy (ma 2) 36 m_down_2]) := hD
      refine lv_aload_n hx hb dX10_shutAll_25 rfl (lv_at hl 0 rfl) ?_
      refine va_get (D := D) (ci := 10) (v := .ref (ma 2)) (C := RX10) (T := TX10) (N := 34) hx hb hts inwX10_shutAll_X10 hown hK hP 0 rfl rfl 6 (by decide) (hts (.fieldLink RX10 24 "HedgeWaysModel" "down" "[Z") (List.mem_of_getElem? (i := 4) rfl)) (fun _ h9 => h9) rfl dX10_shutAll_26 ?_
      refine lv_iload_n hx hb dX10_shutAll_29 rfl (lv_at hl 3 rfl) ?_
      refine lv_iconst (v := 0) hx hb dX10_shutAll_30 (by decide) ?_
      obtain ⟨i5, hf⟩ := qob_gd hf
      refine va_zast hx hb hK hP hD hS 2 2 rfl rfl i5 dX10_shutAll_31 (fun H locs hP hD hS => ?_)
      have hP : va_P D vwCl ([oX10 mo ma m_thrown m_textSize p1 p2 m_a m_b m_readRows m_readColumns m_at m_looks m_came m_draw m_turnedRows m_turnedColumns, aZ cy (ma 1) 36 (upd m_right_2 x3_1.toNatClampNeg (qnb 0)), aZ cy (ma 2) 36 (upd m_down_2 x3_1.toNatClampNeg (qnb 0))]) H := hP
      have hD : va_D A ([oX10 mo ma m_thrown m_textSize p1 p2 m_a m_b m_readRows m_readColumns m_at m_looks m_came m_draw m_turnedRows m_turnedColumns, aZ cy (ma 1) 36 (upd m_right_2 x3_1.toNatClampNeg (qnb 0)), aZ cy (ma 2) 36 (upd m_down_2 x3_1.toNatClampNeg (qnb 0))]) := hD
      refine lv_iinc (v := (x3_1 + 1)) (lv' := [(3, .int (x3_1 + 1)), (0, .ref mo), (1, .int p1), (2, .int p2)]) hx hb dX10_shutAll_32 hl (k := 3) rfl rfl (by decide) rfl (fun ls hl => ?_)
      refine lv_goto (tgt := 12) hx hb dX10_shutAll_35 (by decide) ?_
      exact hL2 (x3_1 + 1) (upd m_right_2 x3_1.toNatClampNeg (qnb 0)) (upd m_down_2 x3_1.toNatClampNeg (qnb 0)) hf _ _ _ ⟨hP, hD, hS⟩ (lv_sub hl [1, 2, 3, 0] rfl)
theorem inwX10_maze_X10 : ∀ w ∈ wsX100, w ∈ wsX10_maze := fun _ h => List.mem_cons_of_mem _ (List.mem_append_right _ h)
abbrev rmX10_maze : Room := { frames := 2, cells := 0, slots := 0, locals := 53 }
theorem hdX10_maze : yX10_maze.cls = RX10 ∧ yX10_maze.cls ≠ "java/lang/invoke/MethodHandle" ∧ yX10_maze.cls ≠ "java/lang/invoke/VarHandle" ∧ (parseMethodDescriptor yX10_maze.desc).map (fun d => d.parameters.length) = some 0 := by decide +kernel
set_option maxHeartbeats 4000000 in
set_option maxRecDepth 100000 in
theorem KX10_maze {l : Launch} {D : va_G} {cy : Nat → ClassId} {mo : Nat} {ma : Nat → Nat} {m_thrown : Int32} {m_textSize : Int32} {m_rows : Int32} {m_columns : Int32} {m_a : Int32} {m_b : Int32} {m_readRows : Int32} {m_readColumns : Int32} {m_at : Int32} {m_looks : Int32} {m_came : Int32} {m_draw : Int64} {m_turnedRows : Int32} {m_turnedColumns : Int32} {m_text : Nat → Int32} {m_right : Nat → Int32} {m_down : Nat → Int32} {m_read : Nat → Int32}  {r : Int32} {m_thrown' : Int32} {m_rows' : Int32} {m_columns' : Int32} {m_a' : Int32} {m_b' : Int32} {m_readRows' : Int32} {m_readColumns' : Int32} {m_right' : Nat → Int32} {m_down' : Nat → Int32} {m_read' : Nat → Int32} (hf : fX10_maze m_thrown m_textSize m_rows m_columns m_a m_b m_readRows m_readColumns m_text m_right m_down m_read = some (r, m_thrown', m_rows', m_columns', m_a', m_b', m_readRows', m_readColumns', m_right', m_down', m_read')) : CtI l yX10_maze wsX10_maze rmX10_maze D cy [.ref mo] ([oX10 mo ma m_thrown m_textSize m_rows m_columns m_a m_b m_readRows m_readColumns m_at m_looks m_came m_draw m_turnedRows m_turnedColumns, aI cy (ma 0) 41 m_text, aZ cy (ma 1) 36 m_right, aZ cy (ma 2) 36 m_down, aI cy (ma 3) 36 m_read]) ([oX10 mo ma m_thrown' m_textSize m_rows' m_columns' m_a' m_b' m_readRows' m_readColumns' m_at m_looks m_came m_draw m_turnedRows m_turnedColumns, aI cy (ma 0) 41 m_text, aZ cy (ma 1) 36 m_right', aZ cy (ma 2) 36 m_down', aI cy (ma 3) 36 m_read']) r := by
  refine CtI.of (cc := cX10_maze) (maxL := 3) (ret := some .int) (own := RX10) (by decide) rfl rfl (Nat.le_of_ble_eq_true rfl) ?_
  intro p e s m args below meth c A Q X hQ hK hP hD hS ls hl
  obtain ⟨hx, hb, hml, hown, hts, hr, hlocks, hA, hZ⟩ := id X
  have hl : lv_has ls 3 [(0, .ref mo)] := hl
  unfold fX10_maze at hf
  have hf := qob_top hf
  refine lv_aload_n hx hb dX10_maze_0 rfl (lv_at hl 0 rfl) ?_
  refine lv_iconst (v := 0) hx hb dX10_maze_1 (by decide) ?_
  refine va_put (D := D) (ci := 10) (v := .int 0) (ty := .int) (C := RX10) (T := TX10) (N := 34) hx hb hts inwX10_maze_X10 tyX10 tyX10_ok nmX10 hown hK hP hD hS 0 rfl rfl 0 (by decide) (hts (.fieldLink RX10 79 "HedgeWaysModel" "thrown" "I") (List.mem_of_getElem? (i := 1) rfl)) (fun _ h9 => h9) rfl (tyX10_ok 0 (by decide)) rfl rfl (Nat.le_of_ble_eq_true rfl) dX10_maze_2 (fun H locs hP hD hS => ?_)
  have hP : va_P D vwCl ([oX10 mo ma 0 m_textSize m_rows m_columns m_a m_b m_readRows m_readColumns m_at m_looks m_came m_draw m_turnedRows m_turnedColumns, aI cy (ma 0) 41 m_text, aZ cy (ma 1) 36 m_right, aZ cy (ma 2) 36 m_down, aI cy (ma 3) 36 m_read]) H := hP
  have hD : va_D A ([oX10 mo ma 0 m_textSize m_rows m_columns m_a m_b m_readRows m_readColumns m_at m_looks m_came m_draw m_turnedRows m_turnedColumns, aI cy (ma 0) 41 m_text, aZ cy (ma 1) 36 m_right, aZ cy (ma 2) 36 m_down, aI cy (ma 3) 36 m_read]) := hD
  refine lv_aload_n hx hb dX10_maze_5 rfl (lv_at hl 0 rfl) ?_
  obtain ⟨r_1, m_readRows_1, m_readColumns_1, m_read_1, q1, hf⟩ := qcall4 hf
  refine ctV_i (r := r_1) (wc := [oX10 mo ma 0 m_textSize m_rows m_columns m_a m_b m_readRows m_readColumns m_at m_looks m_came m_draw m_turnedRows m_turnedColumns, aI cy (ma 0) 41 m_text, aI cy (ma 3) 36 m_read]) (w1 := [oX10 mo ma 0 m_textSize m_rows m_columns m_a m_b m_readRows_1 m_readColumns_1 m_at m_looks m_came m_draw m_turnedRows m_turnedColumns, aI cy (ma 0) 41 m_text, aI cy (ma 3) 36 m_read_1]) (wr := [aZ cy (ma 1) 36 m_right, aZ cy (ma 2) 36 m_down]) (wn := [oX10 mo ma 0 m_textSize m_rows m_columns m_a m_b m_readRows_1 m_readColumns_1 m_at m_looks m_came m_draw m_turnedRows m_turnedColumns, aI cy (ma 0) 41 m_text, aZ cy (ma 1) 36 m_right, aZ cy (ma 2) 36 m_down, aI cy (ma 3) 36 m_read_1]) (As := []) (rest := []) (q0 := 0) X hK hP hD hS [0, 1, 4] [2, 3] [2, 3, 0, 1, 4] rfl rfl rfl rfl rfl (by decide) rfl rfl rfl (KX10_readMaze q1 _) (cwV 0 hts gX10_maze_X10_readMaze rfl rfl rfl hdX10_readMaze ⟨Nat.le_of_ble_eq_true rfl, Nat.le_of_ble_eq_true rfl⟩) rfl rfl rfl hl rfl (Nat.le_of_ble_eq_true rfl) dX10_maze_6 (Nat.zero_le _) (Nat.zero_le _) (fun H locs hP hD hS => ?_)
  refine lv_bipush (v := (-9)) hx hb dX10_maze_9 (by decide) ?_
  refine lv_icmp_eq (tgt := 17) hx hb dX10_maze_11 (by decide) (fun c2 => ?_) (fun c2 => ?_)
  · have hf := qob_t hf c2
    refine lv_aload_n hx hb dX10_maze_17 rfl (lv_at hl 0 rfl) ?_
    refine lv_aload_n hx hb dX10_maze_18 rfl (lv_at hl 0 rfl) ?_
    refine va_get (D := D) (ci := 10) (v := .int m_readRows_1) (C := RX10) (T := TX10) (N := 34) hx hb hts inwX10_maze_X10 hown hK hP 0 rfl rfl 9 (by decide) (hts (.fieldLink RX10 91 "HedgeWaysModel" "readRows" "I") (List.mem_of_getElem? (i := 2) rfl)) (fun _ h9 => h9) rfl dX10_maze_19 ?_
    refine lv_aload_n hx hb dX10_maze_22 rfl (lv_at hl 0 rfl) ?_
    refine va_get (D := D) (ci := 10) (v := .int m_readColumns_1) (C := RX10) (T := TX10) (N := 34) hx hb hts inwX10_maze_X10 hown hK hP 0 rfl rfl 10 (by decide) (hts (.fieldLink RX10 94 "HedgeWaysModel" "readColumns" "I") (List.mem_of_getElem? (i := 3) rfl)) (fun _ h9 => h9) rfl dX10_maze_23 ?_
    obtain ⟨m_rows_1, m_columns_1, m_a_1, m_b_1, m_right_1, m_down_1, q3, hf⟩ := qcall6 hf
    refine ctV_v (wc := [oX10 mo ma 0 m_textSize m_rows m_columns m_a m_b m_readRows_1 m_readColumns_1 m_at m_looks m_came m_draw m_turnedRows m_turnedColumns, aZ cy (ma 1) 36 m_right, aZ cy (ma 2) 36 m_down]) (w1 := [oX10 mo ma 0 m_textSize m_rows_1 m_columns_1 m_a_1 m_b_1 m_readRows_1 m_readColumns_1 m_at m_looks m_came m_draw m_turnedRows m_turnedColumns, aZ cy (ma 1) 36 m_right_1, aZ cy (ma 2) 36 m_down_1]) (wr := [aI cy (ma 0) 41 m_text, aI cy (ma 3) 36 m_read_1]) (wn := [oX10 mo ma 0 m_textSize m_rows_1 m_columns_1 m_a_1 m_b_1 m_readRows_1 m_readColumns_1 m_at m_looks m_came m_draw m_turnedRows m_turnedColumns, aI cy (ma 0) 41 m_text, aZ cy (ma 1) 36 m_right_1, aZ cy (ma 2) 36 m_down_1, aI cy (ma 3) 36 m_read_1]) (As := [.int m_readRows_1, .int m_readColumns_1]) (rest := []) (q0 := 0) X hK hP hD hS [0, 2, 3] [1, 4] [2, 0, 3, 4, 1] rfl rfl rfl rfl rfl (by decide) rfl rfl rfl (KX10_shutAll q3 _) (cwV 2 hts gX10_maze_X10_shutAll rfl rfl rfl hdX10_shutAll ⟨Nat.le_of_ble_eq_true rfl, Nat.le_of_ble_eq_true rfl⟩) rfl rfl rfl hl rfl (Nat.le_of_ble_eq_true rfl) dX10_maze_26 (Nat.zero_le _) (Nat.zero_le _) (fun H locs hP hD hS => ?_)
    refine lv_iconst (v := 0) hx hb dX10_maze_29 (by decide) ?_
    refine lv_istore_n (lv' := [(1, .int 0), (0, .ref mo)]) hx hb dX10_maze_30 rfl hl (by decide) rfl (fun ls hl => ?_)
    refine qjoin2 hf (fun (m_right_2 : Nat → Int32) (m_down_2 : Nat → Int32) => ∀ (H : Heap) (locs : List Loc) (ls : Array Slot), ctW D A s ([oX10 mo ma 0 m_textSize m_rows_1 m_columns_1 m_a_1 m_b_1 m_readRows_1 m_readColumns_1 m_at m_looks m_came m_draw m_turnedRows m_turnedColumns, aI cy (ma 0) 41 m_text, aZ cy (ma 1) 36 m_right_2, aZ cy (ma 2) 36 m_down_2, aI cy (ma 3) 36 m_read_1]) H locs → lv_has ls 3 [(0, .ref mo)] → W p l e rmX10_maze s m args below meth c H locs 0 0 Q (F0 m 125 ls [])) ?_ ?_
    · intro m_right_2 m_down_2 hf H locs ls ⟨hP, hD, hS⟩ hl
      refine lv_aload_n hx hb dX10_maze_125 rfl (lv_at hl 0 rfl) ?_
      refine va_get (D := D) (ci := 10) (v := .int m_rows_1) (C := RX10) (T := TX10) (N := 34) hx hb hts inwX10_maze_X10 hown hK hP 0 rfl rfl 3 (by decide) (hts (.fieldLink RX10 13 "HedgeWaysModel" "rows" "I") (List.mem_of_getElem? (i := 4) rfl)) (fun _ h9 => h9) rfl dX10_maze_126 ?_
      refine lv_aload_n hx hb dX10_maze_129 rfl (lv_at hl 0 rfl) ?_
      refine va_get (D := D) (ci := 10) (v := .int m_columns_1) (C := RX10) (T := TX10) (N := 34) hx hb hts inwX10_maze_X10 hown hK hP 0 rfl rfl 4 (by decide) (hts (.fieldLink RX10 17 "HedgeWaysModel" "columns" "I") (List.mem_of_getElem? (i := 5) rfl)) (fun _ h9 => h9) rfl dX10_maze_130 ?_
      refine lv_imul hx hb dX10_maze_133 ?_
      cases qob_ret hf
      exact ct_iret X hQ hK hP hD hS rfl dX10_maze_134
    · intro J4 hJ4 hf
      refine qwalk3 (fun (x1_1 : Int32) (m_right_3 : Nat → Int32) (m_down_3 : Nat → Int32) => ∀ (H : Heap) (locs : List Loc) (ls : Array Slot), ctW D A s ([oX10 mo ma 0 m_textSize m_rows_1 m_columns_1 m_a_1 m_b_1 m_readRows_1 m_readColumns_1 m_at m_looks m_came m_draw m_turnedRows m_turnedColumns, aI cy (ma 0) 41 m_text, aZ cy (ma 1) 36 m_right_3, aZ cy (ma 2) 36 m_down_3, aI cy (ma 3) 36 m_read_1]) H locs → lv_has ls 3 [(0, .ref mo), (1, .int x1_1)] → W p l e rmX10_maze s m args below meth c H locs 0 0 Q (F0 m 31 ls [])) ?_ _ (0 : Int32) m_right_1 m_down_1 hf _ _ _ ⟨hP, hD, hS⟩ (lv_sub hl [1, 0] rfl)
      intro J5 hL5 x1_1 m_right_3 m_down_3 hf H locs ls ⟨hP, hD, hS⟩ hl
      refine lv_iload_n hx hb dX10_maze_31 rfl (lv_at hl 1 rfl) ?_
      refine lv_aload_n hx hb dX10_maze_32 rfl (lv_at hl 0 rfl) ?_
      refine va_get (D := D) (ci := 10) (v := .int m_rows_1) (C := RX10) (T := TX10) (N := 34) hx hb hts inwX10_maze_X10 hown hK hP 0 rfl rfl 3 (by decide) (hts (.fieldLink RX10 13 "HedgeWaysModel" "rows" "I") (List.mem_of_getElem? (i := 4) rfl)) (fun _ h9 => h9) rfl dX10_maze_33 ?_
      refine lv_icmp_ge (tgt := 125) hx hb dX10_maze_36 (by decide) (fun c6 => ?_) (fun c6 => ?_)
      · have hf := qob_t hf c6
        have hf := qob_esc hf
        exact hJ4 m_right_3 m_down_3 hf _ _ _ ⟨hP, hD, hS⟩ (lv_sub hl [0] rfl)
      · have hf := qob_f hf c6
        refine lv_iconst (v := 0) hx hb dX10_maze_39 (by decide) ?_
        refine lv_istore_n (lv' := [(2, .int 0), (0, .ref mo), (1, .int x1_1)]) hx hb dX10_maze_40 rfl hl (by decide) rfl (fun ls hl => ?_)
        refine qjoin2 hf (fun (m_right_4 : Nat → Int32) (m_down_4 : Nat → Int32) => ∀ (H : Heap) (locs : List Loc) (ls : Array Slot), ctW D A s ([oX10 mo ma 0 m_textSize m_rows_1 m_columns_1 m_a_1 m_b_1 m_readRows_1 m_readColumns_1 m_at m_looks m_came m_draw m_turnedRows m_turnedColumns, aI cy (ma 0) 41 m_text, aZ cy (ma 1) 36 m_right_4, aZ cy (ma 2) 36 m_down_4, aI cy (ma 3) 36 m_read_1]) H locs → lv_has ls 3 [(0, .ref mo), (1, .int x1_1)] → W p l e rmX10_maze s m args below meth c H locs 0 0 Q (F0 m 119 ls [])) ?_ ?_
        · intro m_right_4 m_down_4 hf H locs ls ⟨hP, hD, hS⟩ hl
          refine lv_iinc (v := (x1_1 + 1)) (lv' := [(1, .int (x1_1 + 1)), (0, .ref mo)]) hx hb dX10_maze_119 hl (k := 1) rfl rfl (by decide) rfl (fun ls hl => ?_)
          refine lv_goto (tgt := 31) hx hb dX10_maze_122 (by decide) ?_
          exact hL5 (x1_1 + 1) m_right_4 m_down_4 hf _ _ _ ⟨hP, hD, hS⟩ (lv_sub hl [1, 0] rfl)
        · intro J7 hJ7 hf
          refine qwalk3 (fun (x2_1 : Int32) (m_right_5 : Nat → Int32) (m_down_5 : Nat → Int32) => ∀ (H : Heap) (locs : List Loc) (ls : Array Slot), ctW D A s ([oX10 mo ma 0 m_textSize m_rows_1 m_columns_1 m_a_1 m_b_1 m_readRows_1 m_readColumns_1 m_at m_looks m_came m_draw m_turnedRows m_turnedColumns, aI cy (ma 0) 41 m_text, aZ cy (ma 1) 36 m_right_5, aZ cy (ma 2) 36 m_down_5, aI cy (ma 3) 36 m_read_1]) H locs → lv_has ls 3 [(0, .ref mo), (1, .int x1_1), (2, .int x2_1)] → W p l e rmX10_maze s m args below meth c H locs 0 0 Q (F0 m 41 ls [])) ?_ _ (0 : Int32) m_right_3 m_down_3 hf _ _ _ ⟨hP, hD, hS⟩ (lv_sub hl [1, 2, 0] rfl)
          intro J8 hL8 x2_1 m_right_5 m_down_5 hf H locs ls ⟨hP, hD, hS⟩ hl
          refine lv_iload_n hx hb dX10_maze_41 rfl (lv_at hl 2 rfl) ?_
          refine lv_aload_n hx hb dX10_maze_42 rfl (lv_at hl 0 rfl) ?_
          refine va_get (D := D) (ci := 10) (v := .int m_columns_1) (C := RX10) (T := TX10) (N := 34) hx hb hts inwX10_maze_X10 hown hK hP 0 rfl rfl 4 (by decide) (hts (.fieldLink RX10 17 "HedgeWaysModel" "columns" "I") (List.mem_of_getElem? (i := 5) rfl)) (fun _ h9 => h9) rfl dX10_maze_43 ?_
          refine lv_icmp_ge (tgt := 119) hx hb dX10_maze_46 (by decide) (fun c9 => ?_) (fun c9 => ?_)
          · have hf := qob_t hf c9
            have hf := qob_esc hf
            exact hJ7 m_right_5 m_down_5 hf _ _ _ ⟨hP, hD, hS⟩ (lv_sub hl [0, 1] rfl)
          · have hf := qob_f hf c9
            refine lv_aload_n hx hb dX10_maze_49 rfl (lv_at hl 0 rfl) ?_
            refine va_get (D := D) (ci := 10) (v := .ref (ma 1)) (C := RX10) (T := TX10) (N := 34) hx hb hts inwX10_maze_X10 hown hK hP 0 rfl rfl 5 (by decide) (hts (.fieldLink RX10 20 "HedgeWaysModel" "right" "[Z") (List.mem_of_getElem? (i := 6) rfl)) (fun _ h9 => h9) rfl dX10_maze_50 ?_
            refine lv_bipush (v := 6) hx hb dX10_maze_53 (by decide) ?_
            refine lv_iload_n hx hb dX10_maze_55 rfl (lv_at hl 1 rfl) ?_
            refine lv_imul hx hb dX10_maze_56 ?_
            refine lv_iload_n hx hb dX10_maze_57 rfl (lv_at hl 2 rfl) ?_
            refine lv_iadd hx hb dX10_maze_58 ?_
            refine lv_aload_n hx hb dX10_maze_59 rfl (lv_at hl 0 rfl) ?_
            refine va_get (D := D) (ci := 10) (v := .ref (ma 3)) (C := RX10) (T := TX10) (N := 34) hx hb hts inwX10_maze_X10 hown hK hP 0 rfl rfl 11 (by decide) (hts (.fieldLink RX10 27 "HedgeWaysModel" "read" "[I") (List.mem_of_getElem? (i := 7) rfl)) (fun _ h9 => h9) rfl dX10_maze_60 ?_
            refine lv_bipush (v := 6) hx hb dX10_maze_63 (by decide) ?_
            refine lv_iload_n hx hb dX10_maze_65 rfl (lv_at hl 1 rfl) ?_
            refine lv_imul hx hb dX10_maze_66 ?_
            refine lv_iload_n hx hb dX10_maze_67 rfl (lv_at hl 2 rfl) ?_
            refine lv_iadd hx hb dX10_maze_68 ?_
            obtain ⟨i10, hf⟩ := qob_gd hf
            refine va_iald hx hb hK hP 4 0 rfl rfl i10 dX10_maze_69 ?_
            refine lv_iconst (v := 2) hx hb dX10_maze_70 (by decide) ?_
            refine lv_irem hx hb dX10_maze_71 (by decide) ?_
            refine lv_iconst (v := 1) hx hb dX10_maze_72 (by decide) ?_
            refine qjoin1 hf (fun (s_1 : Int32) => ∀ (H : Heap) (locs : List Loc) (ls : Array Slot), ctW D A s ([oX10 mo ma 0 m_textSize m_rows_1 m_columns_1 m_a_1 m_b_1 m_readRows_1 m_readColumns_1 m_at m_looks m_came m_draw m_turnedRows m_turnedColumns, aI cy (ma 0) 41 m_text, aZ cy (ma 1) 36 m_right_5, aZ cy (ma 2) 36 m_down_5, aI cy (ma 3) 36 m_read_1]) H locs → lv_has ls 3 [(0, .ref mo), (1, .int x1_1), (2, .int x2_1)] → W p l e rmX10_maze s m args below meth c H locs 0 0 Q (F0 m 81 ls [.int s_1, .int ((6 * x1_1) + x2_1), .ref (ma 1)])) ?_ ?_
            · intro s_1 hf H locs ls ⟨hP, hD, hS⟩ hl
              obtain ⟨i11, hf⟩ := qob_gd hf
              obtain ⟨m_right_6, e12⟩ : ∃ z, z = (upd m_right_5 (((6 * x1_1) + x2_1)).toNatClampNeg (qnb s_1)) := ⟨_, rfl⟩
              have hf := qob_bd hf e12
              refine va_zast hx hb hK hP hD hS 2 2 rfl rfl i11 dX10_maze_81 (fun H locs hP hD hS => ?_)
              have hP : va_P D vwCl ([oX10 mo ma 0 m_textSize m_rows_1 m_columns_1 m_a_1 m_b_1 m_readRows_1 m_readColumns_1 m_at m_looks m_came m_draw m_turnedRows m_turnedColumns, aI cy (ma 0) 41 m_text, aZ cy (ma 1) 36 m_right_6, aZ cy (ma 2) 36 m_down_5, aI cy (ma 3) 36 m_read_1]) H := by rw [e12]; exact hP
              have hD : va_D A ([oX10 mo ma 0 m_textSize m_rows_1 m_columns_1 m_a_1 m_b_1 m_readRows_1 m_readColumns_1 m_at m_looks m_came m_draw m_turnedRows m_turnedColumns, aI cy (ma 0) 41 m_text, aZ cy (ma 1) 36 m_right_6, aZ cy (ma 2) 36 m_down_5, aI cy (ma 3) 36 m_read_1]) := by rw [e12]; exact hD
              refine lv_aload_n hx hb dX10_maze_82 rfl (lv_at hl 0 rfl) ?_
              refine va_get (D := D) (ci := 10) (v := .ref (ma 2)) (C := RX10) (T := TX10) (N := 34) hx hb hts inwX10_maze_X10 hown hK hP 0 rfl rfl 6 (by decide) (hts (.fieldLink RX10 24 "HedgeWaysModel" "down" "[Z") (List.mem_of_getElem? (i := 8) rfl)) (fun _ h9 => h9) rfl dX10_maze_83 ?_
              refine lv_bipush (v := 6) hx hb dX10_maze_86 (by decide) ?_
              refine lv_iload_n hx hb dX10_maze_88 rfl (lv_at hl 1 rfl) ?_
              refine lv_imul hx hb dX10_maze_89 ?_
              refine lv_iload_n hx hb dX10_maze_90 rfl (lv_at hl 2 rfl) ?_
              refine lv_iadd hx hb dX10_maze_91 ?_
              refine lv_aload_n hx hb dX10_maze_92 rfl (lv_at hl 0 rfl) ?_
              refine va_get (D := D) (ci := 10) (v := .ref (ma 3)) (C := RX10) (T := TX10) (N := 34) hx hb hts inwX10_maze_X10 hown hK hP 0 rfl rfl 11 (by decide) (hts (.fieldLink RX10 27 "HedgeWaysModel" "read" "[I") (List.mem_of_getElem? (i := 7) rfl)) (fun _ h9 => h9) rfl dX10_maze_93 ?_
              refine lv_bipush (v := 6) hx hb dX10_maze_96 (by decide) ?_
              refine lv_iload_n hx hb dX10_maze_98 rfl (lv_at hl 1 rfl) ?_
              refine lv_imul hx hb dX10_maze_99 ?_
              refine lv_iload_n hx hb dX10_maze_100 rfl (lv_at hl 2 rfl) ?_
              refine lv_iadd hx hb dX10_maze_101 ?_
              obtain ⟨i13, hf⟩ := qob_gd hf
              refine va_iald hx hb hK hP 4 0 rfl rfl i13 dX10_maze_102 ?_
              refine lv_iconst (v := 1) hx hb dX10_maze_103 (by decide) ?_
              refine lv_icmp_le (tgt := 111) hx hb dX10_maze_104 (by decide) (fun c14 => ?_) (fun c14 => ?_)
              · have hf := qob_t hf c14
                refine lv_iconst (v := 0) hx hb dX10_maze_111 (by decide) ?_
                obtain ⟨i15, hf⟩ := qob_gd hf
                refine va_zast hx hb hK hP hD hS 3 2 rfl rfl i15 dX10_maze_112 (fun H locs hP hD hS => ?_)
                have hP : va_P D vwCl ([oX10 mo ma 0 m_textSize m_rows_1 m_columns_1 m_a_1 m_b_1 m_readRows_1 m_readColumns_1 m_at m_looks m_came m_draw m_turnedRows m_turnedColumns, aI cy (ma 0) 41 m_text, aZ cy (ma 1) 36 m_right_6, aZ cy (ma 2) 36 (upd m_down_5 (((6 * x1_1) + x2_1)).toNatClampNeg (qnb 0)), aI cy (ma 3) 36 m_read_1]) H := hP
                have hD : va_D A ([oX10 mo ma 0 m_textSize m_rows_1 m_columns_1 m_a_1 m_b_1 m_readRows_1 m_readColumns_1 m_at m_looks m_came m_draw m_turnedRows m_turnedColumns, aI cy (ma 0) 41 m_text, aZ cy (ma 1) 36 m_right_6, aZ cy (ma 2) 36 (upd m_down_5 (((6 * x1_1) + x2_1)).toNatClampNeg (qnb 0)), aI cy (ma 3) 36 m_read_1]) := hD
                refine lv_iinc (v := (x2_1 + 1)) (lv' := [(2, .int (x2_1 + 1)), (0, .ref mo), (1, .int x1_1)]) hx hb dX10_maze_113 hl (k := 2) rfl rfl (by decide) rfl (fun ls hl => ?_)
                refine lv_goto (tgt := 41) hx hb dX10_maze_116 (by decide) ?_
                exact hL8 (x2_1 + 1) m_right_6 (upd m_down_5 (((6 * x1_1) + x2_1)).toNatClampNeg (qnb 0)) hf _ _ _ ⟨hP, hD, hS⟩ (lv_sub hl [1, 2, 0] rfl)
              · have hf := qob_f hf c14
                refine lv_iconst (v := 1) hx hb dX10_maze_107 (by decide) ?_
                refine lv_goto (tgt := 112) hx hb dX10_maze_108 (by decide) ?_
                obtain ⟨i16, hf⟩ := qob_gd hf
                refine va_zast hx hb hK hP hD hS 3 2 rfl rfl i16 dX10_maze_112 (fun H locs hP hD hS => ?_)
                have hP : va_P D vwCl ([oX10 mo ma 0 m_textSize m_rows_1 m_columns_1 m_a_1 m_b_1 m_readRows_1 m_readColumns_1 m_at m_looks m_came m_draw m_turnedRows m_turnedColumns, aI cy (ma 0) 41 m_text, aZ cy (ma 1) 36 m_right_6, aZ cy (ma 2) 36 (upd m_down_5 (((6 * x1_1) + x2_1)).toNatClampNeg (qnb 1)), aI cy (ma 3) 36 m_read_1]) H := hP
                have hD : va_D A ([oX10 mo ma 0 m_textSize m_rows_1 m_columns_1 m_a_1 m_b_1 m_readRows_1 m_readColumns_1 m_at m_looks m_came m_draw m_turnedRows m_turnedColumns, aI cy (ma 0) 41 m_text, aZ cy (ma 1) 36 m_right_6, aZ cy (ma 2) 36 (upd m_down_5 (((6 * x1_1) + x2_1)).toNatClampNeg (qnb 1)), aI cy (ma 3) 36 m_read_1]) := hD
                refine lv_iinc (v := (x2_1 + 1)) (lv' := [(2, .int (x2_1 + 1)), (0, .ref mo), (1, .int x1_1)]) hx hb dX10_maze_113 hl (k := 2) rfl rfl (by decide) rfl (fun ls hl => ?_)
                refine lv_goto (tgt := 41) hx hb dX10_maze_116 (by decide) ?_
                exact hL8 (x2_1 + 1) m_right_6 (upd m_down_5 (((6 * x1_1) + x2_1)).toNatClampNeg (qnb 1)) hf _ _ _ ⟨hP, hD, hS⟩ (lv_sub hl [1, 2, 0] rfl)
            · intro J17 hJ17 hf
              refine lv_icmp_ne (tgt := 80) hx hb dX10_maze_73 (by decide) (fun c18 => ?_) (fun c18 => ?_)
              · have hf := qob_f hf c18
                refine lv_iconst (v := 0) hx hb dX10_maze_80 (by decide) ?_
                exact hJ17 0 hf _ _ _ ⟨hP, hD, hS⟩ hl
              · have hf := qob_t hf c18
                refine lv_iconst (v := 1) hx hb dX10_maze_76 (by decide) ?_
                refine lv_goto (tgt := 81) hx hb dX10_maze_77 (by decide) ?_
                exact hJ17 1 hf _ _ _ ⟨hP, hD, hS⟩ hl
  · have hf := qob_f hf c2
    refine lv_bipush (v := (-3)) hx hb dX10_maze_14 (by decide) ?_
    cases qob_ret hf
    exact ct_iret X hQ hK hP hD hS rfl dX10_maze_16
theorem inwX10_isCell_X10 : ∀ w ∈ wsX100, w ∈ wsX10_isCell := fun _ h => List.mem_cons_of_mem _ (List.mem_append_right _ h)
abbrev rmX10_isCell : Room := { frames := 0, cells := 0, slots := 0, locals := 0 }
theorem hdX10_isCell : yX10_isCell.cls = RX10 ∧ yX10_isCell.cls ≠ "java/lang/invoke/MethodHandle" ∧ yX10_isCell.cls ≠ "java/lang/invoke/VarHandle" ∧ (parseMethodDescriptor yX10_isCell.desc).map (fun d => d.parameters.length) = some 1 := by decide +kernel
set_option maxHeartbeats 4000000 in
set_option maxRecDepth 100000 in
theorem KX10_isCell {l : Launch} {D : va_G} {cy : Nat → ClassId} {mo : Nat} {ma : Nat → Nat} {m_thrown : Int32} {m_textSize : Int32} {m_rows : Int32} {m_columns : Int32} {m_a : Int32} {m_b : Int32} {m_readRows : Int32} {m_readColumns : Int32} {m_at : Int32} {m_looks : Int32} {m_came : Int32} {m_draw : Int64} {m_turnedRows : Int32} {m_turnedColumns : Int32} {p1 : Int32} {r : Int32} (hf : fX10_isCell m_rows m_columns p1 = r) : CtI l yX10_isCell wsX10_isCell rmX10_isCell D cy [.ref mo, .int p1] ([oX10 mo ma m_thrown m_textSize m_rows m_columns m_a m_b m_readRows m_readColumns m_at m_looks m_came m_draw m_turnedRows m_turnedColumns]) ([oX10 mo ma m_thrown m_textSize m_rows m_columns m_a m_b m_readRows m_readColumns m_at m_looks m_came m_draw m_turnedRows m_turnedColumns]) r := by
  refine CtI.of (cc := cX10_isCell) (maxL := 2) (ret := some .boolean) (own := RX10) (by decide) rfl rfl (Nat.le_of_ble_eq_true rfl) ?_
  intro p e s m args below meth c A Q X hQ hK hP hD hS ls hl
  obtain ⟨hx, hb, hml, hown, hts, hr, hlocks, hA, hZ⟩ := id X
  have hl : lv_has ls 2 [(0, .ref mo), (1, .int p1)] := hl
  unfold fX10_isCell at hf
  have hf := qbb_top hf
  refine lv_iload_n hx hb dX10_isCell_0 rfl (lv_at hl 1 rfl) ?_
  refine lv_if_lt (tgt := 30) hx hb dX10_isCell_1 (by decide) (fun c1 => ?_) (fun c1 => ?_)
  · have hf := qbb_t hf c1
    refine lv_iconst (v := 0) hx hb dX10_isCell_30 (by decide) ?_
    cases qbb_ret hf
    exact ct_zret X hQ hK hP hD hS qnb0 dX10_isCell_31
  · have hf := qbb_f hf c1
    refine lv_iload_n hx hb dX10_isCell_4 rfl (lv_at hl 1 rfl) ?_
    refine lv_bipush (v := 10) hx hb dX10_isCell_5 (by decide) ?_
    refine lv_idiv hx hb dX10_isCell_7 (by decide) ?_
    refine lv_aload_n hx hb dX10_isCell_8 rfl (lv_at hl 0 rfl) ?_
    refine va_get (D := D) (ci := 10) (v := .int m_rows) (C := RX10) (T := TX10) (N := 34) hx hb hts inwX10_isCell_X10 hown hK hP 0 rfl rfl 3 (by decide) (hts (.fieldLink RX10 13 "HedgeWaysModel" "rows" "I") (List.mem_of_getElem? (i := 1) rfl)) (fun _ h9 => h9) rfl dX10_isCell_9 ?_
    refine lv_icmp_ge (tgt := 30) hx hb dX10_isCell_12 (by decide) (fun c2 => ?_) (fun c2 => ?_)
    · have hf := qbb_t hf c2
      refine lv_iconst (v := 0) hx hb dX10_isCell_30 (by decide) ?_
      cases qbb_ret hf
      exact ct_zret X hQ hK hP hD hS qnb0 dX10_isCell_31
    · have hf := qbb_f hf c2
      refine lv_iload_n hx hb dX10_isCell_15 rfl (lv_at hl 1 rfl) ?_
      refine lv_bipush (v := 10) hx hb dX10_isCell_16 (by decide) ?_
      refine lv_irem hx hb dX10_isCell_18 (by decide) ?_
      refine lv_aload_n hx hb dX10_isCell_19 rfl (lv_at hl 0 rfl) ?_
      refine va_get (D := D) (ci := 10) (v := .int m_columns) (C := RX10) (T := TX10) (N := 34) hx hb hts inwX10_isCell_X10 hown hK hP 0 rfl rfl 4 (by decide) (hts (.fieldLink RX10 17 "HedgeWaysModel" "columns" "I") (List.mem_of_getElem? (i := 2) rfl)) (fun _ h9 => h9) rfl dX10_isCell_20 ?_
      refine lv_icmp_ge (tgt := 30) hx hb dX10_isCell_23 (by decide) (fun c3 => ?_) (fun c3 => ?_)
      · have hf := qbb_t hf c3
        refine lv_iconst (v := 0) hx hb dX10_isCell_30 (by decide) ?_
        cases qbb_ret hf
        exact ct_zret X hQ hK hP hD hS qnb0 dX10_isCell_31
      · have hf := qbb_f hf c3
        refine lv_iconst (v := 1) hx hb dX10_isCell_26 (by decide) ?_
        refine lv_goto (tgt := 31) hx hb dX10_isCell_27 (by decide) ?_
        cases qbb_ret hf
        exact ct_zret X hQ hK hP hD hS qnb1 dX10_isCell_31
abbrev rmX10_isSide : Room := { frames := 1, cells := 0, slots := 0, locals := 25 }
theorem hdX10_isSide : yX10_isSide.cls ≠ "java/lang/invoke/MethodHandle" ∧ yX10_isSide.cls ≠ "java/lang/invoke/VarHandle" ∧ (parseMethodDescriptor yX10_isSide.desc).map (fun d => d.parameters.length) = some 1 := by decide +kernel
set_option maxHeartbeats 4000000 in
set_option maxRecDepth 100000 in
theorem KX10_isSide {l : Launch} {D : va_G} {cy : Nat → ClassId}  {p1 : Int32} {r : Int32} (hf : fX10_isSide p1 = r) : CtI l yX10_isSide wsX10_isSide rmX10_isSide D cy [.int p1] ([]) ([]) r := by
  refine CtI.of (cc := cX10_isSide) (maxL := 1) (ret := some .boolean) (own := RX10) (by decide) rfl rfl (Nat.le_of_ble_eq_true rfl) ?_
  intro p e s m args below meth c A Q X hQ hK hP hD hS ls hl
  obtain ⟨hx, hb, hml, hown, hts, hr, hlocks, hA, hZ⟩ := id X
  have hl : lv_has ls 1 [(0, .int p1)] := hl
  unfold fX10_isSide at hf
  have hf := qbb_top hf
  refine lv_iload_n hx hb dX10_isSide_0 rfl (lv_at hl 0 rfl) ?_
  refine lv_i2l (v := p1.toInt64) hx hb dX10_isSide_1 rfl ?_
  refine lv_lconst (v := 0) hx hb dX10_isSide_2 (by decide) ?_
  refine lv_ldc2 hx hb hown (hts (.constantLong RX10 97 (3)) (List.mem_of_getElem? (i := 1) rfl)) dX10_isSide_3 ?_
  refine ctS_i0 (r := (fX10_in p1.toInt64 0 3)) (wc := []) (As := [.long p1.toInt64, .long 0, .long 3]) (rest := []) X hK hP hD hS [] rfl rfl rfl (KX10_in rfl _) (va_cwS 3 hts gX10_isSide_X10_in rfl rfl rfl hdX10_in ⟨Nat.le_of_ble_eq_true rfl, Nat.le_of_ble_eq_true rfl⟩) rfl hl rfl (Nat.le_of_ble_eq_true rfl) dX10_isSide_6 (Nat.zero_le _) (Nat.zero_le _) (fun H locs hP hS => ?_)
  cases qbb_ret hf
  exact ct_zret X hQ hK hP hD hS rfl dX10_isSide_9
abbrev rmX10_index : Room := { frames := 0, cells := 0, slots := 0, locals := 0 }
theorem hdX10_index : yX10_index.cls ≠ "java/lang/invoke/MethodHandle" ∧ yX10_index.cls ≠ "java/lang/invoke/VarHandle" ∧ (parseMethodDescriptor yX10_index.desc).map (fun d => d.parameters.length) = some 1 := by decide +kernel
set_option maxHeartbeats 4000000 in
set_option maxRecDepth 100000 in
theorem KX10_index {l : Launch} {D : va_G} {cy : Nat → ClassId}  {p1 : Int32} {r : Int32} (hf : fX10_index p1 = r) : CtI l yX10_index wsX10_index rmX10_index D cy [.int p1] ([]) ([]) r := by
  refine CtI.of (cc := cX10_index) (maxL := 1) (ret := some .int) (own := RX10) (by decide) rfl rfl (Nat.le_of_ble_eq_true rfl) ?_
  intro p e s m args below meth c A Q X hQ hK hP hD hS ls hl
  obtain ⟨hx, hb, hml, hown, hts, hr, hlocks, hA, hZ⟩ := id X
  have hl : lv_has ls 1 [(0, .int p1)] := hl
  unfold fX10_index at hf
  have hf := qbb_top hf
  refine lv_bipush (v := 6) hx hb dX10_index_0 (by decide) ?_
  refine lv_iload_n hx hb dX10_index_2 rfl (lv_at hl 0 rfl) ?_
  refine lv_bipush (v := 10) hx hb dX10_index_3 (by decide) ?_
  refine lv_idiv hx hb dX10_index_5 (by decide) ?_
  refine lv_imul hx hb dX10_index_6 ?_
  refine lv_iload_n hx hb dX10_index_7 rfl (lv_at hl 0 rfl) ?_
  refine lv_bipush (v := 10) hx hb dX10_index_8 (by decide) ?_
  refine lv_irem hx hb dX10_index_10 (by decide) ?_
  refine lv_iadd hx hb dX10_index_11 ?_
  cases qbb_ret hf
  exact ct_iret X hQ hK hP hD hS rfl dX10_index_12
abbrev rmX10_code : Room := { frames := 0, cells := 0, slots := 0, locals := 0 }
theorem hdX10_code : yX10_code.cls ≠ "java/lang/invoke/MethodHandle" ∧ yX10_code.cls ≠ "java/lang/invoke/VarHandle" ∧ (parseMethodDescriptor yX10_code.desc).map (fun d => d.parameters.length) = some 1 := by decide +kernel
set_option maxHeartbeats 4000000 in
set_option maxRecDepth 100000 in
theorem KX10_code {l : Launch} {D : va_G} {cy : Nat → ClassId}  {p1 : Int32} {r : Int32} (hf : fX10_code p1 = r) : CtI l yX10_code wsX10_code rmX10_code D cy [.int p1] ([]) ([]) r := by
  refine CtI.of (cc := cX10_code) (maxL := 1) (ret := some .int) (own := RX10) (by decide) rfl rfl (Nat.le_of_ble_eq_true rfl) ?_
  intro p e s m args below meth c A Q X hQ hK hP hD hS ls hl
  obtain ⟨hx, hb, hml, hown, hts, hr, hlocks, hA, hZ⟩ := id X
  have hl : lv_has ls 1 [(0, .int p1)] := hl
  unfold fX10_code at hf
  have hf := qbb_top hf
  refine lv_bipush (v := 10) hx hb dX10_code_0 (by decide) ?_
  refine lv_iload_n hx hb dX10_code_2 rfl (lv_at hl 0 rfl) ?_
  refine lv_bipush (v := 6) hx hb dX10_code_3 (by decide) ?_
  refine lv_idiv hx hb dX10_code_5 (by decide) ?_
  refine lv_imul hx hb dX10_code_6 ?_
  refine lv_iload_n hx hb dX10_code_7 rfl (lv_at hl 0 rfl) ?_
  refine lv_bipush (v := 6) hx hb dX10_code_8 (by decide) ?_
  refine lv_irem hx hb dX10_code_10 (by decide) ?_
  refine lv_iadd hx hb dX10_code_11 ?_
  cases qbb_ret hf
  exact ct_iret X hQ hK hP hD hS rfl dX10_code_12
theorem inwX10_isThere_X10 : ∀ w ∈ wsX100, w ∈ wsX10_isThere := fun _ h => List.mem_cons_of_mem _ (List.mem_append_right _ h)
abbrev rmX10_isThere : Room := { frames := 0, cells := 0, slots := 0, locals := 0 }
theorem hdX10_isThere : yX10_isThere.cls = RX10 ∧ yX10_isThere.cls ≠ "java/lang/invoke/MethodHandle" ∧ yX10_isThere.cls ≠ "java/lang/invoke/VarHandle" ∧ (parseMethodDescriptor yX10_isThere.desc).map (fun d => d.parameters.length) = some 1 := by decide +kernel
set_option maxHeartbeats 4000000 in
set_option maxRecDepth 100000 in
theorem KX10_isThere {l : Launch} {D : va_G} {cy : Nat → ClassId} {mo : Nat} {ma : Nat → Nat} {m_thrown : Int32} {m_textSize : Int32} {m_rows : Int32} {m_columns : Int32} {m_a : Int32} {m_b : Int32} {m_readRows : Int32} {m_readColumns : Int32} {m_at : Int32} {m_looks : Int32} {m_came : Int32} {m_draw : Int64} {m_turnedRows : Int32} {m_turnedColumns : Int32} {p1 : Int32} {r : Int32} (hf : fX10_isThere m_rows m_columns p1 = r) : CtI l yX10_isThere wsX10_isThere rmX10_isThere D cy [.ref mo, .int p1] ([oX10 mo ma m_thrown m_textSize m_rows m_columns m_a m_b m_readRows m_readColumns m_at m_looks m_came m_draw m_turnedRows m_turnedColumns]) ([oX10 mo ma m_thrown m_textSize m_rows m_columns m_a m_b m_readRows m_readColumns m_at m_looks m_came m_draw m_turnedRows m_turnedColumns]) r := by
  refine CtI.of (cc := cX10_isThere) (maxL := 2) (ret := some .boolean) (own := RX10) (by decide) rfl rfl (Nat.le_of_ble_eq_true rfl) ?_
  intro p e s m args below meth c A Q X hQ hK hP hD hS ls hl
  obtain ⟨hx, hb, hml, hown, hts, hr, hlocks, hA, hZ⟩ := id X
  have hl : lv_has ls 2 [(0, .ref mo), (1, .int p1)] := hl
  unfold fX10_isThere at hf
  have hf := qbb_top hf
  refine lv_iload_n hx hb dX10_isThere_0 rfl (lv_at hl 1 rfl) ?_
  refine lv_bipush (v := 6) hx hb dX10_isThere_1 (by decide) ?_
  refine lv_idiv hx hb dX10_isThere_3 (by decide) ?_
  refine lv_aload_n hx hb dX10_isThere_4 rfl (lv_at hl 0 rfl) ?_
  refine va_get (D := D) (ci := 10) (v := .int m_rows) (C := RX10) (T := TX10) (N := 34) hx hb hts inwX10_isThere_X10 hown hK hP 0 rfl rfl 3 (by decide) (hts (.fieldLink RX10 13 "HedgeWaysModel" "rows" "I") (List.mem_of_getElem? (i := 1) rfl)) (fun _ h9 => h9) rfl dX10_isThere_5 ?_
  refine lv_icmp_ge (tgt := 26) hx hb dX10_isThere_8 (by decide) (fun c1 => ?_) (fun c1 => ?_)
  · have hf := qbb_t hf c1
    refine lv_iconst (v := 0) hx hb dX10_isThere_26 (by decide) ?_
    cases qbb_ret hf
    exact ct_zret X hQ hK hP hD hS qnb0 dX10_isThere_27
  · have hf := qbb_f hf c1
    refine lv_iload_n hx hb dX10_isThere_11 rfl (lv_at hl 1 rfl) ?_
    refine lv_bipush (v := 6) hx hb dX10_isThere_12 (by decide) ?_
    refine lv_irem hx hb dX10_isThere_14 (by decide) ?_
    refine lv_aload_n hx hb dX10_isThere_15 rfl (lv_at hl 0 rfl) ?_
    refine va_get (D := D) (ci := 10) (v := .int m_columns) (C := RX10) (T := TX10) (N := 34) hx hb hts inwX10_isThere_X10 hown hK hP 0 rfl rfl 4 (by decide) (hts (.fieldLink RX10 17 "HedgeWaysModel" "columns" "I") (List.mem_of_getElem? (i := 2) rfl)) (fun _ h9 => h9) rfl dX10_isThere_16 ?_
    refine lv_icmp_ge (tgt := 26) hx hb dX10_isThere_19 (by decide) (fun c2 => ?_) (fun c2 => ?_)
    · have hf := qbb_t hf c2
      refine lv_iconst (v := 0) hx hb dX10_isThere_26 (by decide) ?_
      cases qbb_ret hf
      exact ct_zret X hQ hK hP hD hS qnb0 dX10_isThere_27
    · have hf := qbb_f hf c2
      refine lv_iconst (v := 1) hx hb dX10_isThere_22 (by decide) ?_
      refine lv_goto (tgt := 27) hx hb dX10_isThere_23 (by decide) ?_
      cases qbb_ret hf
      exact ct_zret X hQ hK hP hD hS qnb1 dX10_isThere_27
theorem inwX10_beside_X10 : ∀ w ∈ wsX100, w ∈ wsX10_beside := fun _ h => List.mem_cons_of_mem _ (List.mem_append_right _ h)
abbrev rmX10_beside : Room := { frames := 1, cells := 0, slots := 0, locals := 25 }
theorem hdX10_beside : yX10_beside.cls = RX10 ∧ yX10_beside.cls ≠ "java/lang/invoke/MethodHandle" ∧ yX10_beside.cls ≠ "java/lang/invoke/VarHandle" ∧ (parseMethodDescriptor yX10_beside.desc).map (fun d => d.parameters.length) = some 2 := by decide +kernel
set_option maxHeartbeats 4000000 in
set_option maxRecDepth 100000 in
theorem KX10_beside {l : Launch} {D : va_G} {cy : Nat → ClassId} {mo : Nat} {ma : Nat → Nat} {m_thrown : Int32} {m_textSize : Int32} {m_rows : Int32} {m_columns : Int32} {m_a : Int32} {m_b : Int32} {m_readRows : Int32} {m_readColumns : Int32} {m_at : Int32} {m_looks : Int32} {m_came : Int32} {m_draw : Int64} {m_turnedRows : Int32} {m_turnedColumns : Int32} {p1 : Int32} {p2 : Int32} {r : Int32} (hf : fX10_beside m_rows m_columns p1 p2 = r) : CtI l yX10_beside wsX10_beside rmX10_beside D cy [.ref mo, .int p1, .int p2] ([oX10 mo ma m_thrown m_textSize m_rows m_columns m_a m_b m_readRows m_readColumns m_at m_looks m_came m_draw m_turnedRows m_turnedColumns]) ([oX10 mo ma m_thrown m_textSize m_rows m_columns m_a m_b m_readRows m_readColumns m_at m_looks m_came m_draw m_turnedRows m_turnedColumns]) r := by
  refine CtI.of (cc := cX10_beside) (maxL := 5) (ret := some .int) (own := RX10) (by decide) rfl rfl (Nat.le_of_ble_eq_true rfl) ?_
  intro p e s m args below meth c A Q X hQ hK hP hD hS ls hl
  obtain ⟨hx, hb, hml, hown, hts, hr, hlocks, hA, hZ⟩ := id X
  have hl : lv_has ls 5 [(0, .ref mo), (1, .int p1), (2, .int p2)] := hl
  unfold fX10_beside at hf
  have hf := qbb_top hf
  refine lv_iload_n hx hb dX10_beside_0 rfl (lv_at hl 1 rfl) ?_
  refine lv_bipush (v := 6) hx hb dX10_beside_1 (by decide) ?_
  refine lv_idiv hx hb dX10_beside_3 (by decide) ?_
  refine lv_iload_n hx hb dX10_beside_4 rfl (lv_at hl 2 rfl) ?_
  refine qbjoin1 hf (fun (s_1 : Int32) => ∀ (H : Heap) (locs : List Loc) (ls : Array Slot), ctW D A s ([oX10 mo ma m_thrown m_textSize m_rows m_columns m_a m_b m_readRows m_readColumns m_at m_looks m_came m_draw m_turnedRows m_turnedColumns]) H locs → lv_has ls 5 [(0, .ref mo), (1, .int p1), (2, .int p2)] → W p l e rmX10_beside s m args below meth c H locs 0 0 Q (F0 m 22 ls [.int s_1, .int (p1 / 6)])) ?_ ?_
  · intro s_1 hf H locs ls ⟨hP, hD, hS⟩ hl
    refine lv_iadd hx hb dX10_beside_22 ?_
    refine lv_istore_n (lv' := [(3, .int ((p1 / 6) + s_1)), (0, .ref mo), (1, .int p1), (2, .int p2)]) hx hb dX10_beside_23 rfl hl (by decide) rfl (fun ls hl => ?_)
    refine lv_iload_n hx hb dX10_beside_24 rfl (lv_at hl 2 rfl) ?_
    refine lv_bipush (v := 6) hx hb dX10_beside_25 (by decide) ?_
    refine lv_irem hx hb dX10_beside_27 (by decide) ?_
    refine lv_iload_n hx hb dX10_beside_28 rfl (lv_at hl 3 rfl) ?_
    refine lv_iconst (v := 1) hx hb dX10_beside_29 (by decide) ?_
    refine qbjoin1 hf (fun (s_2 : Int32) => ∀ (H : Heap) (locs : List Loc) (ls : Array Slot), ctW D A s ([oX10 mo ma m_thrown m_textSize m_rows m_columns m_a m_b m_readRows m_readColumns m_at m_looks m_came m_draw m_turnedRows m_turnedColumns]) H locs → lv_has ls 5 [(0, .ref mo), (3, .int ((p1 / 6) + s_1))] → W p l e rmX10_beside s m args below meth c H locs 0 0 Q (F0 m 47 ls [.int s_2, .int (qrem p1 6)])) ?_ ?_
    · intro s_2 hf H locs ls ⟨hP, hD, hS⟩ hl
      refine lv_iadd hx hb dX10_beside_47 ?_
      refine lv_istore (lv' := [(4, .int ((qrem p1 6) + s_2)), (0, .ref mo), (3, .int ((p1 / 6) + s_1))]) hx hb dX10_beside_48 hl (by decide) rfl (fun ls hl => ?_)
      refine lv_iload_n hx hb dX10_beside_50 rfl (lv_at hl 2 rfl) ?_
      refine lv_i2l (v := ((p1 / 6) + s_1).toInt64) hx hb dX10_beside_51 rfl ?_
      refine lv_lconst (v := 0) hx hb dX10_beside_52 (by decide) ?_
      refine lv_aload_n hx hb dX10_beside_53 rfl (lv_at hl 1 rfl) ?_
      refine va_get (D := D) (ci := 10) (v := .int m_rows) (C := RX10) (T := TX10) (N := 34) hx hb hts inwX10_beside_X10 hown hK hP 0 rfl rfl 3 (by decide) (hts (.fieldLink RX10 13 "HedgeWaysModel" "rows" "I") (List.mem_of_getElem? (i := 1) rfl)) (fun _ h9 => h9) rfl dX10_beside_54 ?_
      refine lv_iconst (v := 1) hx hb dX10_beside_57 (by decide) ?_
      refine lv_isub hx hb dX10_beside_58 ?_
      refine lv_i2l (v := (m_rows - 1).toInt64) hx hb dX10_beside_59 rfl ?_
      refine ctS_i0 (r := (fX10_in (((p1 / 6) + s_1).toInt64) 0 ((m_rows - 1).toInt64))) (wc := []) (As := [.long (((p1 / 6) + s_1).toInt64), .long 0, .long ((m_rows - 1).toInt64)]) (rest := []) X hK hP hD hS [] rfl rfl rfl (KX10_in rfl _) (va_cwS 3 hts gX10_beside_X10_in rfl rfl rfl hdX10_in ⟨Nat.le_of_ble_eq_true rfl, Nat.le_of_ble_eq_true rfl⟩) rfl hl rfl (Nat.le_of_ble_eq_true rfl) dX10_beside_60 (Nat.zero_le _) (Nat.zero_le _) (fun H locs hP hS => ?_)
      refine lv_if_eq (tgt := 93) hx hb dX10_beside_63 (by decide) (fun c1 => ?_) (fun c1 => ?_)
      · have hf := qbb_t hf c1
        refine lv_bipush (v := (-9)) hx hb dX10_beside_93 (by decide) ?_
        cases qbb_ret hf
        exact ct_iret X hQ hK hP hD hS rfl dX10_beside_95
      · have hf := qbb_f hf c1
        refine lv_iload hx hb dX10_beside_66 (lv_at hl 0 rfl) ?_
        refine lv_i2l (v := ((qrem p1 6) + s_2).toInt64) hx hb dX10_beside_68 rfl ?_
        refine lv_lconst (v := 0) hx hb dX10_beside_69 (by decide) ?_
        refine lv_aload_n hx hb dX10_beside_70 rfl (lv_at hl 1 rfl) ?_
        refine va_get (D := D) (ci := 10) (v := .int m_columns) (C := RX10) (T := TX10) (N := 34) hx hb hts inwX10_beside_X10 hown hK hP 0 rfl rfl 4 (by decide) (hts (.fieldLink RX10 17 "HedgeWaysModel" "columns" "I") (List.mem_of_getElem? (i := 2) rfl)) (fun _ h9 => h9) rfl dX10_beside_71 ?_
        refine lv_iconst (v := 1) hx hb dX10_beside_74 (by decide) ?_
        refine lv_isub hx hb dX10_beside_75 ?_
        refine lv_i2l (v := (m_columns - 1).toInt64) hx hb dX10_beside_76 rfl ?_
        refine ctS_i0 (r := (fX10_in (((qrem p1 6) + s_2).toInt64) 0 ((m_columns - 1).toInt64))) (wc := []) (As := [.long (((qrem p1 6) + s_2).toInt64), .long 0, .long ((m_columns - 1).toInt64)]) (rest := []) X hK hP hD hS [] rfl rfl rfl (KX10_in rfl _) (va_cwS 3 hts gX10_beside_X10_in rfl rfl rfl hdX10_in ⟨Nat.le_of_ble_eq_true rfl, Nat.le_of_ble_eq_true rfl⟩) rfl hl rfl (Nat.le_of_ble_eq_true rfl) dX10_beside_77 (Nat.zero_le _) (Nat.zero_le _) (fun H locs hP hS => ?_)
        refine lv_if_eq (tgt := 93) hx hb dX10_beside_80 (by decide) (fun c2 => ?_) (fun c2 => ?_)
        · have hf := qbb_t hf c2
          refine lv_bipush (v := (-9)) hx hb dX10_beside_93 (by decide) ?_
          cases qbb_ret hf
          exact ct_iret X hQ hK hP hD hS rfl dX10_beside_95
        · have hf := qbb_f hf c2
          refine lv_bipush (v := 6) hx hb dX10_beside_83 (by decide) ?_
          refine lv_iload_n hx hb dX10_beside_85 rfl (lv_at hl 2 rfl) ?_
          refine lv_imul hx hb dX10_beside_86 ?_
          refine lv_iload hx hb dX10_beside_87 (lv_at hl 0 rfl) ?_
          refine lv_iadd hx hb dX10_beside_89 ?_
          refine lv_goto (tgt := 95) hx hb dX10_beside_90 (by decide) ?_
          cases qbb_ret hf
          exact ct_iret X hQ hK hP hD hS rfl dX10_beside_95
    · intro J3 hJ3 hf
      refine lv_icmp_ne (tgt := 37) hx hb dX10_beside_30 (by decide) (fun c4 => ?_) (fun c4 => ?_)
      · have hf := qbb_f hf c4
        refine lv_iload_n hx hb dX10_beside_37 rfl (lv_at hl 3 rfl) ?_
        refine lv_iconst (v := 3) hx hb dX10_beside_38 (by decide) ?_
        refine lv_icmp_ne (tgt := 46) hx hb dX10_beside_39 (by decide) (fun c5 => ?_) (fun c5 => ?_)
        · have hf := qbb_f hf c5
          refine lv_iconst (v := 0) hx hb dX10_beside_46 (by decide) ?_
          exact hJ3 0 hf _ _ _ ⟨hP, hD, hS⟩ (lv_sub hl [1, 0] rfl)
        · have hf := qbb_t hf c5
          refine lv_iconst (v := (-1)) hx hb dX10_beside_42 (by decide) ?_
          refine lv_goto (tgt := 47) hx hb dX10_beside_43 (by decide) ?_
          exact hJ3 (-1) hf _ _ _ ⟨hP, hD, hS⟩ (lv_sub hl [1, 0] rfl)
      · have hf := qbb_t hf c4
        refine lv_iconst (v := 1) hx hb dX10_beside_33 (by decide) ?_
        refine lv_goto (tgt := 47) hx hb dX10_beside_34 (by decide) ?_
        exact hJ3 1 hf _ _ _ ⟨hP, hD, hS⟩ (lv_sub hl [1, 0] rfl)
  · intro J6 hJ6 hf
    refine lv_if_ne (tgt := 12) hx hb dX10_beside_5 (by decide) (fun c7 => ?_) (fun c7 => ?_)
    · have hf := qbb_f hf c7
      refine lv_iload_n hx hb dX10_beside_12 rfl (lv_at hl 2 rfl) ?_
      refine lv_iconst (v := 2) hx hb dX10_beside_13 (by decide) ?_
      refine lv_icmp_ne (tgt := 21) hx hb dX10_beside_14 (by decide) (fun c8 => ?_) (fun c8 => ?_)
      · have hf := qbb_f hf c8
        refine lv_iconst (v := 0) hx hb dX10_beside_21 (by decide) ?_
        exact hJ6 0 hf _ _ _ ⟨hP, hD, hS⟩ hl
      · have hf := qbb_t hf c8
        refine lv_iconst (v := 1) hx hb dX10_beside_17 (by decide) ?_
        refine lv_goto (tgt := 22) hx hb dX10_beside_18 (by decide) ?_
        exact hJ6 1 hf _ _ _ ⟨hP, hD, hS⟩ hl
    · have hf := qbb_t hf c7
      refine lv_iconst (v := (-1)) hx hb dX10_beside_8 (by decide) ?_
      refine lv_goto (tgt := 22) hx hb dX10_beside_9 (by decide) ?_
      exact hJ6 (-1) hf _ _ _ ⟨hP, hD, hS⟩ hl
theorem inwX10_isOpen_X10 : ∀ w ∈ wsX100, w ∈ wsX10_isOpen := fun _ h => List.mem_cons_of_mem _ (List.mem_append_right _ h)
abbrev rmX10_isOpen : Room := { frames := 2, cells := 0, slots := 0, locals := 49 }
theorem hdX10_isOpen : yX10_isOpen.cls = RX10 ∧ yX10_isOpen.cls ≠ "java/lang/invoke/MethodHandle" ∧ yX10_isOpen.cls ≠ "java/lang/invoke/VarHandle" ∧ (parseMethodDescriptor yX10_isOpen.desc).map (fun d => d.parameters.length) = some 2 := by decide +kernel
set_option maxHeartbeats 4000000 in
set_option maxRecDepth 100000 in
theorem KX10_isOpen {l : Launch} {D : va_G} {cy : Nat → ClassId} {mo : Nat} {ma : Nat → Nat} {m_thrown : Int32} {m_textSize : Int32} {m_rows : Int32} {m_columns : Int32} {m_a : Int32} {m_b : Int32} {m_readRows : Int32} {m_readColumns : Int32} {m_at : Int32} {m_looks : Int32} {m_came : Int32} {m_draw : Int64} {m_turnedRows : Int32} {m_turnedColumns : Int32} {m_right : Nat → Int32} {m_down : Nat → Int32} {p1 : Int32} {p2 : Int32} {r : Int32} (hf : fX10_isOpen m_rows m_columns m_right m_down p1 p2 = some r) : CtI l yX10_isOpen wsX10_isOpen rmX10_isOpen D cy [.ref mo, .int p1, .int p2] ([oX10 mo ma m_thrown m_textSize m_rows m_columns m_a m_b m_readRows m_readColumns m_at m_looks m_came m_draw m_turnedRows m_turnedColumns, aZ cy (ma 1) 36 m_right, aZ cy (ma 2) 36 m_down]) ([oX10 mo ma m_thrown m_textSize m_rows m_columns m_a m_b m_readRows m_readColumns m_at m_looks m_came m_draw m_turnedRows m_turnedColumns, aZ cy (ma 1) 36 m_right, aZ cy (ma 2) 36 m_down]) r := by
  refine CtI.of (cc := cX10_isOpen) (maxL := 4) (ret := some .boolean) (own := RX10) (by decide) rfl rfl (Nat.le_of_ble_eq_true rfl) ?_
  intro p e s m args below meth c A Q X hQ hK hP hD hS ls hl
  obtain ⟨hx, hb, hml, hown, hts, hr, hlocks, hA, hZ⟩ := id X
  have hl : lv_has ls 4 [(0, .ref mo), (1, .int p1), (2, .int p2)] := hl
  unfold fX10_isOpen at hf
  have hf := qob_top hf
  refine lv_aload_n hx hb dX10_isOpen_0 rfl (lv_at hl 0 rfl) ?_
  refine lv_iload_n hx hb dX10_isOpen_1 rfl (lv_at hl 1 rfl) ?_
  refine lv_iload_n hx hb dX10_isOpen_2 rfl (lv_at hl 2 rfl) ?_
  refine ctV_i0 (r := (fX10_beside m_rows m_columns p1 p2)) (wc := [oX10 mo ma m_thrown m_textSize m_rows m_columns m_a m_b m_readRows m_readColumns m_at m_looks m_came m_draw m_turnedRows m_turnedColumns]) (As := [.int p1, .int p2]) (rest := []) (q0 := 0) X hK hP hD hS [0] rfl rfl rfl (KX10_beside rfl _) (cwV 2 hts gX10_isOpen_X10_beside rfl rfl rfl hdX10_beside ⟨Nat.le_of_ble_eq_true rfl, Nat.le_of_ble_eq_true rfl⟩) rfl rfl rfl hl rfl (Nat.le_of_ble_eq_true rfl) dX10_isOpen_3 (Nat.zero_le _) (Nat.zero_le _) (fun H locs hP hS => ?_)
  refine lv_istore_n (lv' := [(3, .int (fX10_beside m_rows m_columns p1 p2)), (0, .ref mo), (1, .int p1), (2, .int p2)]) hx hb dX10_isOpen_6 rfl hl (by decide) rfl (fun ls hl => ?_)
  refine lv_iload_n hx hb dX10_isOpen_7 rfl (lv_at hl 0 rfl) ?_
  refine lv_bipush (v := (-9)) hx hb dX10_isOpen_8 (by decide) ?_
  refine lv_icmp_ne (tgt := 15) hx hb dX10_isOpen_10 (by decide) (fun c1 => ?_) (fun c1 => ?_)
  · have hf := qob_f hf c1
    refine lv_iload_n hx hb dX10_isOpen_15 rfl (lv_at hl 3 rfl) ?_
    refine lv_iconst (v := 1) hx hb dX10_isOpen_16 (by decide) ?_
    refine lv_icmp_ne (tgt := 29) hx hb dX10_isOpen_17 (by decide) (fun c2 => ?_) (fun c2 => ?_)
    · have hf := qob_f hf c2
      refine lv_iload_n hx hb dX10_isOpen_29 rfl (lv_at hl 3 rfl) ?_
      refine lv_iconst (v := 2) hx hb dX10_isOpen_30 (by decide) ?_
      refine lv_icmp_ne (tgt := 43) hx hb dX10_isOpen_31 (by decide) (fun c3 => ?_) (fun c3 => ?_)
      · have hf := qob_f hf c3
        refine lv_iload_n hx hb dX10_isOpen_43 rfl (lv_at hl 3 rfl) ?_
        refine lv_iconst (v := 3) hx hb dX10_isOpen_44 (by decide) ?_
        refine lv_icmp_ne (tgt := 57) hx hb dX10_isOpen_45 (by decide) (fun c4 => ?_) (fun c4 => ?_)
        · have hf := qob_f hf c4
          refine lv_aload_n hx hb dX10_isOpen_57 rfl (lv_at hl 1 rfl) ?_
          refine va_get (D := D) (ci := 10) (v := .ref (ma 2)) (C := RX10) (T := TX10) (N := 34) hx hb hts inwX10_isOpen_X10 hown hK hP 0 rfl rfl 6 (by decide) (hts (.fieldLink RX10 24 "HedgeWaysModel" "down" "[Z") (List.mem_of_getElem? (i := 2) rfl)) (fun _ h9 => h9) rfl dX10_isOpen_58 ?_
          refine lv_iload_n hx hb dX10_isOpen_61 rfl (lv_at hl 0 rfl) ?_
          obtain ⟨i5, hf⟩ := qob_gd hf
          refine va_zald hx hb hK hP 2 2 rfl rfl i5 dX10_isOpen_62 ?_
          cases qob_ret hf
          exact ct_zret X hQ hK hP hD hS rfl dX10_isOpen_63
        · have hf := qob_t hf c4
          refine lv_aload_n hx hb dX10_isOpen_48 rfl (lv_at hl 1 rfl) ?_
          refine va_get (D := D) (ci := 10) (v := .ref (ma 1)) (C := RX10) (T := TX10) (N := 34) hx hb hts inwX10_isOpen_X10 hown hK hP 0 rfl rfl 5 (by decide) (hts (.fieldLink RX10 20 "HedgeWaysModel" "right" "[Z") (List.mem_of_getElem? (i := 1) rfl)) (fun _ h9 => h9) rfl dX10_isOpen_49 ?_
          refine lv_iload_n hx hb dX10_isOpen_52 rfl (lv_at hl 0 rfl) ?_
          obtain ⟨i6, hf⟩ := qob_gd hf
          refine va_zald hx hb hK hP 1 2 rfl rfl i6 dX10_isOpen_53 ?_
          refine lv_goto (tgt := 63) hx hb dX10_isOpen_54 (by decide) ?_
          cases qob_ret hf
          exact ct_zret X hQ hK hP hD hS rfl dX10_isOpen_63
      · have hf := qob_t hf c3
        refine lv_aload_n hx hb dX10_isOpen_34 rfl (lv_at hl 1 rfl) ?_
        refine va_get (D := D) (ci := 10) (v := .ref (ma 2)) (C := RX10) (T := TX10) (N := 34) hx hb hts inwX10_isOpen_X10 hown hK hP 0 rfl rfl 6 (by decide) (hts (.fieldLink RX10 24 "HedgeWaysModel" "down" "[Z") (List.mem_of_getElem? (i := 2) rfl)) (fun _ h9 => h9) rfl dX10_isOpen_35 ?_
        refine lv_iload_n hx hb dX10_isOpen_38 rfl (lv_at hl 2 rfl) ?_
        obtain ⟨i7, hf⟩ := qob_gd hf
        refine va_zald hx hb hK hP 2 2 rfl rfl i7 dX10_isOpen_39 ?_
        refine lv_goto (tgt := 63) hx hb dX10_isOpen_40 (by decide) ?_
        cases qob_ret hf
        exact ct_zret X hQ hK hP hD hS rfl dX10_isOpen_63
    · have hf := qob_t hf c2
      refine lv_aload_n hx hb dX10_isOpen_20 rfl (lv_at hl 1 rfl) ?_
      refine va_get (D := D) (ci := 10) (v := .ref (ma 1)) (C := RX10) (T := TX10) (N := 34) hx hb hts inwX10_isOpen_X10 hown hK hP 0 rfl rfl 5 (by decide) (hts (.fieldLink RX10 20 "HedgeWaysModel" "right" "[Z") (List.mem_of_getElem? (i := 1) rfl)) (fun _ h9 => h9) rfl dX10_isOpen_21 ?_
      refine lv_iload_n hx hb dX10_isOpen_24 rfl (lv_at hl 2 rfl) ?_
      obtain ⟨i8, hf⟩ := qob_gd hf
      refine va_zald hx hb hK hP 1 2 rfl rfl i8 dX10_isOpen_25 ?_
      refine lv_goto (tgt := 63) hx hb dX10_isOpen_26 (by decide) ?_
      cases qob_ret hf
      exact ct_zret X hQ hK hP hD hS rfl dX10_isOpen_63
  · have hf := qob_t hf c1
    refine lv_iconst (v := 0) hx hb dX10_isOpen_13 (by decide) ?_
    cases qob_ret hf
    exact ct_zret X hQ hK hP hD hS qnb0 dX10_isOpen_14
theorem inwX10_set_X10 : ∀ w ∈ wsX100, w ∈ wsX10_set := fun _ h => List.mem_cons_of_mem _ (List.mem_append_right _ h)
abbrev rmX10_set : Room := { frames := 2, cells := 0, slots := 0, locals := 49 }
theorem hdX10_set : yX10_set.cls = RX10 ∧ yX10_set.cls ≠ "java/lang/invoke/MethodHandle" ∧ yX10_set.cls ≠ "java/lang/invoke/VarHandle" ∧ (parseMethodDescriptor yX10_set.desc).map (fun d => d.parameters.length) = some 3 := by decide +kernel
set_option maxHeartbeats 4000000 in
set_option maxRecDepth 100000 in
theorem KX10_set {l : Launch} {D : va_G} {cy : Nat → ClassId} {mo : Nat} {ma : Nat → Nat} {m_thrown : Int32} {m_textSize : Int32} {m_rows : Int32} {m_columns : Int32} {m_a : Int32} {m_b : Int32} {m_readRows : Int32} {m_readColumns : Int32} {m_at : Int32} {m_looks : Int32} {m_came : Int32} {m_draw : Int64} {m_turnedRows : Int32} {m_turnedColumns : Int32} {m_right : Nat → Int32} {m_down : Nat → Int32} {p1 : Int32} {p2 : Int32} {p3 : Int32} {m_right' : Nat → Int32} {m_down' : Nat → Int32} (hf : fX10_set m_rows m_columns m_right m_down p1 p2 p3 = some (m_right', m_down')) : CtV l yX10_set wsX10_set rmX10_set D cy [.ref mo, .int p1, .int p2, .int p3] ([oX10 mo ma m_thrown m_textSize m_rows m_columns m_a m_b m_readRows m_readColumns m_at m_looks m_came m_draw m_turnedRows m_turnedColumns, aZ cy (ma 1) 36 m_right, aZ cy (ma 2) 36 m_down]) ([oX10 mo ma m_thrown m_textSize m_rows m_columns m_a m_b m_readRows m_readColumns m_at m_looks m_came m_draw m_turnedRows m_turnedColumns, aZ cy (ma 1) 36 m_right', aZ cy (ma 2) 36 m_down']) := by
  refine CtV.of (cc := cX10_set) (maxL := 5) (ret := none) (own := RX10) (by decide) rfl rfl (Nat.le_of_ble_eq_true rfl) ?_
  intro p e s m args below meth c A Q X hQ hK hP hD hS ls hl
  obtain ⟨hx, hb, hml, hown, hts, hr, hlocks, hA, hZ⟩ := id X
  have hl : lv_has ls 5 [(0, .ref mo), (1, .int p1), (2, .int p2), (3, .int p3)] := hl
  unfold fX10_set at hf
  have hf := qob_top hf
  refine lv_aload_n hx hb dX10_set_0 rfl (lv_at hl 0 rfl) ?_
  refine lv_iload_n hx hb dX10_set_1 rfl (lv_at hl 1 rfl) ?_
  refine lv_iload_n hx hb dX10_set_2 rfl (lv_at hl 2 rfl) ?_
  refine ctV_i0 (r := (fX10_beside m_rows m_columns p1 p2)) (wc := [oX10 mo ma m_thrown m_textSize m_rows m_columns m_a m_b m_readRows m_readColumns m_at m_looks m_came m_draw m_turnedRows m_turnedColumns]) (As := [.int p1, .int p2]) (rest := []) (q0 := 0) X hK hP hD hS [0] rfl rfl rfl (KX10_beside rfl _) (cwV 2 hts gX10_set_X10_beside rfl rfl rfl hdX10_beside ⟨Nat.le_of_ble_eq_true rfl, Nat.le_of_ble_eq_true rfl⟩) rfl rfl rfl hl rfl (Nat.le_of_ble_eq_true rfl) dX10_set_3 (Nat.zero_le _) (Nat.zero_le _) (fun H locs hP hS => ?_)
  refine lv_istore (lv' := [(4, .int (fX10_beside m_rows m_columns p1 p2)), (0, .ref mo), (1, .int p1), (2, .int p2), (3, .int p3)]) hx hb dX10_set_6 hl (by decide) rfl (fun ls hl => ?_)
  refine lv_iload_n hx hb dX10_set_8 rfl (lv_at hl 3 rfl) ?_
  refine lv_iconst (v := 1) hx hb dX10_set_9 (by decide) ?_
  refine lv_icmp_ne (tgt := 23) hx hb dX10_set_10 (by decide) (fun c1 => ?_) (fun c1 => ?_)
  · have hf := qob_f hf c1
    refine lv_iload_n hx hb dX10_set_23 rfl (lv_at hl 3 rfl) ?_
    refine lv_iconst (v := 2) hx hb dX10_set_24 (by decide) ?_
    refine lv_icmp_ne (tgt := 38) hx hb dX10_set_25 (by decide) (fun c2 => ?_) (fun c2 => ?_)
    · have hf := qob_f hf c2
      refine lv_iload_n hx hb dX10_set_38 rfl (lv_at hl 3 rfl) ?_
      refine lv_iconst (v := 3) hx hb dX10_set_39 (by decide) ?_
      refine lv_icmp_ne (tgt := 54) hx hb dX10_set_40 (by decide) (fun c3 => ?_) (fun c3 => ?_)
      · have hf := qob_f hf c3
        refine lv_aload_n hx hb dX10_set_54 rfl (lv_at hl 1 rfl) ?_
        refine va_get (D := D) (ci := 10) (v := .ref (ma 2)) (C := RX10) (T := TX10) (N := 34) hx hb hts inwX10_set_X10 hown hK hP 0 rfl rfl 6 (by decide) (hts (.fieldLink RX10 24 "HedgeWaysModel" "down" "[Z") (List.mem_of_getElem? (i := 2) rfl)) (fun _ h9 => h9) rfl dX10_set_55 ?_
        refine lv_iload hx hb dX10_set_58 (lv_at hl 0 rfl) ?_
        refine lv_iload_n hx hb dX10_set_60 rfl (lv_at hl 4 rfl) ?_
        obtain ⟨i4, hf⟩ := qob_gd hf
        obtain ⟨m_down_1, e5⟩ : ∃ z, z = (upd m_down ((fX10_beside m_rows m_columns p1 p2)).toNatClampNeg (qnb p3)) := ⟨_, rfl⟩
        have hf := qob_bd hf e5
        refine va_zast hx hb hK hP hD hS 2 2 rfl rfl i4 dX10_set_61 (fun H locs hP hD hS => ?_)
        have hP : va_P D vwCl ([oX10 mo ma m_thrown m_textSize m_rows m_columns m_a m_b m_readRows m_readColumns m_at m_looks m_came m_draw m_turnedRows m_turnedColumns, aZ cy (ma 1) 36 m_right, aZ cy (ma 2) 36 m_down_1]) H := by rw [e5]; exact hP
        have hD : va_D A ([oX10 mo ma m_thrown m_textSize m_rows m_columns m_a m_b m_readRows m_readColumns m_at m_looks m_came m_draw m_turnedRows m_turnedColumns, aZ cy (ma 1) 36 m_right, aZ cy (ma 2) 36 m_down_1]) := by rw [e5]; exact hD
        cases qob_ret hf
        exact ct_vret X hQ hK hP hD hS dX10_set_62
      · have hf := qob_t hf c3
        refine lv_aload_n hx hb dX10_set_43 rfl (lv_at hl 1 rfl) ?_
        refine va_get (D := D) (ci := 10) (v := .ref (ma 1)) (C := RX10) (T := TX10) (N := 34) hx hb hts inwX10_set_X10 hown hK hP 0 rfl rfl 5 (by decide) (hts (.fieldLink RX10 20 "HedgeWaysModel" "right" "[Z") (List.mem_of_getElem? (i := 1) rfl)) (fun _ h9 => h9) rfl dX10_set_44 ?_
        refine lv_iload hx hb dX10_set_47 (lv_at hl 0 rfl) ?_
        refine lv_iload_n hx hb dX10_set_49 rfl (lv_at hl 4 rfl) ?_
        obtain ⟨i6, hf⟩ := qob_gd hf
        obtain ⟨m_right_1, e7⟩ : ∃ z, z = (upd m_right ((fX10_beside m_rows m_columns p1 p2)).toNatClampNeg (qnb p3)) := ⟨_, rfl⟩
        have hf := qob_bd hf e7
        refine va_zast hx hb hK hP hD hS 1 2 rfl rfl i6 dX10_set_50 (fun H locs hP hD hS => ?_)
        have hP : va_P D vwCl ([oX10 mo ma m_thrown m_textSize m_rows m_columns m_a m_b m_readRows m_readColumns m_at m_looks m_came m_draw m_turnedRows m_turnedColumns, aZ cy (ma 1) 36 m_right_1, aZ cy (ma 2) 36 m_down]) H := by rw [e7]; exact hP
        have hD : va_D A ([oX10 mo ma m_thrown m_textSize m_rows m_columns m_a m_b m_readRows m_readColumns m_at m_looks m_came m_draw m_turnedRows m_turnedColumns, aZ cy (ma 1) 36 m_right_1, aZ cy (ma 2) 36 m_down]) := by rw [e7]; exact hD
        refine lv_goto (tgt := 62) hx hb dX10_set_51 (by decide) ?_
        cases qob_ret hf
        exact ct_vret X hQ hK hP hD hS dX10_set_62
    · have hf := qob_t hf c2
      refine lv_aload_n hx hb dX10_set_28 rfl (lv_at hl 1 rfl) ?_
      refine va_get (D := D) (ci := 10) (v := .ref (ma 2)) (C := RX10) (T := TX10) (N := 34) hx hb hts inwX10_set_X10 hown hK hP 0 rfl rfl 6 (by decide) (hts (.fieldLink RX10 24 "HedgeWaysModel" "down" "[Z") (List.mem_of_getElem? (i := 2) rfl)) (fun _ h9 => h9) rfl dX10_set_29 ?_
      refine lv_iload_n hx hb dX10_set_32 rfl (lv_at hl 2 rfl) ?_
      refine lv_iload_n hx hb dX10_set_33 rfl (lv_at hl 4 rfl) ?_
      obtain ⟨i8, hf⟩ := qob_gd hf
      refine va_zast hx hb hK hP hD hS 2 2 rfl rfl i8 dX10_set_34 (fun H locs hP hD hS => ?_)
      have hP : va_P D vwCl ([oX10 mo ma m_thrown m_textSize m_rows m_columns m_a m_b m_readRows m_readColumns m_at m_looks m_came m_draw m_turnedRows m_turnedColumns, aZ cy (ma 1) 36 m_right, aZ cy (ma 2) 36 (upd m_down p1.toNatClampNeg (qnb p3))]) H := hP
      have hD : va_D A ([oX10 mo ma m_thrown m_textSize m_rows m_columns m_a m_b m_readRows m_readColumns m_at m_looks m_came m_draw m_turnedRows m_turnedColumns, aZ cy (ma 1) 36 m_right, aZ cy (ma 2) 36 (upd m_down p1.toNatClampNeg (qnb p3))]) := hD
      refine lv_goto (tgt := 62) hx hb dX10_set_35 (by decide) ?_
      cases qob_ret hf
      exact ct_vret X hQ hK hP hD hS dX10_set_62
  · have hf := qob_t hf c1
    refine lv_aload_n hx hb dX10_set_13 rfl (lv_at hl 1 rfl) ?_
    refine va_get (D := D) (ci := 10) (v := .ref (ma 1)) (C := RX10) (T := TX10) (N := 34) hx hb hts inwX10_set_X10 hown hK hP 0 rfl rfl 5 (by decide) (hts (.fieldLink RX10 20 "HedgeWaysModel" "right" "[Z") (List.mem_of_getElem? (i := 1) rfl)) (fun _ h9 => h9) rfl dX10_set_14 ?_
    refine lv_iload_n hx hb dX10_set_17 rfl (lv_at hl 2 rfl) ?_
    refine lv_iload_n hx hb dX10_set_18 rfl (lv_at hl 4 rfl) ?_
    obtain ⟨i9, hf⟩ := qob_gd hf
    refine va_zast hx hb hK hP hD hS 1 2 rfl rfl i9 dX10_set_19 (fun H locs hP hD hS => ?_)
    have hP : va_P D vwCl ([oX10 mo ma m_thrown m_textSize m_rows m_columns m_a m_b m_readRows m_readColumns m_at m_looks m_came m_draw m_turnedRows m_turnedColumns, aZ cy (ma 1) 36 (upd m_right p1.toNatClampNeg (qnb p3)), aZ cy (ma 2) 36 m_down]) H := hP
    have hD : va_D A ([oX10 mo ma m_thrown m_textSize m_rows m_columns m_a m_b m_readRows m_readColumns m_at m_looks m_came m_draw m_turnedRows m_turnedColumns, aZ cy (ma 1) 36 (upd m_right p1.toNatClampNeg (qnb p3)), aZ cy (ma 2) 36 m_down]) := hD
    refine lv_goto (tgt := 62) hx hb dX10_set_20 (by decide) ?_
    cases qob_ret hf
    exact ct_vret X hQ hK hP hD hS dX10_set_62
theorem inwX10_next_X10 : ∀ w ∈ wsX100, w ∈ wsX10_next := fun _ h => List.mem_cons_of_mem _ (List.mem_append_right _ h)
abbrev rmX10_next : Room := { frames := 0, cells := 0, slots := 0, locals := 0 }
theorem hdX10_next : yX10_next.cls = RX10 ∧ yX10_next.cls ≠ "java/lang/invoke/MethodHandle" ∧ yX10_next.cls ≠ "java/lang/invoke/VarHandle" ∧ (parseMethodDescriptor yX10_next.desc).map (fun d => d.parameters.length) = some 1 := by decide +kernel
set_option maxHeartbeats 4000000 in
set_option maxRecDepth 100000 in
theorem KX10_next {l : Launch} {D : va_G} {cy : Nat → ClassId} {mo : Nat} {ma : Nat → Nat} {m_thrown : Int32} {m_textSize : Int32} {m_rows : Int32} {m_columns : Int32} {m_a : Int32} {m_b : Int32} {m_readRows : Int32} {m_readColumns : Int32} {m_at : Int32} {m_looks : Int32} {m_came : Int32} {m_draw : Int64} {m_turnedRows : Int32} {m_turnedColumns : Int32} {p1 : Int32} {r : Int32} {m_draw' : Int64} (hf : fX10_next m_draw p1 = some (r, m_draw')) : CtI l yX10_next wsX10_next rmX10_next D cy [.ref mo, .int p1] ([oX10 mo ma m_thrown m_textSize m_rows m_columns m_a m_b m_readRows m_readColumns m_at m_looks m_came m_draw m_turnedRows m_turnedColumns]) ([oX10 mo ma m_thrown m_textSize m_rows m_columns m_a m_b m_readRows m_readColumns m_at m_looks m_came m_draw' m_turnedRows m_turnedColumns]) r := by
  refine CtI.of (cc := cX10_next) (maxL := 2) (ret := some .int) (own := RX10) (by decide) rfl rfl (Nat.le_of_ble_eq_true rfl) ?_
  intro p e s m args below meth c A Q X hQ hK hP hD hS ls hl
  obtain ⟨hx, hb, hml, hown, hts, hr, hlocks, hA, hZ⟩ := id X
  have hl : lv_has ls 2 [(0, .ref mo), (1, .int p1)] := hl
  unfold fX10_next at hf
  have hf := qob_top hf
  refine lv_aload_n hx hb dX10_next_0 rfl (lv_at hl 0 rfl) ?_
  refine lv_aload_n hx hb dX10_next_1 rfl (lv_at hl 0 rfl) ?_
  refine va_get (D := D) (ci := 10) (v := .long m_draw) (C := RX10) (T := TX10) (N := 34) hx hb hts inwX10_next_X10 hown hK hP 0 rfl rfl 29 (by decide) (hts (.fieldLink RX10 117 "HedgeWaysModel" "draw" "J") (List.mem_of_getElem? (i := 1) rfl)) (fun _ h9 => h9) rfl dX10_next_2 ?_
  refine lv_ldc2 hx hb hown (hts (.constantLong RX10 121 (6364136223846793005)) (List.mem_of_getElem? (i := 2) rfl)) dX10_next_5 ?_
  refine lv_lmul hx hb dX10_next_8 ?_
  refine lv_ldc2 hx hb hown (hts (.constantLong RX10 123 (1442695040888963407)) (List.mem_of_getElem? (i := 3) rfl)) dX10_next_9 ?_
  refine lv_ladd hx hb dX10_next_12 ?_
  refine lv_topl (fun m_draw_1 e1 => ?_)
  have hf := qob_bd hf e1
  refine va_put (D := D) (ci := 10) (v := .long m_draw_1) (ty := .long) (C := RX10) (T := TX10) (N := 34) hx hb hts inwX10_next_X10 tyX10 tyX10_ok nmX10 hown hK hP hD hS 0 rfl rfl 29 (by decide) (hts (.fieldLink RX10 117 "HedgeWaysModel" "draw" "J") (List.mem_of_getElem? (i := 1) rfl)) (fun _ h9 => h9) rfl (tyX10_ok 29 (by decide)) rfl rfl (Nat.le_of_ble_eq_true rfl) dX10_next_13 (fun H locs hP hD hS => ?_)
  have hP : va_P D vwCl ([oX10 mo ma m_thrown m_textSize m_rows m_columns m_a m_b m_readRows m_readColumns m_at m_looks m_came m_draw_1 m_turnedRows m_turnedColumns]) H := hP
  have hD : va_D A ([oX10 mo ma m_thrown m_textSize m_rows m_columns m_a m_b m_readRows m_readColumns m_at m_looks m_came m_draw_1 m_turnedRows m_turnedColumns]) := hD
  refine lv_aload_n hx hb dX10_next_16 rfl (lv_at hl 0 rfl) ?_
  refine va_get (D := D) (ci := 10) (v := .long m_draw_1) (C := RX10) (T := TX10) (N := 34) hx hb hts inwX10_next_X10 hown hK hP 0 rfl rfl 29 (by decide) (hts (.fieldLink RX10 117 "HedgeWaysModel" "draw" "J") (List.mem_of_getElem? (i := 1) rfl)) (fun _ h9 => h9) rfl dX10_next_17 ?_
  refine lv_bipush (v := 33) hx hb dX10_next_20 (by decide) ?_
  refine lv_lushr (v := (qushr m_draw_1 33)) hx hb dX10_next_22 rfl ?_
  refine lv_iload_n hx hb dX10_next_23 rfl (lv_at hl 1 rfl) ?_
  refine lv_i2l (v := p1.toInt64) hx hb dX10_next_24 rfl ?_
  obtain ⟨z2, hf⟩ := qob_gl hf
  refine lv_lrem hx hb dX10_next_25 z2 ?_
  refine lv_l2i (v := (qreml (qushr m_draw_1 33) p1.toInt64).toInt32) hx hb dX10_next_26 rfl ?_
  cases qob_ret hf
  exact ct_iret X hQ hK hP hD hS rfl dX10_next_27
theorem inwX10_layFar_X10 : ∀ w ∈ wsX100, w ∈ wsX10_layFar := fun _ h => List.mem_cons_of_mem _ (List.mem_append_right _ h)
abbrev rmX10_layFar : Room := { frames := 3, cells := 0, slots := 0, locals := 72 }
theorem hdX10_layFar : yX10_layFar.cls = RX10 ∧ yX10_layFar.cls ≠ "java/lang/invoke/MethodHandle" ∧ yX10_layFar.cls ≠ "java/lang/invoke/VarHandle" ∧ (parseMethodDescriptor yX10_layFar.desc).map (fun d => d.parameters.length) = some 1 := by decide +kernel
set_option maxHeartbeats 4000000 in
set_option maxRecDepth 100000 in
theorem KX10_layFar {l : Launch} {D : va_G} {cy : Nat → ClassId} {mo : Nat} {ma : Nat → Nat} {m_thrown : Int32} {m_textSize : Int32} {m_rows : Int32} {m_columns : Int32} {m_a : Int32} {m_b : Int32} {m_readRows : Int32} {m_readColumns : Int32} {m_at : Int32} {m_looks : Int32} {m_came : Int32} {m_draw : Int64} {m_turnedRows : Int32} {m_turnedColumns : Int32} {m_right : Nat → Int32} {m_down : Nat → Int32} {m_dist : Nat → Int32} {m_queue : Nat → Int32} {m_shut : Nat → Int32} {p1 : Int32} {m_dist' : Nat → Int32} {m_queue' : Nat → Int32} (hf : fX10_layFar m_rows m_columns m_right m_down m_dist m_queue m_shut p1 = some (m_dist', m_queue')) : CtV l yX10_layFar wsX10_layFar rmX10_layFar D cy [.ref mo, .int p1] ([oX10 mo ma m_thrown m_textSize m_rows m_columns m_a m_b m_readRows m_readColumns m_at m_looks m_came m_draw m_turnedRows m_turnedColumns, aZ cy (ma 1) 36 m_right, aZ cy (ma 2) 36 m_down, aI cy (ma 7) 36 m_dist, aI cy (ma 8) 36 m_queue, aZ cy (ma 10) 36 m_shut]) ([oX10 mo ma m_thrown m_textSize m_rows m_columns m_a m_b m_readRows m_readColumns m_at m_looks m_came m_draw m_turnedRows m_turnedColumns, aZ cy (ma 1) 36 m_right, aZ cy (ma 2) 36 m_down, aI cy (ma 7) 36 m_dist', aI cy (ma 8) 36 m_queue', aZ cy (ma 10) 36 m_shut]) := by
  refine CtV.of (cc := cX10_layFar) (maxL := 7) (ret := none) (own := RX10) (by decide) rfl rfl (Nat.le_of_ble_eq_true rfl) ?_
  intro p e s m args below meth c A Q X hQ hK hP hD hS ls hl
  obtain ⟨hx, hb, hml, hown, hts, hr, hlocks, hA, hZ⟩ := id X
  have hl : lv_has ls 7 [(0, .ref mo), (1, .int p1)] := hl
  unfold fX10_layFar at hf
  have hf := qob_top hf
  refine lv_iconst (v := 0) hx hb dX10_layFar_0 (by decide) ?_
  refine lv_istore_n (lv' := [(2, .int 0), (0, .ref mo), (1, .int p1)]) hx hb dX10_layFar_1 rfl hl (by decide) rfl (fun ls hl => ?_)
  refine qjoin1 hf (fun (m_dist_1 : Nat → Int32) => ∀ (H : Heap) (locs : List Loc) (ls : Array Slot), ctW D A s ([oX10 mo ma m_thrown m_textSize m_rows m_columns m_a m_b m_readRows m_readColumns m_at m_looks m_came m_draw m_turnedRows m_turnedColumns, aZ cy (ma 1) 36 m_right, aZ cy (ma 2) 36 m_down, aI cy (ma 7) 36 m_dist_1, aI cy (ma 8) 36 m_queue, aZ cy (ma 10) 36 m_shut]) H locs → lv_has ls 7 [(0, .ref mo), (1, .int p1)] → W p l e rmX10_layFar s m args below meth c H locs 0 0 Q (F0 m 23 ls [])) ?_ ?_
  · intro m_dist_1 hf H locs ls ⟨hP, hD, hS⟩ hl
    refine lv_aload_n hx hb dX10_layFar_23 rfl (lv_at hl 0 rfl) ?_
    refine va_get (D := D) (ci := 10) (v := .ref (ma 7)) (C := RX10) (T := TX10) (N := 34) hx hb hts inwX10_layFar_X10 hown hK hP 0 rfl rfl 15 (by decide) (hts (.fieldLink RX10 39 "HedgeWaysModel" "dist" "[I") (List.mem_of_getElem? (i := 1) rfl)) (fun _ h9 => h9) rfl dX10_layFar_24 ?_
    refine lv_iload_n hx hb dX10_layFar_27 rfl (lv_at hl 1 rfl) ?_
    refine lv_iconst (v := 0) hx hb dX10_layFar_28 (by decide) ?_
    obtain ⟨i1, hf⟩ := qob_gd hf
    refine va_iast hx hb hK hP hD hS 3 0 rfl rfl i1 dX10_layFar_29 (fun H locs hP hD hS => ?_)
    have hP : va_P D vwCl ([oX10 mo ma m_thrown m_textSize m_rows m_columns m_a m_b m_readRows m_readColumns m_at m_looks m_came m_draw m_turnedRows m_turnedColumns, aZ cy (ma 1) 36 m_right, aZ cy (ma 2) 36 m_down, aI cy (ma 7) 36 (upd m_dist_1 p1.toNatClampNeg 0), aI cy (ma 8) 36 m_queue, aZ cy (ma 10) 36 m_shut]) H := hP
    have hD : va_D A ([oX10 mo ma m_thrown m_textSize m_rows m_columns m_a m_b m_readRows m_readColumns m_at m_looks m_came m_draw m_turnedRows m_turnedColumns, aZ cy (ma 1) 36 m_right, aZ cy (ma 2) 36 m_down, aI cy (ma 7) 36 (upd m_dist_1 p1.toNatClampNeg 0), aI cy (ma 8) 36 m_queue, aZ cy (ma 10) 36 m_shut]) := hD
    refine lv_aload_n hx hb dX10_layFar_30 rfl (lv_at hl 0 rfl) ?_
    refine va_get (D := D) (ci := 10) (v := .ref (ma 8)) (C := RX10) (T := TX10) (N := 34) hx hb hts inwX10_layFar_X10 hown hK hP 0 rfl rfl 16 (by decide) (hts (.fieldLink RX10 42 "HedgeWaysModel" "queue" "[I") (List.mem_of_getElem? (i := 2) rfl)) (fun _ h9 => h9) rfl dX10_layFar_31 ?_
    refine lv_iconst (v := 0) hx hb dX10_layFar_34 (by decide) ?_
    refine lv_iload_n hx hb dX10_layFar_35 rfl (lv_at hl 1 rfl) ?_
    obtain ⟨i2, hf⟩ := qob_gd hf
    refine va_iast hx hb hK hP hD hS 4 0 rfl rfl i2 dX10_layFar_36 (fun H locs hP hD hS => ?_)
    have hP : va_P D vwCl ([oX10 mo ma m_thrown m_textSize m_rows m_columns m_a m_b m_readRows m_readColumns m_at m_looks m_came m_draw m_turnedRows m_turnedColumns, aZ cy (ma 1) 36 m_right, aZ cy (ma 2) 36 m_down, aI cy (ma 7) 36 (upd m_dist_1 p1.toNatClampNeg 0), aI cy (ma 8) 36 (upd m_queue (0 : Int32).toNatClampNeg p1), aZ cy (ma 10) 36 m_shut]) H := hP
    have hD : va_D A ([oX10 mo ma m_thrown m_textSize m_rows m_columns m_a m_b m_readRows m_readColumns m_at m_looks m_came m_draw m_turnedRows m_turnedColumns, aZ cy (ma 1) 36 m_right, aZ cy (ma 2) 36 m_down, aI cy (ma 7) 36 (upd m_dist_1 p1.toNatClampNeg 0), aI cy (ma 8) 36 (upd m_queue (0 : Int32).toNatClampNeg p1), aZ cy (ma 10) 36 m_shut]) := hD
    refine lv_iconst (v := 1) hx hb dX10_layFar_37 (by decide) ?_
    refine lv_istore_n (lv' := [(2, .int 1), (0, .ref mo), (1, .int p1)]) hx hb dX10_layFar_38 rfl hl (by decide) rfl (fun ls hl => ?_)
    refine lv_iconst (v := 0) hx hb dX10_layFar_39 (by decide) ?_
    refine lv_istore_n (lv' := [(3, .int 0), (2, .int 1), (0, .ref mo), (1, .int p1)]) hx hb dX10_layFar_40 rfl hl (by decide) rfl (fun ls hl => ?_)
    refine qjoin2 hf (fun (m_dist_2 : Nat → Int32) (m_queue_1 : Nat → Int32) => ∀ (H : Heap) (locs : List Loc) (ls : Array Slot), ctW D A s ([oX10 mo ma m_thrown m_textSize m_rows m_columns m_a m_b m_readRows m_readColumns m_at m_looks m_came m_draw m_turnedRows m_turnedColumns, aZ cy (ma 1) 36 m_right, aZ cy (ma 2) 36 m_down, aI cy (ma 7) 36 m_dist_2, aI cy (ma 8) 36 m_queue_1, aZ cy (ma 10) 36 m_shut]) H locs → lv_has ls 7 [] → W p l e rmX10_layFar s m args below meth c H locs 0 0 Q (F0 m 158 ls [])) ?_ ?_
    · intro m_dist_2 m_queue_1 hf H locs ls ⟨hP, hD, hS⟩ hl
      cases qob_ret hf
      exact ct_vret X hQ hK hP hD hS dX10_layFar_158
    · intro J3 hJ3 hf
      refine qwalk4 (fun (x2_1 : Int32) (x3_1 : Int32) (m_dist_3 : Nat → Int32) (m_queue_2 : Nat → Int32) => ∀ (H : Heap) (locs : List Loc) (ls : Array Slot), ctW D A s ([oX10 mo ma m_thrown m_textSize m_rows m_columns m_a m_b m_readRows m_readColumns m_at m_looks m_came m_draw m_turnedRows m_turnedColumns, aZ cy (ma 1) 36 m_right, aZ cy (ma 2) 36 m_down, aI cy (ma 7) 36 m_dist_3, aI cy (ma 8) 36 m_queue_2, aZ cy (ma 10) 36 m_shut]) H locs → lv_has ls 7 [(0, .ref mo), (2, .int x2_1), (3, .int x3_1)] → W p l e rmX10_layFar s m args below meth c H locs 0 0 Q (F0 m 41 ls [])) ?_ _ (1 : Int32) (0 : Int32) (upd m_dist_1 p1.toNatClampNeg 0) (upd m_queue (0 : Int32).toNatClampNeg p1) hf _ _ _ ⟨hP, hD, hS⟩ (lv_sub hl [2, 1, 0] rfl)
      intro J4 hL4 x2_1 x3_1 m_dist_3 m_queue_2 hf H locs ls ⟨hP, hD, hS⟩ hl
      refine lv_iload_n hx hb dX10_layFar_41 rfl (lv_at hl 2 rfl) ?_
      refine lv_iload_n hx hb dX10_layFar_42 rfl (lv_at hl 1 rfl) ?_
      refine lv_icmp_ge (tgt := 158) hx hb dX10_layFar_43 (by decide) (fun c5 => ?_) (fun c5 => ?_)
      · have hf := qob_t hf c5
        have hf := qob_esc hf
        exact hJ3 m_dist_3 m_queue_2 hf _ _ _ ⟨hP, hD, hS⟩ (lv_sub hl [] rfl)
      · have hf := qob_f hf c5
        refine lv_aload_n hx hb dX10_layFar_46 rfl (lv_at hl 0 rfl) ?_
        refine va_get (D := D) (ci := 10) (v := .ref (ma 8)) (C := RX10) (T := TX10) (N := 34) hx hb hts inwX10_layFar_X10 hown hK hP 0 rfl rfl 16 (by decide) (hts (.fieldLink RX10 42 "HedgeWaysModel" "queue" "[I") (List.mem_of_getElem? (i := 2) rfl)) (fun _ h9 => h9) rfl dX10_layFar_47 ?_
        refine lv_iload_n hx hb dX10_layFar_50 rfl (lv_at hl 2 rfl) ?_
        obtain ⟨i6, hf⟩ := qob_gd hf
        refine va_iald hx hb hK hP 4 0 rfl rfl i6 dX10_layFar_51 ?_
        refine lv_istore (lv' := [(4, .int (m_queue_2 x3_1.toNatClampNeg)), (0, .ref mo), (2, .int x2_1), (3, .int x3_1)]) hx hb dX10_layFar_52 hl (by decide) rfl (fun ls hl => ?_)
        refine lv_iconst (v := 0) hx hb dX10_layFar_54 (by decide) ?_
        refine lv_istore (lv' := [(5, .int 0), (4, .int (m_queue_2 x3_1.toNatClampNeg)), (0, .ref mo), (2, .int x2_1), (3, .int x3_1)]) hx hb dX10_layFar_55 hl (by decide) rfl (fun ls hl => ?_)
        refine qjoin3 hf (fun (x2_2 : Int32) (m_dist_4 : Nat → Int32) (m_queue_3 : Nat → Int32) => ∀ (H : Heap) (locs : List Loc) (ls : Array Slot), ctW D A s ([oX10 mo ma m_thrown m_textSize m_rows m_columns m_a m_b m_readRows m_readColumns m_at m_looks m_came m_draw m_turnedRows m_turnedColumns, aZ cy (ma 1) 36 m_right, aZ cy (ma 2) 36 m_down, aI cy (ma 7) 36 m_dist_4, aI cy (ma 8) 36 m_queue_3, aZ cy (ma 10) 36 m_shut]) H locs → lv_has ls 7 [(0, .ref mo), (2, .int x2_2), (3, .int x3_1)] → W p l e rmX10_layFar s m args below meth c H locs 0 0 Q (F0 m 152 ls [])) ?_ ?_
        · intro x2_2 m_dist_4 m_queue_3 hf H locs ls ⟨hP, hD, hS⟩ hl
          refine lv_iinc (v := (x3_1 + 1)) (lv' := [(3, .int (x3_1 + 1)), (0, .ref mo), (2, .int x2_2)]) hx hb dX10_layFar_152 hl (k := 2) rfl rfl (by decide) rfl (fun ls hl => ?_)
          refine lv_goto (tgt := 41) hx hb dX10_layFar_155 (by decide) ?_
          exact hL4 x2_2 (x3_1 + 1) m_dist_4 m_queue_3 hf _ _ _ ⟨hP, hD, hS⟩ (lv_sub hl [1, 2, 0] rfl)
        · intro J7 hJ7 hf
          refine qwalk4 (fun (x2_3 : Int32) (x5_1 : Int32) (m_dist_5 : Nat → Int32) (m_queue_4 : Nat → Int32) => ∀ (H : Heap) (locs : List Loc) (ls : Array Slot), ctW D A s ([oX10 mo ma m_thrown m_textSize m_rows m_columns m_a m_b m_readRows m_readColumns m_at m_looks m_came m_draw m_turnedRows m_turnedColumns, aZ cy (ma 1) 36 m_right, aZ cy (ma 2) 36 m_down, aI cy (ma 7) 36 m_dist_5, aI cy (ma 8) 36 m_queue_4, aZ cy (ma 10) 36 m_shut]) H locs → lv_has ls 7 [(0, .ref mo), (2, .int x2_3), (3, .int x3_1), (4, .int (m_queue_2 x3_1.toNatClampNeg)), (5, .int x5_1)] → W p l e rmX10_layFar s m args below meth c H locs 0 0 Q (F0 m 57 ls [])) ?_ _ x2_1 (0 : Int32) m_dist_3 m_queue_2 hf _ _ _ ⟨hP, hD, hS⟩ (lv_sub hl [2, 3, 4, 1, 0] rfl)
          intro J8 hL8 x2_3 x5_1 m_dist_5 m_queue_4 hf H locs ls ⟨hP, hD, hS⟩ hl
          refine lv_iload hx hb dX10_layFar_57 (lv_at hl 4 rfl) ?_
          refine lv_iconst (v := 4) hx hb dX10_layFar_59 (by decide) ?_
          refine lv_icmp_ge (tgt := 152) hx hb dX10_layFar_60 (by decide) (fun c9 => ?_) (fun c9 => ?_)
          · have hf := qob_t hf c9
            have hf := qob_esc hf
            exact hJ7 x2_3 m_dist_5 m_queue_4 hf _ _ _ ⟨hP, hD, hS⟩ (lv_sub hl [0, 1, 2] rfl)
          · have hf := qob_f hf c9
            refine lv_aload_n hx hb dX10_layFar_63 rfl (lv_at hl 0 rfl) ?_
            refine lv_iload hx hb dX10_layFar_64 (lv_at hl 3 rfl) ?_
            refine lv_iload hx hb dX10_layFar_66 (lv_at hl 4 rfl) ?_
            obtain ⟨r_1, q10, hf⟩ := qcall1 hf
            refine ctV_i0 (r := r_1) (wc := [oX10 mo ma m_thrown m_textSize m_rows m_columns m_a m_b m_readRows m_readColumns m_at m_looks m_came m_draw m_turnedRows m_turnedColumns, aZ cy (ma 1) 36 m_right, aZ cy (ma 2) 36 m_down]) (As := [.int (m_queue_2 x3_1.toNatClampNeg), .int x5_1]) (rest := []) (q0 := 0) X hK hP hD hS [0, 1, 2] rfl rfl rfl (KX10_isOpen q10 _) (cwV 2 hts gX10_layFar_X10_isOpen rfl rfl rfl hdX10_isOpen ⟨Nat.le_of_ble_eq_true rfl, Nat.le_of_ble_eq_true rfl⟩) rfl rfl rfl hl rfl (Nat.le_of_ble_eq_true rfl) dX10_layFar_68 (Nat.zero_le _) (Nat.zero_le _) (fun H locs hP hS => ?_)
            refine qjoin1 hf (fun (s_1 : Int32) => ∀ (H : Heap) (locs : List Loc) (ls : Array Slot), ctW D A s ([oX10 mo ma m_thrown m_textSize m_rows m_columns m_a m_b m_readRows m_readColumns m_at m_looks m_came m_draw m_turnedRows m_turnedColumns, aZ cy (ma 1) 36 m_right, aZ cy (ma 2) 36 m_down, aI cy (ma 7) 36 m_dist_5, aI cy (ma 8) 36 m_queue_4, aZ cy (ma 10) 36 m_shut]) H locs → lv_has ls 7 [(0, .ref mo), (2, .int x2_3), (3, .int x3_1), (4, .int (m_queue_2 x3_1.toNatClampNeg)), (5, .int x5_1)] → W p l e rmX10_layFar s m args below meth c H locs 0 0 Q (F0 m 87 ls [.int s_1])) ?_ ?_
            · intro s_1 hf H locs ls ⟨hP, hD, hS⟩ hl
              refine lv_istore (lv' := [(6, .int s_1), (0, .ref mo), (2, .int x2_3), (3, .int x3_1), (4, .int (m_queue_2 x3_1.toNatClampNeg)), (5, .int x5_1)]) hx hb dX10_layFar_87 hl (by decide) rfl (fun ls hl => ?_)
              refine lv_iload hx hb dX10_layFar_89 (lv_at hl 0 rfl) ?_
              refine lv_bipush (v := (-9)) hx hb dX10_layFar_91 (by decide) ?_
              refine lv_icmp_eq (tgt := 146) hx hb dX10_layFar_93 (by decide) (fun c11 => ?_) (fun c11 => ?_)
              · have hf := qob_t hf c11
                refine lv_iinc (v := (x5_1 + 1)) (lv' := [(5, .int (x5_1 + 1)), (6, .int s_1), (0, .ref mo), (2, .int x2_3), (3, .int x3_1), (4, .int (m_queue_2 x3_1.toNatClampNeg))]) hx hb dX10_layFar_146 hl (k := 5) rfl rfl (by decide) rfl (fun ls hl => ?_)
                refine lv_goto (tgt := 57) hx hb dX10_layFar_149 (by decide) ?_
                exact hL8 x2_3 (x5_1 + 1) m_dist_5 m_queue_4 hf _ _ _ ⟨hP, hD, hS⟩ (lv_sub hl [2, 3, 4, 5, 0] rfl)
              · have hf := qob_f hf c11
                refine lv_aload_n hx hb dX10_layFar_96 rfl (lv_at hl 1 rfl) ?_
                refine va_get (D := D) (ci := 10) (v := .ref (ma 7)) (C := RX10) (T := TX10) (N := 34) hx hb hts inwX10_layFar_X10 hown hK hP 0 rfl rfl 15 (by decide) (hts (.fieldLink RX10 39 "HedgeWaysModel" "dist" "[I") (List.mem_of_getElem? (i := 1) rfl)) (fun _ h9 => h9) rfl dX10_layFar_97 ?_
                refine lv_iload hx hb dX10_layFar_100 (lv_at hl 0 rfl) ?_
                obtain ⟨i12, hf⟩ := qob_gd hf
                refine va_iald hx hb hK hP 3 0 rfl rfl i12 dX10_layFar_102 ?_
                refine lv_sipush (v := 9999) hx hb dX10_layFar_103 (by decide) ?_
                refine lv_icmp_ne (tgt := 146) hx hb dX10_layFar_106 (by decide) (fun c13 => ?_) (fun c13 => ?_)
                · have hf := qob_f hf c13
                  refine lv_iinc (v := (x5_1 + 1)) (lv' := [(5, .int (x5_1 + 1)), (6, .int s_1), (0, .ref mo), (2, .int x2_3), (3, .int x3_1), (4, .int (m_queue_2 x3_1.toNatClampNeg))]) hx hb dX10_layFar_146 hl (k := 5) rfl rfl (by decide) rfl (fun ls hl => ?_)
                  refine lv_goto (tgt := 57) hx hb dX10_layFar_149 (by decide) ?_
                  exact hL8 x2_3 (x5_1 + 1) m_dist_5 m_queue_4 hf _ _ _ ⟨hP, hD, hS⟩ (lv_sub hl [2, 3, 4, 5, 0] rfl)
                · have hf := qob_t hf c13
                  refine lv_aload_n hx hb dX10_layFar_109 rfl (lv_at hl 1 rfl) ?_
                  refine va_get (D := D) (ci := 10) (v := .ref (ma 10)) (C := RX10) (T := TX10) (N := 34) hx hb hts inwX10_layFar_X10 hown hK hP 0 rfl rfl 18 (by decide) (hts (.fieldLink RX10 49 "HedgeWaysModel" "shut" "[Z") (List.mem_of_getElem? (i := 3) rfl)) (fun _ h9 => h9) rfl dX10_layFar_110 ?_
                  refine lv_iload hx hb dX10_layFar_113 (lv_at hl 0 rfl) ?_
                  obtain ⟨i14, hf⟩ := qob_gd hf
                  refine va_zald hx hb hK hP 5 2 rfl rfl i14 dX10_layFar_115 ?_
                  refine lv_if_ne (tgt := 146) hx hb dX10_layFar_116 (by decide) (fun c15 => ?_) (fun c15 => ?_)
                  · have hf := qob_f hf c15
                    refine lv_iinc (v := (x5_1 + 1)) (lv' := [(5, .int (x5_1 + 1)), (6, .int s_1), (0, .ref mo), (2, .int x2_3), (3, .int x3_1), (4, .int (m_queue_2 x3_1.toNatClampNeg))]) hx hb dX10_layFar_146 hl (k := 5) rfl rfl (by decide) rfl (fun ls hl => ?_)
                    refine lv_goto (tgt := 57) hx hb dX10_layFar_149 (by decide) ?_
                    exact hL8 x2_3 (x5_1 + 1) m_dist_5 m_queue_4 hf _ _ _ ⟨hP, hD, hS⟩ (lv_sub hl [2, 3, 4, 5, 0] rfl)
                  · have hf := qob_t hf c15
                    refine lv_aload_n hx hb dX10_layFar_119 rfl (lv_at hl 1 rfl) ?_
                    refine va_get (D := D) (ci := 10) (v := .ref (ma 7)) (C := RX10) (T := TX10) (N := 34) hx hb hts inwX10_layFar_X10 hown hK hP 0 rfl rfl 15 (by decide) (hts (.fieldLink RX10 39 "HedgeWaysModel" "dist" "[I") (List.mem_of_getElem? (i := 1) rfl)) (fun _ h9 => h9) rfl dX10_layFar_120 ?_
                    refine lv_iload hx hb dX10_layFar_123 (lv_at hl 0 rfl) ?_
                    refine lv_aload_n hx hb dX10_layFar_125 rfl (lv_at hl 1 rfl) ?_
                    refine va_get (D := D) (ci := 10) (v := .ref (ma 7)) (C := RX10) (T := TX10) (N := 34) hx hb hts inwX10_layFar_X10 hown hK hP 0 rfl rfl 15 (by decide) (hts (.fieldLink RX10 39 "HedgeWaysModel" "dist" "[I") (List.mem_of_getElem? (i := 1) rfl)) (fun _ h9 => h9) rfl dX10_layFar_126 ?_
                    refine lv_iload hx hb dX10_layFar_129 (lv_at hl 4 rfl) ?_
                    obtain ⟨i16, hf⟩ := qob_gd hf
                    refine va_iald hx hb hK hP 3 0 rfl rfl i16 dX10_layFar_131 ?_
                    refine lv_iconst (v := 1) hx hb dX10_layFar_132 (by decide) ?_
                    refine lv_iadd hx hb dX10_layFar_133 ?_
                    obtain ⟨i17, hf⟩ := qob_gd hf
                    obtain ⟨m_dist_6, e18⟩ : ∃ z, z = (upd m_dist_5 s_1.toNatClampNeg ((m_dist_5 ((m_queue_2 x3_1.toNatClampNeg)).toNatClampNeg) + 1)) := ⟨_, rfl⟩
                    have hf := qob_bd hf e18
                    refine va_iast hx hb hK hP hD hS 3 0 rfl rfl i17 dX10_layFar_134 (fun H locs hP hD hS => ?_)
                    have hP : va_P D vwCl ([oX10 mo ma m_thrown m_textSize m_rows m_columns m_a m_b m_readRows m_readColumns m_at m_looks m_came m_draw m_turnedRows m_turnedColumns, aZ cy (ma 1) 36 m_right, aZ cy (ma 2) 36 m_down, aI cy (ma 7) 36 m_dist_6, aI cy (ma 8) 36 m_queue_4, aZ cy (ma 10) 36 m_shut]) H := by rw [e18]; exact hP
                    have hD : va_D A ([oX10 mo ma m_thrown m_textSize m_rows m_columns m_a m_b m_readRows m_readColumns m_at m_looks m_came m_draw m_turnedRows m_turnedColumns, aZ cy (ma 1) 36 m_right, aZ cy (ma 2) 36 m_down, aI cy (ma 7) 36 m_dist_6, aI cy (ma 8) 36 m_queue_4, aZ cy (ma 10) 36 m_shut]) := by rw [e18]; exact hD
                    refine lv_aload_n hx hb dX10_layFar_135 rfl (lv_at hl 1 rfl) ?_
                    refine va_get (D := D) (ci := 10) (v := .ref (ma 8)) (C := RX10) (T := TX10) (N := 34) hx hb hts inwX10_layFar_X10 hown hK hP 0 rfl rfl 16 (by decide) (hts (.fieldLink RX10 42 "HedgeWaysModel" "queue" "[I") (List.mem_of_getElem? (i := 2) rfl)) (fun _ h9 => h9) rfl dX10_layFar_136 ?_
                    refine lv_iload_n hx hb dX10_layFar_139 rfl (lv_at hl 2 rfl) ?_
                    refine lv_iload hx hb dX10_layFar_140 (lv_at hl 0 rfl) ?_
                    obtain ⟨i19, hf⟩ := qob_gd hf
                    refine va_iast hx hb hK hP hD hS 4 0 rfl rfl i19 dX10_layFar_142 (fun H locs hP hD hS => ?_)
                    have hP : va_P D vwCl ([oX10 mo ma m_thrown m_textSize m_rows m_columns m_a m_b m_readRows m_readColumns m_at m_looks m_came m_draw m_turnedRows m_turnedColumns, aZ cy (ma 1) 36 m_right, aZ cy (ma 2) 36 m_down, aI cy (ma 7) 36 m_dist_6, aI cy (ma 8) 36 (upd m_queue_4 x2_3.toNatClampNeg s_1), aZ cy (ma 10) 36 m_shut]) H := hP
                    have hD : va_D A ([oX10 mo ma m_thrown m_textSize m_rows m_columns m_a m_b m_readRows m_readColumns m_at m_looks m_came m_draw m_turnedRows m_turnedColumns, aZ cy (ma 1) 36 m_right, aZ cy (ma 2) 36 m_down, aI cy (ma 7) 36 m_dist_6, aI cy (ma 8) 36 (upd m_queue_4 x2_3.toNatClampNeg s_1), aZ cy (ma 10) 36 m_shut]) := hD
                    refine lv_iinc (v := (x2_3 + 1)) (lv' := [(2, .int (x2_3 + 1)), (6, .int s_1), (0, .ref mo), (3, .int x3_1), (4, .int (m_queue_2 x3_1.toNatClampNeg)), (5, .int x5_1)]) hx hb dX10_layFar_143 hl (k := 2) rfl rfl (by decide) rfl (fun ls hl => ?_)
                    refine lv_iinc (v := (x5_1 + 1)) (lv' := [(5, .int (x5_1 + 1)), (2, .int (x2_3 + 1)), (6, .int s_1), (0, .ref mo), (3, .int x3_1), (4, .int (m_queue_2 x3_1.toNatClampNeg))]) hx hb dX10_layFar_146 hl (k := 5) rfl rfl (by decide) rfl (fun ls hl => ?_)
                    refine lv_goto (tgt := 57) hx hb dX10_layFar_149 (by decide) ?_
                    exact hL8 (x2_3 + 1) (x5_1 + 1) m_dist_6 (upd m_queue_4 x2_3.toNatClampNeg s_1) hf _ _ _ ⟨hP, hD, hS⟩ (lv_sub hl [3, 1, 4, 5, 0] rfl)
            · intro J20 hJ20 hf
              refine lv_if_eq (tgt := 85) hx hb dX10_layFar_71 (by decide) (fun c21 => ?_) (fun c21 => ?_)
              · have hf := qob_t hf c21
                refine lv_bipush (v := (-9)) hx hb dX10_layFar_85 (by decide) ?_
                exact hJ20 (-9) hf _ _ _ ⟨hP, hD, hS⟩ hl
              · have hf := qob_f hf c21
                refine lv_aload_n hx hb dX10_layFar_74 rfl (lv_at hl 0 rfl) ?_
                refine lv_iload hx hb dX10_layFar_75 (lv_at hl 3 rfl) ?_
                refine lv_iload hx hb dX10_layFar_77 (lv_at hl 4 rfl) ?_
                refine ctV_i0 (r := (fX10_beside m_rows m_columns (m_queue_2 x3_1.toNatClampNeg) x5_1)) (wc := [oX10 mo ma m_thrown m_textSize m_rows m_columns m_a m_b m_readRows m_readColumns m_at m_looks m_came m_draw m_turnedRows m_turnedColumns]) (As := [.int (m_queue_2 x3_1.toNatClampNeg), .int x5_1]) (rest := []) (q0 := 0) X hK hP hD hS [0] rfl rfl rfl (KX10_beside rfl _) (cwV 2 hts gX10_layFar_X10_beside rfl rfl rfl hdX10_beside ⟨Nat.le_of_ble_eq_true rfl, Nat.le_of_ble_eq_true rfl⟩) rfl rfl rfl hl rfl (Nat.le_of_ble_eq_true rfl) dX10_layFar_79 (Nat.zero_le _) (Nat.zero_le _) (fun H locs hP hS => ?_)
                refine lv_goto (tgt := 87) hx hb dX10_layFar_82 (by decide) ?_
                exact hJ20 (fX10_beside m_rows m_columns (m_queue_2 x3_1.toNatClampNeg) x5_1) hf _ _ _ ⟨hP, hD, hS⟩ hl
  · intro J22 hJ22 hf
    refine qwalk2 (fun (x2_4 : Int32) (m_dist_7 : Nat → Int32) => ∀ (H : Heap) (locs : List Loc) (ls : Array Slot), ctW D A s ([oX10 mo ma m_thrown m_textSize m_rows m_columns m_a m_b m_readRows m_readColumns m_at m_looks m_came m_draw m_turnedRows m_turnedColumns, aZ cy (ma 1) 36 m_right, aZ cy (ma 2) 36 m_down, aI cy (ma 7) 36 m_dist_7, aI cy (ma 8) 36 m_queue, aZ cy (ma 10) 36 m_shut]) H locs → lv_has ls 7 [(0, .ref mo), (1, .int p1), (2, .int x2_4)] → W p l e rmX10_layFar s m args below meth c H locs 0 0 Q (F0 m 2 ls [])) ?_ _ (0 : Int32) m_dist hf _ _ _ ⟨hP, hD, hS⟩ (lv_sub hl [1, 2, 0] rfl)
    intro J23 hL23 x2_4 m_dist_7 hf H locs ls ⟨hP, hD, hS⟩ hl
    refine lv_iload_n hx hb dX10_layFar_2 rfl (lv_at hl 2 rfl) ?_
    refine lv_bipush (v := 36) hx hb dX10_layFar_3 (by decide) ?_
    refine lv_icmp_ge (tgt := 23) hx hb dX10_layFar_5 (by decide) (fun c24 => ?_) (fun c24 => ?_)
    · have hf := qob_t hf c24
      have hf := qob_esc hf
      exact hJ22 m_dist_7 hf _ _ _ ⟨hP, hD, hS⟩ (lv_sub hl [0, 1] rfl)
    · have hf := qob_f hf c24
      refine lv_aload_n hx hb dX10_layFar_8 rfl (lv_at hl 0 rfl) ?_
      refine va_get (D := D) (ci := 10) (v := .ref (ma 7)) (C := RX10) (T := TX10) (N := 34) hx hb hts inwX10_layFar_X10 hown hK hP 0 rfl rfl 15 (by decide) (hts (.fieldLink RX10 39 "HedgeWaysModel" "dist" "[I") (List.mem_of_getElem? (i := 1) rfl)) (fun _ h9 => h9) rfl dX10_layFar_9 ?_
      refine lv_iload_n hx hb dX10_layFar_12 rfl (lv_at hl 2 rfl) ?_
      refine lv_sipush (v := 9999) hx hb dX10_layFar_13 (by decide) ?_
      obtain ⟨i25, hf⟩ := qob_gd hf
      refine va_iast hx hb hK hP hD hS 3 0 rfl rfl i25 dX10_layFar_16 (fun H locs hP hD hS => ?_)
      have hP : va_P D vwCl ([oX10 mo ma m_thrown m_textSize m_rows m_columns m_a m_b m_readRows m_readColumns m_at m_looks m_came m_draw m_turnedRows m_turnedColumns, aZ cy (ma 1) 36 m_right, aZ cy (ma 2) 36 m_down, aI cy (ma 7) 36 (upd m_dist_7 x2_4.toNatClampNeg 9999), aI cy (ma 8) 36 m_queue, aZ cy (ma 10) 36 m_shut]) H := hP
      have hD : va_D A ([oX10 mo ma m_thrown m_textSize m_rows m_columns m_a m_b m_readRows m_readColumns m_at m_looks m_came m_draw m_turnedRows m_turnedColumns, aZ cy (ma 1) 36 m_right, aZ cy (ma 2) 36 m_down, aI cy (ma 7) 36 (upd m_dist_7 x2_4.toNatClampNeg 9999), aI cy (ma 8) 36 m_queue, aZ cy (ma 10) 36 m_shut]) := hD
      refine lv_iinc (v := (x2_4 + 1)) (lv' := [(2, .int (x2_4 + 1)), (0, .ref mo), (1, .int p1)]) hx hb dX10_layFar_17 hl (k := 2) rfl rfl (by decide) rfl (fun ls hl => ?_)
      refine lv_goto (tgt := 2) hx hb dX10_layFar_20 (by decide) ?_
      exact hL23 (x2_4 + 1) (upd m_dist_7 x2_4.toNatClampNeg 9999) hf _ _ _ ⟨hP, hD, hS⟩ (lv_sub hl [1, 2, 0] rfl)
theorem inwX10_layParts_X10 : ∀ w ∈ wsX100, w ∈ wsX10_layParts := fun _ h => List.mem_cons_of_mem _ (List.mem_append_right _ h)
abbrev rmX10_layParts : Room := { frames := 4, cells := 0, slots := 0, locals := 98 }
theorem hdX10_layParts : yX10_layParts.cls = RX10 ∧ yX10_layParts.cls ≠ "java/lang/invoke/MethodHandle" ∧ yX10_layParts.cls ≠ "java/lang/invoke/VarHandle" ∧ (parseMethodDescriptor yX10_layParts.desc).map (fun d => d.parameters.length) = some 0 := by decide +kernel
set_option maxHeartbeats 4000000 in
set_option maxRecDepth 100000 in
theorem KX10_layParts {l : Launch} {D : va_G} {cy : Nat → ClassId} {mo : Nat} {ma : Nat → Nat} {m_thrown : Int32} {m_textSize : Int32} {m_rows : Int32} {m_columns : Int32} {m_a : Int32} {m_b : Int32} {m_readRows : Int32} {m_readColumns : Int32} {m_at : Int32} {m_looks : Int32} {m_came : Int32} {m_draw : Int64} {m_turnedRows : Int32} {m_turnedColumns : Int32} {m_right : Nat → Int32} {m_down : Nat → Int32} {m_dist : Nat → Int32} {m_queue : Nat → Int32} {m_shut : Nat → Int32} {m_parts : Nat → Int32}  {r : Int32} {m_dist' : Nat → Int32} {m_queue' : Nat → Int32} {m_parts' : Nat → Int32} (hf : fX10_layParts m_rows m_columns m_right m_down m_dist m_queue m_shut m_parts = some (r, m_dist', m_queue', m_parts')) : CtI l yX10_layParts wsX10_layParts rmX10_layParts D cy [.ref mo] ([oX10 mo ma m_thrown m_textSize m_rows m_columns m_a m_b m_readRows m_readColumns m_at m_looks m_came m_draw m_turnedRows m_turnedColumns, aZ cy (ma 1) 36 m_right, aZ cy (ma 2) 36 m_down, aI cy (ma 7) 36 m_dist, aI cy (ma 8) 36 m_queue, aZ cy (ma 10) 36 m_shut, aI cy (ma 11) 36 m_parts]) ([oX10 mo ma m_thrown m_textSize m_rows m_columns m_a m_b m_readRows m_readColumns m_at m_looks m_came m_draw m_turnedRows m_turnedColumns, aZ cy (ma 1) 36 m_right, aZ cy (ma 2) 36 m_down, aI cy (ma 7) 36 m_dist', aI cy (ma 8) 36 m_queue', aZ cy (ma 10) 36 m_shut, aI cy (ma 11) 36 m_parts']) r := by
  refine CtI.of (cc := cX10_layParts) (maxL := 4) (ret := some .int) (own := RX10) (by decide) rfl rfl (Nat.le_of_ble_eq_true rfl) ?_
  intro p e s m args below meth c A Q X hQ hK hP hD hS ls hl
  obtain ⟨hx, hb, hml, hown, hts, hr, hlocks, hA, hZ⟩ := id X
  have hl : lv_has ls 4 [(0, .ref mo)] := hl
  unfold fX10_layParts at hf
  have hf := qob_top hf
  refine lv_iconst (v := 0) hx hb dX10_layParts_0 (by decide) ?_
  refine lv_istore_n (lv' := [(1, .int 0), (0, .ref mo)]) hx hb dX10_layParts_1 rfl hl (by decide) rfl (fun ls hl => ?_)
  refine lv_iconst (v := 0) hx hb dX10_layParts_2 (by decide) ?_
  refine lv_istore_n (lv' := [(2, .int 0), (1, .int 0), (0, .ref mo)]) hx hb dX10_layParts_3 rfl hl (by decide) rfl (fun ls hl => ?_)
  refine qjoin1 hf (fun (m_parts_1 : Nat → Int32) => ∀ (H : Heap) (locs : List Loc) (ls : Array Slot), ctW D A s ([oX10 mo ma m_thrown m_textSize m_rows m_columns m_a m_b m_readRows m_readColumns m_at m_looks m_came m_draw m_turnedRows m_turnedColumns, aZ cy (ma 1) 36 m_right, aZ cy (ma 2) 36 m_down, aI cy (ma 7) 36 m_dist, aI cy (ma 8) 36 m_queue, aZ cy (ma 10) 36 m_shut, aI cy (ma 11) 36 m_parts_1]) H locs → lv_has ls 4 [(0, .ref mo), (1, .int 0)] → W p l e rmX10_layParts s m args below meth c H locs 0 0 Q (F0 m 24 ls [])) ?_ ?_
  · intro m_parts_1 hf H locs ls ⟨hP, hD, hS⟩ hl
    refine lv_iconst (v := 0) hx hb dX10_layParts_24 (by decide) ?_
    refine lv_istore_n (lv' := [(2, .int 0), (0, .ref mo), (1, .int 0)]) hx hb dX10_layParts_25 rfl hl (by decide) rfl (fun ls hl => ?_)
    refine qjoin4 hf (fun (x1_1 : Int32) (m_dist_1 : Nat → Int32) (m_queue_1 : Nat → Int32) (m_parts_2 : Nat → Int32) => ∀ (H : Heap) (locs : List Loc) (ls : Array Slot), ctW D A s ([oX10 mo ma m_thrown m_textSize m_rows m_columns m_a m_b m_readRows m_readColumns m_at m_looks m_came m_draw m_turnedRows m_turnedColumns, aZ cy (ma 1) 36 m_right, aZ cy (ma 2) 36 m_down, aI cy (ma 7) 36 m_dist_1, aI cy (ma 8) 36 m_queue_1, aZ cy (ma 10) 36 m_shut, aI cy (ma 11) 36 m_parts_2]) H locs → lv_has ls 4 [(1, .int x1_1)] → W p l e rmX10_layParts s m args below meth c H locs 0 0 Q (F0 m 107 ls [])) ?_ ?_
    · intro x1_1 m_dist_1 m_queue_1 m_parts_2 hf H locs ls ⟨hP, hD, hS⟩ hl
      refine lv_iload_n hx hb dX10_layParts_107 rfl (lv_at hl 0 rfl) ?_
      cases qob_ret hf
      exact ct_iret X hQ hK hP hD hS rfl dX10_layParts_108
    · intro J1 hJ1 hf
      refine qwalk5 (fun (x1_2 : Int32) (x2_1 : Int32) (m_dist_2 : Nat → Int32) (m_queue_2 : Nat → Int32) (m_parts_3 : Nat → Int32) => ∀ (H : Heap) (locs : List Loc) (ls : Array Slot), ctW D A s ([oX10 mo ma m_thrown m_textSize m_rows m_columns m_a m_b m_readRows m_readColumns m_at m_looks m_came m_draw m_turnedRows m_turnedColumns, aZ cy (ma 1) 36 m_right, aZ cy (ma 2) 36 m_down, aI cy (ma 7) 36 m_dist_2, aI cy (ma 8) 36 m_queue_2, aZ cy (ma 10) 36 m_shut, aI cy (ma 11) 36 m_parts_3]) H locs → lv_has ls 4 [(0, .ref mo), (1, .int x1_2), (2, .int x2_1)] → W p l e rmX10_layParts s m args below meth c H locs 0 0 Q (F0 m 26 ls [])) ?_ _ (0 : Int32) (0 : Int32) m_dist m_queue m_parts_1 hf _ _ _ ⟨hP, hD, hS⟩ (lv_sub hl [1, 2, 0] rfl)
      intro J2 hL2 x1_2 x2_1 m_dist_2 m_queue_2 m_parts_3 hf H locs ls ⟨hP, hD, hS⟩ hl
      refine lv_iload_n hx hb dX10_layParts_26 rfl (lv_at hl 2 rfl) ?_
      refine lv_bipush (v := 36) hx hb dX10_layParts_27 (by decide) ?_
      refine lv_icmp_ge (tgt := 107) hx hb dX10_layParts_29 (by decide) (fun c3 => ?_) (fun c3 => ?_)
      · have hf := qob_t hf c3
        have hf := qob_esc hf
        exact hJ1 x1_2 m_dist_2 m_queue_2 m_parts_3 hf _ _ _ ⟨hP, hD, hS⟩ (lv_sub hl [1] rfl)
      · have hf := qob_f hf c3
        refine lv_aload_n hx hb dX10_layParts_32 rfl (lv_at hl 0 rfl) ?_
        refine lv_iload_n hx hb dX10_layParts_33 rfl (lv_at hl 2 rfl) ?_
        refine ctV_i0 (r := (fX10_isThere m_rows m_columns x2_1)) (wc := [oX10 mo ma m_thrown m_textSize m_rows m_columns m_a m_b m_readRows m_readColumns m_at m_looks m_came m_draw m_turnedRows m_turnedColumns]) (As := [.int x2_1]) (rest := []) (q0 := 0) X hK hP hD hS [0] rfl rfl rfl (KX10_isThere rfl _) (cwV 1 hts gX10_layParts_X10_isThere rfl rfl rfl hdX10_isThere ⟨Nat.le_of_ble_eq_true rfl, Nat.le_of_ble_eq_true rfl⟩) rfl rfl rfl hl rfl (Nat.le_of_ble_eq_true rfl) dX10_layParts_34 (Nat.zero_le _) (Nat.zero_le _) (fun H locs hP hS => ?_)
        refine lv_if_eq (tgt := 101) hx hb dX10_layParts_37 (by decide) (fun c4 => ?_) (fun c4 => ?_)
        · have hf := qob_t hf c4
          refine lv_iinc (v := (x2_1 + 1)) (lv' := [(2, .int (x2_1 + 1)), (0, .ref mo), (1, .int x1_2)]) hx hb dX10_layParts_101 hl (k := 2) rfl rfl (by decide) rfl (fun ls hl => ?_)
          refine lv_goto (tgt := 26) hx hb dX10_layParts_104 (by decide) ?_
          exact hL2 x1_2 (x2_1 + 1) m_dist_2 m_queue_2 m_parts_3 hf _ _ _ ⟨hP, hD, hS⟩ (lv_sub hl [1, 2, 0] rfl)
        · have hf := qob_f hf c4
          refine lv_aload_n hx hb dX10_layParts_40 rfl (lv_at hl 0 rfl) ?_
          refine va_get (D := D) (ci := 10) (v := .ref (ma 11)) (C := RX10) (T := TX10) (N := 34) hx hb hts inwX10_layParts_X10 hown hK hP 0 rfl rfl 19 (by decide) (hts (.fieldLink RX10 52 "HedgeWaysModel" "parts" "[I") (List.mem_of_getElem? (i := 1) rfl)) (fun _ h9 => h9) rfl dX10_layParts_41 ?_
          refine lv_iload_n hx hb dX10_layParts_44 rfl (lv_at hl 2 rfl) ?_
          obtain ⟨i5, hf⟩ := qob_gd hf
          refine va_iald hx hb hK hP 6 0 rfl rfl i5 dX10_layParts_45 ?_
          refine lv_bipush (v := (-9)) hx hb dX10_layParts_46 (by decide) ?_
          refine lv_icmp_ne (tgt := 101) hx hb dX10_layParts_48 (by decide) (fun c6 => ?_) (fun c6 => ?_)
          · have hf := qob_f hf c6
            refine lv_iinc (v := (x2_1 + 1)) (lv' := [(2, .int (x2_1 + 1)), (0, .ref mo), (1, .int x1_2)]) hx hb dX10_layParts_101 hl (k := 2) rfl rfl (by decide) rfl (fun ls hl => ?_)
            refine lv_goto (tgt := 26) hx hb dX10_layParts_104 (by decide) ?_
            exact hL2 x1_2 (x2_1 + 1) m_dist_2 m_queue_2 m_parts_3 hf _ _ _ ⟨hP, hD, hS⟩ (lv_sub hl [1, 2, 0] rfl)
          · have hf := qob_t hf c6
            refine lv_iinc (v := (x1_2 + 1)) (lv' := [(1, .int (x1_2 + 1)), (0, .ref mo), (2, .int x2_1)]) hx hb dX10_layParts_51 hl (k := 1) rfl rfl (by decide) rfl (fun ls hl => ?_)
            refine lv_aload_n hx hb dX10_layParts_54 rfl (lv_at hl 1 rfl) ?_
            refine lv_iload_n hx hb dX10_layParts_55 rfl (lv_at hl 2 rfl) ?_
            obtain ⟨m_dist_3, m_queue_3, q7, hf⟩ := qcall2 hf
            refine ctV_v (wc := [oX10 mo ma m_thrown m_textSize m_rows m_columns m_a m_b m_readRows m_readColumns m_at m_looks m_came m_draw m_turnedRows m_turnedColumns, aZ cy (ma 1) 36 m_right, aZ cy (ma 2) 36 m_down, aI cy (ma 7) 36 m_dist_2, aI cy (ma 8) 36 m_queue_2, aZ cy (ma 10) 36 m_shut]) (w1 := [oX10 mo ma m_thrown m_textSize m_rows m_columns m_a m_b m_readRows m_readColumns m_at m_looks m_came m_draw m_turnedRows m_turnedColumns, aZ cy (ma 1) 36 m_right, aZ cy (ma 2) 36 m_down, aI cy (ma 7) 36 m_dist_3, aI cy (ma 8) 36 m_queue_3, aZ cy (ma 10) 36 m_shut]) (wr := [aI cy (ma 11) 36 m_parts_3]) (wn := [oX10 mo ma m_thrown m_textSize m_rows m_columns m_a m_b m_readRows m_readColumns m_at m_looks m_came m_draw m_turnedRows m_turnedColumns, aZ cy (ma 1) 36 m_right, aZ cy (ma 2) 36 m_down, aI cy (ma 7) 36 m_dist_3, aI cy (ma 8) 36 m_queue_3, aZ cy (ma 10) 36 m_shut, aI cy (ma 11) 36 m_parts_3]) (As := [.int x2_1]) (rest := []) (q0 := 0) X hK hP hD hS [0, 1, 2, 3, 4, 5] [6] [1, 2, 3, 4, 5, 6, 0] rfl rfl rfl rfl rfl (by decide) rfl rfl rfl (KX10_layFar q7 _) (cwV 1 hts gX10_layParts_X10_layFar rfl rfl rfl hdX10_layFar ⟨Nat.le_of_ble_eq_true rfl, Nat.le_of_ble_eq_true rfl⟩) rfl rfl rfl hl rfl (Nat.le_of_ble_eq_true rfl) dX10_layParts_56 (Nat.zero_le _) (Nat.zero_le _) (fun H locs hP hD hS => ?_)
            refine lv_iconst (v := 0) hx hb dX10_layParts_59 (by decide) ?_
            refine lv_istore_n (lv' := [(3, .int 0), (1, .int (x1_2 + 1)), (0, .ref mo), (2, .int x2_1)]) hx hb dX10_layParts_60 rfl hl (by decide) rfl (fun ls hl => ?_)
            refine qjoin1 hf (fun (m_parts_4 : Nat → Int32) => ∀ (H : Heap) (locs : List Loc) (ls : Array Slot), ctW D A s ([oX10 mo ma m_thrown m_textSize m_rows m_columns m_a m_b m_readRows m_readColumns m_at m_looks m_came m_draw m_turnedRows m_turnedColumns, aZ cy (ma 1) 36 m_right, aZ cy (ma 2) 36 m_down, aI cy (ma 7) 36 m_dist_3, aI cy (ma 8) 36 m_queue_3, aZ cy (ma 10) 36 m_shut, aI cy (ma 11) 36 m_parts_4]) H locs → lv_has ls 4 [(0, .ref mo), (1, .int (x1_2 + 1)), (2, .int x2_1)] → W p l e rmX10_layParts s m args below meth c H locs 0 0 Q (F0 m 101 ls [])) ?_ ?_
            · intro m_parts_4 hf H locs ls ⟨hP, hD, hS⟩ hl
              refine lv_iinc (v := (x2_1 + 1)) (lv' := [(2, .int (x2_1 + 1)), (0, .ref mo), (1, .int (x1_2 + 1))]) hx hb dX10_layParts_101 hl (k := 2) rfl rfl (by decide) rfl (fun ls hl => ?_)
              refine lv_goto (tgt := 26) hx hb dX10_layParts_104 (by decide) ?_
              exact hL2 (x1_2 + 1) (x2_1 + 1) m_dist_3 m_queue_3 m_parts_4 hf _ _ _ ⟨hP, hD, hS⟩ (lv_sub hl [1, 2, 0] rfl)
            · intro J8 hJ8 hf
              refine qwalk2 (fun (x3_1 : Int32) (m_parts_5 : Nat → Int32) => ∀ (H : Heap) (locs : List Loc) (ls : Array Slot), ctW D A s ([oX10 mo ma m_thrown m_textSize m_rows m_columns m_a m_b m_readRows m_readColumns m_at m_looks m_came m_draw m_turnedRows m_turnedColumns, aZ cy (ma 1) 36 m_right, aZ cy (ma 2) 36 m_down, aI cy (ma 7) 36 m_dist_3, aI cy (ma 8) 36 m_queue_3, aZ cy (ma 10) 36 m_shut, aI cy (ma 11) 36 m_parts_5]) H locs → lv_has ls 4 [(0, .ref mo), (1, .int (x1_2 + 1)), (2, .int x2_1), (3, .int x3_1)] → W p l e rmX10_layParts s m args below meth c H locs 0 0 Q (F0 m 61 ls [])) ?_ _ (0 : Int32) m_parts_3 hf _ _ _ ⟨hP, hD, hS⟩ (lv_sub hl [2, 1, 3, 0] rfl)
              intro J9 hL9 x3_1 m_parts_5 hf H locs ls ⟨hP, hD, hS⟩ hl
              refine lv_iload_n hx hb dX10_layParts_61 rfl (lv_at hl 3 rfl) ?_
              refine lv_bipush (v := 36) hx hb dX10_layParts_62 (by decide) ?_
              refine lv_icmp_ge (tgt := 101) hx hb dX10_layParts_64 (by decide) (fun c10 => ?_) (fun c10 => ?_)
              · have hf := qob_t hf c10
                have hf := qob_esc hf
                exact hJ8 m_parts_5 hf _ _ _ ⟨hP, hD, hS⟩ (lv_sub hl [0, 1, 2] rfl)
              · have hf := qob_f hf c10
                refine lv_aload_n hx hb dX10_layParts_67 rfl (lv_at hl 0 rfl) ?_
                refine va_get (D := D) (ci := 10) (v := .ref (ma 11)) (C := RX10) (T := TX10) (N := 34) hx hb hts inwX10_layParts_X10 hown hK hP 0 rfl rfl 19 (by decide) (hts (.fieldLink RX10 52 "HedgeWaysModel" "parts" "[I") (List.mem_of_getElem? (i := 1) rfl)) (fun _ h9 => h9) rfl dX10_layParts_68 ?_
                refine lv_iload_n hx hb dX10_layParts_71 rfl (lv_at hl 3 rfl) ?_
                refine lv_aload_n hx hb dX10_layParts_72 rfl (lv_at hl 0 rfl) ?_
                refine va_get (D := D) (ci := 10) (v := .ref (ma 7)) (C := RX10) (T := TX10) (N := 34) hx hb hts inwX10_layParts_X10 hown hK hP 0 rfl rfl 15 (by decide) (hts (.fieldLink RX10 39 "HedgeWaysModel" "dist" "[I") (List.mem_of_getElem? (i := 2) rfl)) (fun _ h9 => h9) rfl dX10_layParts_73 ?_
                refine lv_iload_n hx hb dX10_layParts_76 rfl (lv_at hl 3 rfl) ?_
                obtain ⟨i11, hf⟩ := qob_gd hf
                refine va_iald hx hb hK hP 3 0 rfl rfl i11 dX10_layParts_77 ?_
                refine lv_sipush (v := 9999) hx hb dX10_layParts_78 (by decide) ?_
                refine lv_icmp_ge (tgt := 88) hx hb dX10_layParts_81 (by decide) (fun c12 => ?_) (fun c12 => ?_)
                · have hf := qob_t hf c12
                  refine lv_aload_n hx hb dX10_layParts_88 rfl (lv_at hl 0 rfl) ?_
                  refine va_get (D := D) (ci := 10) (v := .ref (ma 11)) (C := RX10) (T := TX10) (N := 34) hx hb hts inwX10_layParts_X10 hown hK hP 0 rfl rfl 19 (by decide) (hts (.fieldLink RX10 52 "HedgeWaysModel" "parts" "[I") (List.mem_of_getElem? (i := 1) rfl)) (fun _ h9 => h9) rfl dX10_layParts_89 ?_
                  refine lv_iload_n hx hb dX10_layParts_92 rfl (lv_at hl 3 rfl) ?_
                  obtain ⟨i13, hf⟩ := qob_gd hf
                  refine va_iald hx hb hK hP 6 0 rfl rfl i13 dX10_layParts_93 ?_
                  obtain ⟨i14, hf⟩ := qob_gd hf
                  obtain ⟨m_parts_6, e15⟩ : ∃ z, z = (upd m_parts_5 x3_1.toNatClampNeg (m_parts_5 x3_1.toNatClampNeg)) := ⟨_, rfl⟩
                  have hf := qob_bd hf e15
                  refine va_iast hx hb hK hP hD hS 6 0 rfl rfl i14 dX10_layParts_94 (fun H locs hP hD hS => ?_)
                  have hP : va_P D vwCl ([oX10 mo ma m_thrown m_textSize m_rows m_columns m_a m_b m_readRows m_readColumns m_at m_looks m_came m_draw m_turnedRows m_turnedColumns, aZ cy (ma 1) 36 m_right, aZ cy (ma 2) 36 m_down, aI cy (ma 7) 36 m_dist_3, aI cy (ma 8) 36 m_queue_3, aZ cy (ma 10) 36 m_shut, aI cy (ma 11) 36 m_parts_6]) H := by rw [e15]; exact hP
                  have hD : va_D A ([oX10 mo ma m_thrown m_textSize m_rows m_columns m_a m_b m_readRows m_readColumns m_at m_looks m_came m_draw m_turnedRows m_turnedColumns, aZ cy (ma 1) 36 m_right, aZ cy (ma 2) 36 m_down, aI cy (ma 7) 36 m_dist_3, aI cy (ma 8) 36 m_queue_3, aZ cy (ma 10) 36 m_shut, aI cy (ma 11) 36 m_parts_6]) := by rw [e15]; exact hD
                  refine lv_iinc (v := (x3_1 + 1)) (lv' := [(3, .int (x3_1 + 1)), (0, .ref mo), (1, .int (x1_2 + 1)), (2, .int x2_1)]) hx hb dX10_layParts_95 hl (k := 3) rfl rfl (by decide) rfl (fun ls hl => ?_)
                  refine lv_goto (tgt := 61) hx hb dX10_layParts_98 (by decide) ?_
                  exact hL9 (x3_1 + 1) m_parts_6 hf _ _ _ ⟨hP, hD, hS⟩ (lv_sub hl [1, 2, 3, 0] rfl)
                · have hf := qob_f hf c12
                  refine lv_iload_n hx hb dX10_layParts_84 rfl (lv_at hl 2 rfl) ?_
                  refine lv_goto (tgt := 94) hx hb dX10_layParts_85 (by decide) ?_
                  obtain ⟨i16, hf⟩ := qob_gd hf
                  refine va_iast hx hb hK hP hD hS 6 0 rfl rfl i16 dX10_layParts_94 (fun H locs hP hD hS => ?_)
                  have hP : va_P D vwCl ([oX10 mo ma m_thrown m_textSize m_rows m_columns m_a m_b m_readRows m_readColumns m_at m_looks m_came m_draw m_turnedRows m_turnedColumns, aZ cy (ma 1) 36 m_right, aZ cy (ma 2) 36 m_down, aI cy (ma 7) 36 m_dist_3, aI cy (ma 8) 36 m_queue_3, aZ cy (ma 10) 36 m_shut, aI cy (ma 11) 36 (upd m_parts_5 x3_1.toNatClampNeg x2_1)]) H := hP
                  have hD : va_D A ([oX10 mo ma m_thrown m_textSize m_rows m_columns m_a m_b m_readRows m_readColumns m_at m_looks m_came m_draw m_turnedRows m_turnedColumns, aZ cy (ma 1) 36 m_right, aZ cy (ma 2) 36 m_down, aI cy (ma 7) 36 m_dist_3, aI cy (ma 8) 36 m_queue_3, aZ cy (ma 10) 36 m_shut, aI cy (ma 11) 36 (upd m_parts_5 x3_1.toNatClampNeg x2_1)]) := hD
                  refine lv_iinc (v := (x3_1 + 1)) (lv' := [(3, .int (x3_1 + 1)), (0, .ref mo), (1, .int (x1_2 + 1)), (2, .int x2_1)]) hx hb dX10_layParts_95 hl (k := 3) rfl rfl (by decide) rfl (fun ls hl => ?_)
                  refine lv_goto (tgt := 61) hx hb dX10_layParts_98 (by decide) ?_
                  exact hL9 (x3_1 + 1) (upd m_parts_5 x3_1.toNatClampNeg x2_1) hf _ _ _ ⟨hP, hD, hS⟩ (lv_sub hl [1, 2, 3, 0] rfl)
  · intro J17 hJ17 hf
    refine qwalk2 (fun (x2_2 : Int32) (m_parts_7 : Nat → Int32) => ∀ (H : Heap) (locs : List Loc) (ls : Array Slot), ctW D A s ([oX10 mo ma m_thrown m_textSize m_rows m_columns m_a m_b m_readRows m_readColumns m_at m_looks m_came m_draw m_turnedRows m_turnedColumns, aZ cy (ma 1) 36 m_right, aZ cy (ma 2) 36 m_down, aI cy (ma 7) 36 m_dist, aI cy (ma 8) 36 m_queue, aZ cy (ma 10) 36 m_shut, aI cy (ma 11) 36 m_parts_7]) H locs → lv_has ls 4 [(0, .ref mo), (1, .int 0), (2, .int x2_2)] → W p l e rmX10_layParts s m args below meth c H locs 0 0 Q (F0 m 4 ls [])) ?_ _ (0 : Int32) m_parts hf _ _ _ ⟨hP, hD, hS⟩ (lv_sub hl [2, 1, 0] rfl)
    intro J18 hL18 x2_2 m_parts_7 hf H locs ls ⟨hP, hD, hS⟩ hl
    refine lv_iload_n hx hb dX10_layParts_4 rfl (lv_at hl 2 rfl) ?_
    refine lv_bipush (v := 36) hx hb dX10_layParts_5 (by decide) ?_
    refine lv_icmp_ge (tgt := 24) hx hb dX10_layParts_7 (by decide) (fun c19 => ?_) (fun c19 => ?_)
    · have hf := qob_t hf c19
      have hf := qob_esc hf
      exact hJ17 m_parts_7 hf _ _ _ ⟨hP, hD, hS⟩ (lv_sub hl [0, 1] rfl)
    · have hf := qob_f hf c19
      refine lv_aload_n hx hb dX10_layParts_10 rfl (lv_at hl 0 rfl) ?_
      refine va_get (D := D) (ci := 10) (v := .ref (ma 11)) (C := RX10) (T := TX10) (N := 34) hx hb hts inwX10_layParts_X10 hown hK hP 0 rfl rfl 19 (by decide) (hts (.fieldLink RX10 52 "HedgeWaysModel" "parts" "[I") (List.mem_of_getElem? (i := 1) rfl)) (fun _ h9 => h9) rfl dX10_layParts_11 ?_
      refine lv_iload_n hx hb dX10_layParts_14 rfl (lv_at hl 2 rfl) ?_
      refine lv_bipush (v := (-9)) hx hb dX10_layParts_15 (by decide) ?_
      obtain ⟨i20, hf⟩ := qob_gd hf
      refine va_iast hx hb hK hP hD hS 6 0 rfl rfl i20 dX10_layParts_17 (fun H locs hP hD hS => ?_)
      have hP : va_P D vwCl ([oX10 mo ma m_thrown m_textSize m_rows m_columns m_a m_b m_readRows m_readColumns m_at m_looks m_came m_draw m_turnedRows m_turnedColumns, aZ cy (ma 1) 36 m_right, aZ cy (ma 2) 36 m_down, aI cy (ma 7) 36 m_dist, aI cy (ma 8) 36 m_queue, aZ cy (ma 10) 36 m_shut, aI cy (ma 11) 36 (upd m_parts_7 x2_2.toNatClampNeg (-9))]) H := hP
      have hD : va_D A ([oX10 mo ma m_thrown m_textSize m_rows m_columns m_a m_b m_readRows m_readColumns m_at m_looks m_came m_draw m_turnedRows m_turnedColumns, aZ cy (ma 1) 36 m_right, aZ cy (ma 2) 36 m_down, aI cy (ma 7) 36 m_dist, aI cy (ma 8) 36 m_queue, aZ cy (ma 10) 36 m_shut, aI cy (ma 11) 36 (upd m_parts_7 x2_2.toNatClampNeg (-9))]) := hD
      refine lv_iinc (v := (x2_2 + 1)) (lv' := [(2, .int (x2_2 + 1)), (0, .ref mo), (1, .int 0)]) hx hb dX10_layParts_18 hl (k := 2) rfl rfl (by decide) rfl (fun ls hl => ?_)
      refine lv_goto (tgt := 4) hx hb dX10_layParts_21 (by decide) ?_
      exact hL18 (x2_2 + 1) (upd m_parts_7 x2_2.toNatClampNeg (-9)) hf _ _ _ ⟨hP, hD, hS⟩ (lv_sub hl [1, 2, 0] rfl)

theorem inwX10_makeList_X10 : ∀ w ∈ wsX100, w ∈ wsX10_makeList := fun _ h => List.mem_cons_of_mem _ (List.mem_append_right _ h)
abbrev rmX10_makeList : Room := { frames := 5, cells := 0, slots := 0, locals := 121 }
theorem hdX10_makeList : yX10_makeList.cls = RX10 ∧ yX10_makeList.cls ≠ "java/lang/invoke/MethodHandle" ∧ yX10_makeList.cls ≠ "java/lang/invoke/VarHandle" ∧ (parseMethodDescriptor yX10_makeList.desc).map (fun d => d.parameters.length) = some 0 := by decide +kernel
set_option maxHeartbeats 4000000 in
set_option maxRecDepth 100000 in
theorem KX10_makeList {l : Launch} {D : va_G} {cy : Nat → ClassId} {mo : Nat} {ma : Nat → Nat} {m_thrown : Int32} {m_textSize : Int32} {m_rows : Int32} {m_columns : Int32} {m_a : Int32} {m_b : Int32} {m_readRows : Int32} {m_readColumns : Int32} {m_at : Int32} {m_looks : Int32} {m_came : Int32} {m_draw : Int64} {m_turnedRows : Int32} {m_turnedColumns : Int32} {m_right : Nat → Int32} {m_down : Nat → Int32} {m_dist : Nat → Int32} {m_queue : Nat → Int32} {m_shut : Nat → Int32} {m_parts : Nat → Int32} {m_list : Nat → Int32}  {m_draw' : Int64} {m_right' : Nat → Int32} {m_down' : Nat → Int32} {m_dist' : Nat → Int32} {m_queue' : Nat → Int32} {m_parts' : Nat → Int32} {m_list' : Nat → Int32} (hf : fX10_makeList m_rows m_columns m_draw m_right m_down m_dist m_queue m_shut m_parts m_list = some (m_draw', m_right', m_down', m_dist', m_queue', m_parts', m_list')) : CtV l yX10_makeList wsX10_makeList rmX10_makeList D cy [.ref mo] ([oX10 mo ma m_thrown m_textSize m_rows m_columns m_a m_b m_readRows m_readColumns m_at m_looks m_came m_draw m_turnedRows m_turnedColumns, aZ cy (ma 1) 36 m_right, aZ cy (ma 2) 36 m_down, aI cy (ma 7) 36 m_dist, aI cy (ma 8) 36 m_queue, aZ cy (ma 10) 36 m_shut, aI cy (ma 11) 36 m_parts, aI cy (ma 18) 60 m_list]) ([oX10 mo ma m_thrown m_textSize m_rows m_columns m_a m_b m_readRows m_readColumns m_at m_looks m_came m_draw' m_turnedRows m_turnedColumns, aZ cy (ma 1) 36 m_right', aZ cy (ma 2) 36 m_down', aI cy (ma 7) 36 m_dist', aI cy (ma 8) 36 m_queue', aZ cy (ma 10) 36 m_shut, aI cy (ma 11) 36 m_parts', aI cy (ma 18) 60 m_list']) := by
  refine CtV.of (cc := cX10_makeList) (maxL := 5) (ret := none) (own := RX10) (by decide) rfl rfl (Nat.le_of_ble_eq_true rfl) ?_
  intro p e s m args below meth c A Q X hQ hK hP hD hS ls hl
  obtain ⟨hx, hb, hml, hown, hts, hr, hlocks, hA, hZ⟩ := id X
  have hl : lv_has ls 5 [(0, .ref mo)] := hl
  unfold fX10_makeList at hf
  have hf := qob_top hf
  refine lv_iconst (v := 0) hx hb dX10_makeList_0 (by decide) ?_
  refine lv_istore_n (lv' := [(1, .int 0), (0, .ref mo)]) hx hb dX10_makeList_1 rfl hl (by decide) rfl (fun ls hl => ?_)
  refine lv_iconst (v := 0) hx hb dX10_makeList_2 (by decide) ?_
  refine lv_istore_n (lv' := [(2, .int 0), (1, .int 0), (0, .ref mo)]) hx hb dX10_makeList_3 rfl hl (by decide) rfl (fun ls hl => ?_)
  refine qjoin2 hf (fun (x1_1 : Int32) (m_list_1 : Nat → Int32) => ∀ (H : Heap) (locs : List Loc) (ls : Array Slot), ctW D A s ([oX10 mo ma m_thrown m_textSize m_rows m_columns m_a m_b m_readRows m_readColumns m_at m_looks m_came m_draw m_turnedRows m_turnedColumns, aZ cy (ma 1) 36 m_right, aZ cy (ma 2) 36 m_down, aI cy (ma 7) 36 m_dist, aI cy (ma 8) 36 m_queue, aZ cy (ma 10) 36 m_shut, aI cy (ma 11) 36 m_parts, aI cy (ma 18) 60 m_list_1]) H locs → lv_has ls 5 [(0, .ref mo), (1, .int x1_1)] → W p l e rmX10_makeList s m args below meth c H locs 0 0 Q (F0 m 62 ls [])) ?_ ?_
  · intro x1_1 m_list_1 hf H locs ls ⟨hP, hD, hS⟩ hl
    refine lv_iload_n hx hb dX10_makeList_62 rfl (lv_at hl 1 rfl) ?_
    refine lv_iconst (v := 1) hx hb dX10_makeList_63 (by decide) ?_
    refine lv_isub hx hb dX10_makeList_64 ?_
    refine lv_istore_n (lv' := [(2, .int (x1_1 - 1)), (0, .ref mo), (1, .int x1_1)]) hx hb dX10_makeList_65 rfl hl (by decide) rfl (fun ls hl => ?_)
    refine qjoin2 hf (fun (m_draw_1 : Int64) (m_list_2 : Nat → Int32) => ∀ (H : Heap) (locs : List Loc) (ls : Array Slot), ctW D A s ([oX10 mo ma m_thrown m_textSize m_rows m_columns m_a m_b m_readRows m_readColumns m_at m_looks m_came m_draw_1 m_turnedRows m_turnedColumns, aZ cy (ma 1) 36 m_right, aZ cy (ma 2) 36 m_down, aI cy (ma 7) 36 m_dist, aI cy (ma 8) 36 m_queue, aZ cy (ma 10) 36 m_shut, aI cy (ma 11) 36 m_parts, aI cy (ma 18) 60 m_list_2]) H locs → lv_has ls 5 [(0, .ref mo), (1, .int x1_1)] → W p l e rmX10_makeList s m args below meth c H locs 0 0 Q (F0 m 112 ls [])) ?_ ?_
    · intro m_draw_1 m_list_2 hf H locs ls ⟨hP, hD, hS⟩ hl
      refine lv_iconst (v := 0) hx hb dX10_makeList_112 (by decide) ?_
      refine lv_istore_n (lv' := [(2, .int 0), (0, .ref mo), (1, .int x1_1)]) hx hb dX10_makeList_113 rfl hl (by decide) rfl (fun ls hl => ?_)
      refine qjoin5 hf (fun (m_right_1 : Nat → Int32) (m_down_1 : Nat → Int32) (m_dist_1 : Nat → Int32) (m_queue_1 : Nat → Int32) (m_parts_1 : Nat → Int32) => ∀ (H : Heap) (locs : List Loc) (ls : Array Slot), ctW D A s ([oX10 mo ma m_thrown m_textSize m_rows m_columns m_a m_b m_readRows m_readColumns m_at m_looks m_came m_draw_1 m_turnedRows m_turnedColumns, aZ cy (ma 1) 36 m_right_1, aZ cy (ma 2) 36 m_down_1, aI cy (ma 7) 36 m_dist_1, aI cy (ma 8) 36 m_queue_1, aZ cy (ma 10) 36 m_shut, aI cy (ma 11) 36 m_parts_1, aI cy (ma 18) 60 m_list_2]) H locs → lv_has ls 5 [] → W p l e rmX10_makeList s m args below meth c H locs 0 0 Q (F0 m 178 ls [])) ?_ ?_
      · intro m_right_1 m_down_1 m_dist_1 m_queue_1 m_parts_1 hf H locs ls ⟨hP, hD, hS⟩ hl
        cases qob_ret hf
        exact ct_vret X hQ hK hP hD hS dX10_makeList_178
      · intro J1 hJ1 hf
        refine qwalk6 (fun (x2_1 : Int32) (m_right_2 : Nat → Int32) (m_down_2 : Nat → Int32) (m_dist_2 : Nat → Int32) (m_queue_2 : Nat → Int32) (m_parts_2 : Nat → Int32) => ∀ (H : Heap) (locs : List Loc) (ls : Array Slot), ctW D A s ([oX10 mo ma m_thrown m_textSize m_rows m_columns m_a m_b m_readRows m_readColumns m_at m_looks m_came m_draw_1 m_turnedRows m_turnedColumns, aZ cy (ma 1) 36 m_right_2, aZ cy (ma 2) 36 m_down_2, aI cy (ma 7) 36 m_dist_2, aI cy (ma 8) 36 m_queue_2, aZ cy (ma 10) 36 m_shut, aI cy (ma 11) 36 m_parts_2, aI cy (ma 18) 60 m_list_2]) H locs → lv_has ls 5 [(0, .ref mo), (1, .int x1_1), (2, .int x2_1)] → W p l e rmX10_makeList s m args below meth c H locs 0 0 Q (F0 m 114 ls [])) ?_ _ (0 : Int32) m_right m_down m_dist m_queue m_parts hf _ _ _ ⟨hP, hD, hS⟩ (lv_sub hl [1, 2, 0] rfl)
        intro J2 hL2 x2_1 m_right_2 m_down_2 m_dist_2 m_queue_2 m_parts_2 hf H locs ls ⟨hP, hD, hS⟩ hl
        refine lv_iload_n hx hb dX10_makeList_114 rfl (lv_at hl 2 rfl) ?_
        refine lv_iload_n hx hb dX10_makeList_115 rfl (lv_at hl 1 rfl) ?_
        refine lv_icmp_ge (tgt := 178) hx hb dX10_makeList_116 (by decide) (fun c3 => ?_) (fun c3 => ?_)
        · have hf := qob_t hf c3
          have hf := qob_esc hf
          exact hJ1 m_right_2 m_down_2 m_dist_2 m_queue_2 m_parts_2 hf _ _ _ ⟨hP, hD, hS⟩ (lv_sub hl [] rfl)
        · have hf := qob_f hf c3
          refine lv_aload_n hx hb dX10_makeList_119 rfl (lv_at hl 0 rfl) ?_
          refine va_get (D := D) (ci := 10) (v := .ref (ma 18)) (C := RX10) (T := TX10) (N := 34) hx hb hts inwX10_makeList_X10 hown hK hP 0 rfl rfl 30 (by decide) (hts (.fieldLink RX10 73 "HedgeWaysModel" "list" "[I") (List.mem_of_getElem? (i := 1) rfl)) (fun _ h9 => h9) rfl dX10_makeList_120 ?_
          refine lv_iload_n hx hb dX10_makeList_123 rfl (lv_at hl 2 rfl) ?_
          obtain ⟨i4, hf⟩ := qob_gd hf
          refine va_iald hx hb hK hP 7 0 rfl rfl i4 dX10_makeList_124 ?_
          refine lv_iconst (v := 4) hx hb dX10_makeList_125 (by decide) ?_
          refine lv_idiv hx hb dX10_makeList_126 (by decide) ?_
          refine lv_istore_n (lv' := [(3, .int ((m_list_2 x2_1.toNatClampNeg) / 4)), (0, .ref mo), (1, .int x1_1), (2, .int x2_1)]) hx hb dX10_makeList_127 rfl hl (by decide) rfl (fun ls hl => ?_)
          refine lv_aload_n hx hb dX10_makeList_128 rfl (lv_at hl 1 rfl) ?_
          refine va_get (D := D) (ci := 10) (v := .ref (ma 18)) (C := RX10) (T := TX10) (N := 34) hx hb hts inwX10_makeList_X10 hown hK hP 0 rfl rfl 30 (by decide) (hts (.fieldLink RX10 73 "HedgeWaysModel" "list" "[I") (List.mem_of_getElem? (i := 1) rfl)) (fun _ h9 => h9) rfl dX10_makeList_129 ?_
          refine lv_iload_n hx hb dX10_makeList_132 rfl (lv_at hl 3 rfl) ?_
          obtain ⟨i5, hf⟩ := qob_gd hf
          refine va_iald hx hb hK hP 7 0 rfl rfl i5 dX10_makeList_133 ?_
          refine lv_iconst (v := 4) hx hb dX10_makeList_134 (by decide) ?_
          refine lv_irem hx hb dX10_makeList_135 (by decide) ?_
          refine lv_istore (lv' := [(4, .int (qrem (m_list_2 x2_1.toNatClampNeg) 4)), (3, .int ((m_list_2 x2_1.toNatClampNeg) / 4)), (0, .ref mo), (1, .int x1_1), (2, .int x2_1)]) hx hb dX10_makeList_136 hl (by decide) rfl (fun ls hl => ?_)
          refine lv_aload_n hx hb dX10_makeList_138 rfl (lv_at hl 2 rfl) ?_
          obtain ⟨r_1, m_dist_3, m_queue_3, m_parts_3, q6, hf⟩ := qcall4 hf
          refine ctV_i (r := r_1) (wc := [oX10 mo ma m_thrown m_textSize m_rows m_columns m_a m_b m_readRows m_readColumns m_at m_looks m_came m_draw_1 m_turnedRows m_turnedColumns, aZ cy (ma 1) 36 m_right_2, aZ cy (ma 2) 36 m_down_2, aI cy (ma 7) 36 m_dist_2, aI cy (ma 8) 36 m_queue_2, aZ cy (ma 10) 36 m_shut, aI cy (ma 11) 36 m_parts_2]) (w1 := [oX10 mo ma m_thrown m_textSize m_rows m_columns m_a m_b m_readRows m_readColumns m_at m_looks m_came m_draw_1 m_turnedRows m_turnedColumns, aZ cy (ma 1) 36 m_right_2, aZ cy (ma 2) 36 m_down_2, aI cy (ma 7) 36 m_dist_3, aI cy (ma 8) 36 m_queue_3, aZ cy (ma 10) 36 m_shut, aI cy (ma 11) 36 m_parts_3]) (wr := [aI cy (ma 18) 60 m_list_2]) (wn := [oX10 mo ma m_thrown m_textSize m_rows m_columns m_a m_b m_readRows m_readColumns m_at m_looks m_came m_draw_1 m_turnedRows m_turnedColumns, aZ cy (ma 1) 36 m_right_2, aZ cy (ma 2) 36 m_down_2, aI cy (ma 7) 36 m_dist_3, aI cy (ma 8) 36 m_queue_3, aZ cy (ma 10) 36 m_shut, aI cy (ma 11) 36 m_parts_3, aI cy (ma 18) 60 m_list_2]) (As := []) (rest := []) (q0 := 0) X hK hP hD hS [0, 1, 2, 3, 4, 5, 6] [7] [1, 2, 3, 4, 5, 6, 7, 0] rfl rfl rfl rfl rfl (by decide) rfl rfl rfl (KX10_layParts q6 _) (cwV 0 hts gX10_makeList_X10_layParts rfl rfl rfl hdX10_layParts ⟨Nat.le_of_ble_eq_true rfl, Nat.le_of_ble_eq_true rfl⟩) rfl rfl rfl hl rfl (Nat.le_of_ble_eq_true rfl) dX10_makeList_139 (Nat.zero_le _) (Nat.zero_le _) (fun H locs hP hD hS => ?_)
          refine lv_pop hx hb dX10_makeList_142 rfl ?_
          refine lv_aload_n hx hb dX10_makeList_143 rfl (lv_at hl 2 rfl) ?_
          refine va_get (D := D) (ci := 10) (v := .ref (ma 11)) (C := RX10) (T := TX10) (N := 34) hx hb hts inwX10_makeList_X10 hown hK hP 0 rfl rfl 19 (by decide) (hts (.fieldLink RX10 52 "HedgeWaysModel" "parts" "[I") (List.mem_of_getElem? (i := 2) rfl)) (fun _ h9 => h9) rfl dX10_makeList_144 ?_
          refine lv_iload_n hx hb dX10_makeList_147 rfl (lv_at hl 1 rfl) ?_
          obtain ⟨i7, hf⟩ := qob_gd hf
          refine va_iald hx hb hK hP 6 0 rfl rfl i7 dX10_makeList_148 ?_
          refine lv_aload_n hx hb dX10_makeList_149 rfl (lv_at hl 2 rfl) ?_
          refine va_get (D := D) (ci := 10) (v := .ref (ma 11)) (C := RX10) (T := TX10) (N := 34) hx hb hts inwX10_makeList_X10 hown hK hP 0 rfl rfl 19 (by decide) (hts (.fieldLink RX10 52 "HedgeWaysModel" "parts" "[I") (List.mem_of_getElem? (i := 2) rfl)) (fun _ h9 => h9) rfl dX10_makeList_150 ?_
          refine lv_aload_n hx hb dX10_makeList_153 rfl (lv_at hl 2 rfl) ?_
          refine lv_iload_n hx hb dX10_makeList_154 rfl (lv_at hl 1 rfl) ?_
          refine lv_iload hx hb dX10_makeList_155 (lv_at hl 0 rfl) ?_
          refine ctV_i0 (r := (fX10_beside m_rows m_columns ((m_list_2 x2_1.toNatClampNeg) / 4) (qrem (m_list_2 x2_1.toNatClampNeg) 4))) (wc := [oX10 mo ma m_thrown m_textSize m_rows m_columns m_a m_b m_readRows m_readColumns m_at m_looks m_came m_draw_1 m_turnedRows m_turnedColumns]) (As := [.int ((m_list_2 x2_1.toNatClampNeg) / 4), .int (qrem (m_list_2 x2_1.toNatClampNeg) 4)]) (rest := [.ref (ma 11), .int (m_parts_3 (((m_list_2 x2_1.toNatClampNeg) / 4)).toNatClampNeg)]) (q0 := 0) X hK hP hD hS [0] rfl rfl rfl (KX10_beside rfl _) (cwV 2 hts gX10_makeList_X10_beside rfl rfl rfl hdX10_beside ⟨Nat.le_of_ble_eq_true rfl, Nat.le_of_ble_eq_true rfl⟩) rfl rfl rfl hl rfl (Nat.le_of_ble_eq_true rfl) dX10_makeList_157 (Nat.zero_le _) (Nat.zero_le _) (fun H locs hP hS => ?_)
          obtain ⟨i8, hf⟩ := qob_gd hf
          refine va_iald hx hb hK hP 6 0 rfl rfl i8 dX10_makeList_160 ?_
          refine lv_icmp_eq (tgt := 172) hx hb dX10_makeList_161 (by decide) (fun c9 => ?_) (fun c9 => ?_)
          · have hf := qob_t hf c9
            refine lv_iinc (v := (x2_1 + 1)) (lv' := [(2, .int (x2_1 + 1)), (4, .int (qrem (m_list_2 x2_1.toNatClampNeg) 4)), (3, .int ((m_list_2 x2_1.toNatClampNeg) / 4)), (0, .ref mo), (1, .int x1_1)]) hx hb dX10_makeList_172 hl (k := 4) rfl rfl (by decide) rfl (fun ls hl => ?_)
            refine lv_goto (tgt := 114) hx hb dX10_makeList_175 (by decide) ?_
            exact hL2 (x2_1 + 1) m_right_2 m_down_2 m_dist_3 m_queue_3 m_parts_3 hf _ _ _ ⟨hP, hD, hS⟩ (lv_sub hl [3, 4, 0] rfl)
          · have hf := qob_f hf c9
            refine lv_aload_n hx hb dX10_makeList_164 rfl (lv_at hl 2 rfl) ?_
            refine lv_iload_n hx hb dX10_makeList_165 rfl (lv_at hl 1 rfl) ?_
            refine lv_iload hx hb dX10_makeList_166 (lv_at hl 0 rfl) ?_
            refine lv_iconst (v := 1) hx hb dX10_makeList_168 (by decide) ?_
            obtain ⟨m_right_3, m_down_3, q10, hf⟩ := qcall2 hf
            refine ctV_v (wc := [oX10 mo ma m_thrown m_textSize m_rows m_columns m_a m_b m_readRows m_readColumns m_at m_looks m_came m_draw_1 m_turnedRows m_turnedColumns, aZ cy (ma 1) 36 m_right_2, aZ cy (ma 2) 36 m_down_2]) (w1 := [oX10 mo ma m_thrown m_textSize m_rows m_columns m_a m_b m_readRows m_readColumns m_at m_looks m_came m_draw_1 m_turnedRows m_turnedColumns, aZ cy (ma 1) 36 m_right_3, aZ cy (ma 2) 36 m_down_3]) (wr := [aI cy (ma 7) 36 m_dist_3, aI cy (ma 8) 36 m_queue_3, aZ cy (ma 10) 36 m_shut, aI cy (ma 11) 36 m_parts_3, aI cy (ma 18) 60 m_list_2]) (wn := [oX10 mo ma m_thrown m_textSize m_rows m_columns m_a m_b m_readRows m_readColumns m_at m_looks m_came m_draw_1 m_turnedRows m_turnedColumns, aZ cy (ma 1) 36 m_right_3, aZ cy (ma 2) 36 m_down_3, aI cy (ma 7) 36 m_dist_3, aI cy (ma 8) 36 m_queue_3, aZ cy (ma 10) 36 m_shut, aI cy (ma 11) 36 m_parts_3, aI cy (ma 18) 60 m_list_2]) (As := [.int ((m_list_2 x2_1.toNatClampNeg) / 4), .int (qrem (m_list_2 x2_1.toNatClampNeg) 4), .int 1]) (rest := []) (q0 := 0) X hK hP hD hS [0, 1, 2] [3, 4, 5, 6, 7] [5, 6, 7, 0, 1, 2, 3, 4] rfl rfl rfl rfl rfl (by decide) rfl rfl rfl (KX10_set q10 _) (cwV 3 hts gX10_makeList_X10_set rfl rfl rfl hdX10_set ⟨Nat.le_of_ble_eq_true rfl, Nat.le_of_ble_eq_true rfl⟩) rfl rfl rfl hl rfl (Nat.le_of_ble_eq_true rfl) dX10_makeList_169 (Nat.zero_le _) (Nat.zero_le _) (fun H locs hP hD hS => ?_)
            refine lv_iinc (v := (x2_1 + 1)) (lv' := [(2, .int (x2_1 + 1)), (4, .int (qrem (m_list_2 x2_1.toNatClampNeg) 4)), (3, .int ((m_list_2 x2_1.toNatClampNeg) / 4)), (0, .ref mo), (1, .int x1_1)]) hx hb dX10_makeList_172 hl (k := 4) rfl rfl (by decide) rfl (fun ls hl => ?_)
            refine lv_goto (tgt := 114) hx hb dX10_makeList_175 (by decide) ?_
            exact hL2 (x2_1 + 1) m_right_3 m_down_3 m_dist_3 m_queue_3 m_parts_3 hf _ _ _ ⟨hP, hD, hS⟩ (lv_sub hl [3, 4, 0] rfl)
    · intro J11 hJ11 hf
      refine qwalk3 (fun (x2_2 : Int32) (m_draw_2 : Int64) (m_list_3 : Nat → Int32) => ∀ (H : Heap) (locs : List Loc) (ls : Array Slot), ctW D A s ([oX10 mo ma m_thrown m_textSize m_rows m_columns m_a m_b m_readRows m_readColumns m_at m_looks m_came m_draw_2 m_turnedRows m_turnedColumns, aZ cy (ma 1) 36 m_right, aZ cy (ma 2) 36 m_down, aI cy (ma 7) 36 m_dist, aI cy (ma 8) 36 m_queue, aZ cy (ma 10) 36 m_shut, aI cy (ma 11) 36 m_parts, aI cy (ma 18) 60 m_list_3]) H locs → lv_has ls 5 [(0, .ref mo), (1, .int x1_1), (2, .int x2_2)] → W p l e rmX10_makeList s m args below meth c H locs 0 0 Q (F0 m 66 ls [])) ?_ _ (x1_1 - 1) m_draw m_list_1 hf _ _ _ ⟨hP, hD, hS⟩ (lv_sub hl [1, 2, 0] rfl)
      intro J12 hL12 x2_2 m_draw_2 m_list_3 hf H locs ls ⟨hP, hD, hS⟩ hl
      refine lv_iload_n hx hb dX10_makeList_66 rfl (lv_at hl 2 rfl) ?_
      refine lv_if_le (tgt := 112) hx hb dX10_makeList_67 (by decide) (fun c13 => ?_) (fun c13 => ?_)
      · have hf := qob_t hf c13
        have hf := qob_esc hf
        exact hJ11 m_draw_2 m_list_3 hf _ _ _ ⟨hP, hD, hS⟩ (lv_sub hl [0, 1] rfl)
      · have hf := qob_f hf c13
        refine lv_aload_n hx hb dX10_makeList_70 rfl (lv_at hl 0 rfl) ?_
        refine lv_iload_n hx hb dX10_makeList_71 rfl (lv_at hl 2 rfl) ?_
        refine lv_iconst (v := 1) hx hb dX10_makeList_72 (by decide) ?_
        refine lv_iadd hx hb dX10_makeList_73 ?_
        obtain ⟨r_2, m_draw_3, q14, hf⟩ := qcall2 hf
        refine ctV_i (r := r_2) (wc := [oX10 mo ma m_thrown m_textSize m_rows m_columns m_a m_b m_readRows m_readColumns m_at m_looks m_came m_draw_2 m_turnedRows m_turnedColumns]) (w1 := [oX10 mo ma m_thrown m_textSize m_rows m_columns m_a m_b m_readRows m_readColumns m_at m_looks m_came m_draw_3 m_turnedRows m_turnedColumns]) (wr := [aZ cy (ma 1) 36 m_right, aZ cy (ma 2) 36 m_down, aI cy (ma 7) 36 m_dist, aI cy (ma 8) 36 m_queue, aZ cy (ma 10) 36 m_shut, aI cy (ma 11) 36 m_parts, aI cy (ma 18) 60 m_list_3]) (wn := [oX10 mo ma m_thrown m_textSize m_rows m_columns m_a m_b m_readRows m_readColumns m_at m_looks m_came m_draw_3 m_turnedRows m_turnedColumns, aZ cy (ma 1) 36 m_right, aZ cy (ma 2) 36 m_down, aI cy (ma 7) 36 m_dist, aI cy (ma 8) 36 m_queue, aZ cy (ma 10) 36 m_shut, aI cy (ma 11) 36 m_parts, aI cy (ma 18) 60 m_list_3]) (As := [.int (x2_2 + 1)]) (rest := []) (q0 := 0) X hK hP hD hS [0] [1, 2, 3, 4, 5, 6, 7] [7, 0, 1, 2, 3, 4, 5, 6] rfl rfl rfl rfl rfl (by decide) rfl rfl rfl (KX10_next q14 _) (cwV 1 hts gX10_makeList_X10_next rfl rfl rfl hdX10_next ⟨Nat.le_of_ble_eq_true rfl, Nat.le_of_ble_eq_true rfl⟩) rfl rfl rfl hl rfl (Nat.le_of_ble_eq_true rfl) dX10_makeList_74 (Nat.zero_le _) (Nat.zero_le _) (fun H locs hP hD hS => ?_)
        refine lv_istore_n (lv' := [(3, .int r_2), (0, .ref mo), (1, .int x1_1), (2, .int x2_2)]) hx hb dX10_makeList_77 rfl hl (by decide) rfl (fun ls hl => ?_)
        refine lv_aload_n hx hb dX10_makeList_78 rfl (lv_at hl 1 rfl) ?_
        refine va_get (D := D) (ci := 10) (v := .ref (ma 18)) (C := RX10) (T := TX10) (N := 34) hx hb hts inwX10_makeList_X10 hown hK hP 0 rfl rfl 30 (by decide) (hts (.fieldLink RX10 73 "HedgeWaysModel" "list" "[I") (List.mem_of_getElem? (i := 1) rfl)) (fun _ h9 => h9) rfl dX10_makeList_79 ?_
        refine lv_iload_n hx hb dX10_makeList_82 rfl (lv_at hl 3 rfl) ?_
        obtain ⟨i15, hf⟩ := qob_gd hf
        refine va_iald hx hb hK hP 7 0 rfl rfl i15 dX10_makeList_83 ?_
        refine lv_istore (lv' := [(4, .int (m_list_3 x2_2.toNatClampNeg)), (3, .int r_2), (0, .ref mo), (1, .int x1_1), (2, .int x2_2)]) hx hb dX10_makeList_84 hl (by decide) rfl (fun ls hl => ?_)
        refine lv_aload_n hx hb dX10_makeList_86 rfl (lv_at hl 2 rfl) ?_
        refine va_get (D := D) (ci := 10) (v := .ref (ma 18)) (C := RX10) (T := TX10) (N := 34) hx hb hts inwX10_makeList_X10 hown hK hP 0 rfl rfl 30 (by decide) (hts (.fieldLink RX10 73 "HedgeWaysModel" "list" "[I") (List.mem_of_getElem? (i := 1) rfl)) (fun _ h9 => h9) rfl dX10_makeList_87 ?_
        refine lv_iload_n hx hb dX10_makeList_90 rfl (lv_at hl 4 rfl) ?_
        refine lv_aload_n hx hb dX10_makeList_91 rfl (lv_at hl 2 rfl) ?_
        refine va_get (D := D) (ci := 10) (v := .ref (ma 18)) (C := RX10) (T := TX10) (N := 34) hx hb hts inwX10_makeList_X10 hown hK hP 0 rfl rfl 30 (by decide) (hts (.fieldLink RX10 73 "HedgeWaysModel" "list" "[I") (List.mem_of_getElem? (i := 1) rfl)) (fun _ h9 => h9) rfl dX10_makeList_92 ?_
        refine lv_iload_n hx hb dX10_makeList_95 rfl (lv_at hl 1 rfl) ?_
        obtain ⟨i16, hf⟩ := qob_gd hf
        refine va_iald hx hb hK hP 7 0 rfl rfl i16 dX10_makeList_96 ?_
        obtain ⟨i17, hf⟩ := qob_gd hf
        obtain ⟨m_list_4, e18⟩ : ∃ z, z = (upd m_list_3 x2_2.toNatClampNeg (m_list_3 r_2.toNatClampNeg)) := ⟨_, rfl⟩
        have hf := qob_bd hf e18
        refine va_iast hx hb hK hP hD hS 7 0 rfl rfl i17 dX10_makeList_97 (fun H locs hP hD hS => ?_)
        have hP : va_P D vwCl ([oX10 mo ma m_thrown m_textSize m_rows m_columns m_a m_b m_readRows m_readColumns m_at m_looks m_came m_draw_3 m_turnedRows m_turnedColumns, aZ cy (ma 1) 36 m_right, aZ cy (ma 2) 36 m_down, aI cy (ma 7) 36 m_dist, aI cy (ma 8) 36 m_queue, aZ cy (ma 10) 36 m_shut, aI cy (ma 11) 36 m_parts, aI cy (ma 18) 60 m_list_4]) H := by rw [e18]; exact hP
        have hD : va_D A ([oX10 mo ma m_thrown m_textSize m_rows m_columns m_a m_b m_readRows m_readColumns m_at m_looks m_came m_draw_3 m_turnedRows m_turnedColumns, aZ cy (ma 1) 36 m_right, aZ cy (ma 2) 36 m_down, aI cy (ma 7) 36 m_dist, aI cy (ma 8) 36 m_queue, aZ cy (ma 10) 36 m_shut, aI cy (ma 11) 36 m_parts, aI cy (ma 18) 60 m_list_4]) := by rw [e18]; exact hD
        refine lv_aload_n hx hb dX10_makeList_98 rfl (lv_at hl 2 rfl) ?_
        refine va_get (D := D) (ci := 10) (v := .ref (ma 18)) (C := RX10) (T := TX10) (N := 34) hx hb hts inwX10_makeList_X10 hown hK hP 0 rfl rfl 30 (by decide) (hts (.fieldLink RX10 73 "HedgeWaysModel" "list" "[I") (List.mem_of_getElem? (i := 1) rfl)) (fun _ h9 => h9) rfl dX10_makeList_99 ?_
        refine lv_iload_n hx hb dX10_makeList_102 rfl (lv_at hl 1 rfl) ?_
        refine lv_iload hx hb dX10_makeList_103 (lv_at hl 0 rfl) ?_
        obtain ⟨i19, hf⟩ := qob_gd hf
        obtain ⟨m_list_5, e20⟩ : ∃ z, z = (upd m_list_4 r_2.toNatClampNeg (m_list_3 x2_2.toNatClampNeg)) := ⟨_, rfl⟩
        have hf := qob_bd hf e20
        refine va_iast hx hb hK hP hD hS 7 0 rfl rfl i19 dX10_makeList_105 (fun H locs hP hD hS => ?_)
        have hP : va_P D vwCl ([oX10 mo ma m_thrown m_textSize m_rows m_columns m_a m_b m_readRows m_readColumns m_at m_looks m_came m_draw_3 m_turnedRows m_turnedColumns, aZ cy (ma 1) 36 m_right, aZ cy (ma 2) 36 m_down, aI cy (ma 7) 36 m_dist, aI cy (ma 8) 36 m_queue, aZ cy (ma 10) 36 m_shut, aI cy (ma 11) 36 m_parts, aI cy (ma 18) 60 m_list_5]) H := by rw [e20]; exact hP
        have hD : va_D A ([oX10 mo ma m_thrown m_textSize m_rows m_columns m_a m_b m_readRows m_readColumns m_at m_looks m_came m_draw_3 m_turnedRows m_turnedColumns, aZ cy (ma 1) 36 m_right, aZ cy (ma 2) 36 m_down, aI cy (ma 7) 36 m_dist, aI cy (ma 8) 36 m_queue, aZ cy (ma 10) 36 m_shut, aI cy (ma 11) 36 m_parts, aI cy (ma 18) 60 m_list_5]) := by rw [e20]; exact hD
        refine lv_iinc (v := (x2_2 + (-1))) (lv' := [(2, .int (x2_2 + (-1))), (4, .int (m_list_3 x2_2.toNatClampNeg)), (3, .int r_2), (0, .ref mo), (1, .int x1_1)]) hx hb dX10_makeList_106 hl (k := 4) rfl rfl (by decide) rfl (fun ls hl => ?_)
        refine lv_goto (tgt := 66) hx hb dX10_makeList_109 (by decide) ?_
        exact hL12 (x2_2 + (-1)) m_draw_3 m_list_5 hf _ _ _ ⟨hP, hD, hS⟩ (lv_sub hl [3, 4, 0] rfl)
  · intro J21 hJ21 hf
    refine qwalk3 (fun (x1_2 : Int32) (x2_3 : Int32) (m_list_6 : Nat → Int32) => ∀ (H : Heap) (locs : List Loc) (ls : Array Slot), ctW D A s ([oX10 mo ma m_thrown m_textSize m_rows m_columns m_a m_b m_readRows m_readColumns m_at m_looks m_came m_draw m_turnedRows m_turnedColumns, aZ cy (ma 1) 36 m_right, aZ cy (ma 2) 36 m_down, aI cy (ma 7) 36 m_dist, aI cy (ma 8) 36 m_queue, aZ cy (ma 10) 36 m_shut, aI cy (ma 11) 36 m_parts, aI cy (ma 18) 60 m_list_6]) H locs → lv_has ls 5 [(0, .ref mo), (1, .int x1_2), (2, .int x2_3)] → W p l e rmX10_makeList s m args below meth c H locs 0 0 Q (F0 m 4 ls [])) ?_ _ (0 : Int32) (0 : Int32) m_list hf _ _ _ ⟨hP, hD, hS⟩ (lv_sub hl [2, 1, 0] rfl)
    intro J22 hL22 x1_2 x2_3 m_list_6 hf H locs ls ⟨hP, hD, hS⟩ hl
    refine lv_iload_n hx hb dX10_makeList_4 rfl (lv_at hl 2 rfl) ?_
    refine lv_bipush (v := 36) hx hb dX10_makeList_5 (by decide) ?_
    refine lv_icmp_ge (tgt := 62) hx hb dX10_makeList_7 (by decide) (fun c23 => ?_) (fun c23 => ?_)
    · have hf := qob_t hf c23
      have hf := qob_esc hf
      exact hJ21 x1_2 m_list_6 hf _ _ _ ⟨hP, hD, hS⟩ (lv_sub hl [0, 1] rfl)
    · have hf := qob_f hf c23
      refine lv_iconst (v := 1) hx hb dX10_makeList_10 (by decide) ?_
      refine lv_istore_n (lv' := [(3, .int 1), (0, .ref mo), (1, .int x1_2), (2, .int x2_3)]) hx hb dX10_makeList_11 rfl hl (by decide) rfl (fun ls hl => ?_)
      refine qjoin2 hf (fun (x1_3 : Int32) (m_list_7 : Nat → Int32) => ∀ (H : Heap) (locs : List Loc) (ls : Array Slot), ctW D A s ([oX10 mo ma m_thrown m_textSize m_rows m_columns m_a m_b m_readRows m_readColumns m_at m_looks m_came m_draw m_turnedRows m_turnedColumns, aZ cy (ma 1) 36 m_right, aZ cy (ma 2) 36 m_down, aI cy (ma 7) 36 m_dist, aI cy (ma 8) 36 m_queue, aZ cy (ma 10) 36 m_shut, aI cy (ma 11) 36 m_parts, aI cy (ma 18) 60 m_list_7]) H locs → lv_has ls 5 [(0, .ref mo), (1, .int x1_3), (2, .int x2_3)] → W p l e rmX10_makeList s m args below meth c H locs 0 0 Q (F0 m 56 ls [])) ?_ ?_
      · intro x1_3 m_list_7 hf H locs ls ⟨hP, hD, hS⟩ hl
        refine lv_iinc (v := (x2_3 + 1)) (lv' := [(2, .int (x2_3 + 1)), (0, .ref mo), (1, .int x1_3)]) hx hb dX10_makeList_56 hl (k := 2) rfl rfl (by decide) rfl (fun ls hl => ?_)
        refine lv_goto (tgt := 4) hx hb dX10_makeList_59 (by decide) ?_
        exact hL22 x1_3 (x2_3 + 1) m_list_7 hf _ _ _ ⟨hP, hD, hS⟩ (lv_sub hl [1, 2, 0] rfl)
      · intro J24 hJ24 hf
        refine qwalk3 (fun (x1_4 : Int32) (x3_1 : Int32) (m_list_8 : Nat → Int32) => ∀ (H : Heap) (locs : List Loc) (ls : Array Slot), ctW D A s ([oX10 mo ma m_thrown m_textSize m_rows m_columns m_a m_b m_readRows m_readColumns m_at m_looks m_came m_draw m_turnedRows m_turnedColumns, aZ cy (ma 1) 36 m_right, aZ cy (ma 2) 36 m_down, aI cy (ma 7) 36 m_dist, aI cy (ma 8) 36 m_queue, aZ cy (ma 10) 36 m_shut, aI cy (ma 11) 36 m_parts, aI cy (ma 18) 60 m_list_8]) H locs → lv_has ls 5 [(0, .ref mo), (1, .int x1_4), (2, .int x2_3), (3, .int x3_1)] → W p l e rmX10_makeList s m args below meth c H locs 0 0 Q (F0 m 12 ls [])) ?_ _ x1_2 (1 : Int32) m_list_6 hf _ _ _ ⟨hP, hD, hS⟩ (lv_sub hl [1, 2, 3, 0] rfl)
        intro J25 hL25 x1_4 x3_1 m_list_8 hf H locs ls ⟨hP, hD, hS⟩ hl
        refine lv_iload_n hx hb dX10_makeList_12 rfl (lv_at hl 3 rfl) ?_
        refine lv_iconst (v := 3) hx hb dX10_makeList_13 (by decide) ?_
        refine lv_icmp_ge (tgt := 56) hx hb dX10_makeList_14 (by decide) (fun c26 => ?_) (fun c26 => ?_)
        · have hf := qob_t hf c26
          have hf := qob_esc hf
          exact hJ24 x1_4 m_list_8 hf _ _ _ ⟨hP, hD, hS⟩ (lv_sub hl [0, 1, 2] rfl)
        · have hf := qob_f hf c26
          refine lv_aload_n hx hb dX10_makeList_17 rfl (lv_at hl 0 rfl) ?_
          refine lv_iload_n hx hb dX10_makeList_18 rfl (lv_at hl 2 rfl) ?_
          refine ctV_i0 (r := (fX10_isThere m_rows m_columns x2_3)) (wc := [oX10 mo ma m_thrown m_textSize m_rows m_columns m_a m_b m_readRows m_readColumns m_at m_looks m_came m_draw m_turnedRows m_turnedColumns]) (As := [.int x2_3]) (rest := []) (q0 := 0) X hK hP hD hS [0] rfl rfl rfl (KX10_isThere rfl _) (cwV 1 hts gX10_makeList_X10_isThere rfl rfl rfl hdX10_isThere ⟨Nat.le_of_ble_eq_true rfl, Nat.le_of_ble_eq_true rfl⟩) rfl rfl rfl hl rfl (Nat.le_of_ble_eq_true rfl) dX10_makeList_19 (Nat.zero_le _) (Nat.zero_le _) (fun H locs hP hS => ?_)
          refine lv_if_eq (tgt := 50) hx hb dX10_makeList_22 (by decide) (fun c27 => ?_) (fun c27 => ?_)
          · have hf := qob_t hf c27
            refine lv_iinc (v := (x3_1 + 1)) (lv' := [(3, .int (x3_1 + 1)), (0, .ref mo), (1, .int x1_4), (2, .int x2_3)]) hx hb dX10_makeList_50 hl (k := 3) rfl rfl (by decide) rfl (fun ls hl => ?_)
            refine lv_goto (tgt := 12) hx hb dX10_makeList_53 (by decide) ?_
            exact hL25 x1_4 (x3_1 + 1) m_list_8 hf _ _ _ ⟨hP, hD, hS⟩ (lv_sub hl [1, 2, 3, 0] rfl)
          · have hf := qob_f hf c27
            refine lv_aload_n hx hb dX10_makeList_25 rfl (lv_at hl 0 rfl) ?_
            refine lv_iload_n hx hb dX10_makeList_26 rfl (lv_at hl 2 rfl) ?_
            refine lv_iload_n hx hb dX10_makeList_27 rfl (lv_at hl 3 rfl) ?_
            refine ctV_i0 (r := (fX10_beside m_rows m_columns x2_3 x3_1)) (wc := [oX10 mo ma m_thrown m_textSize m_rows m_columns m_a m_b m_readRows m_readColumns m_at m_looks m_came m_draw m_turnedRows m_turnedColumns]) (As := [.int x2_3, .int x3_1]) (rest := []) (q0 := 0) X hK hP hD hS [0] rfl rfl rfl (KX10_beside rfl _) (cwV 2 hts gX10_makeList_X10_beside rfl rfl rfl hdX10_beside ⟨Nat.le_of_ble_eq_true rfl, Nat.le_of_ble_eq_true rfl⟩) rfl rfl rfl hl rfl (Nat.le_of_ble_eq_true rfl) dX10_makeList_28 (Nat.zero_le _) (Nat.zero_le _) (fun H locs hP hS => ?_)
            refine lv_bipush (v := (-9)) hx hb dX10_makeList_31 (by decide) ?_
            refine lv_icmp_eq (tgt := 50) hx hb dX10_makeList_33 (by decide) (fun c28 => ?_) (fun c28 => ?_)
            · have hf := qob_t hf c28
              refine lv_iinc (v := (x3_1 + 1)) (lv' := [(3, .int (x3_1 + 1)), (0, .ref mo), (1, .int x1_4), (2, .int x2_3)]) hx hb dX10_makeList_50 hl (k := 3) rfl rfl (by decide) rfl (fun ls hl => ?_)
              refine lv_goto (tgt := 12) hx hb dX10_makeList_53 (by decide) ?_
              exact hL25 x1_4 (x3_1 + 1) m_list_8 hf _ _ _ ⟨hP, hD, hS⟩ (lv_sub hl [1, 2, 3, 0] rfl)
            · have hf := qob_f hf c28
              refine lv_aload_n hx hb dX10_makeList_36 rfl (lv_at hl 0 rfl) ?_
              refine va_get (D := D) (ci := 10) (v := .ref (ma 18)) (C := RX10) (T := TX10) (N := 34) hx hb hts inwX10_makeList_X10 hown hK hP 0 rfl rfl 30 (by decide) (hts (.fieldLink RX10 73 "HedgeWaysModel" "list" "[I") (List.mem_of_getElem? (i := 1) rfl)) (fun _ h9 => h9) rfl dX10_makeList_37 ?_
              refine lv_iload_n hx hb dX10_makeList_40 rfl (lv_at hl 1 rfl) ?_
              refine lv_iconst (v := 4) hx hb dX10_makeList_41 (by decide) ?_
              refine lv_iload_n hx hb dX10_makeList_42 rfl (lv_at hl 2 rfl) ?_
              refine lv_imul hx hb dX10_makeList_43 ?_
              refine lv_iload_n hx hb dX10_makeList_44 rfl (lv_at hl 3 rfl) ?_
              refine lv_iadd hx hb dX10_makeList_45 ?_
              obtain ⟨i29, hf⟩ := qob_gd hf
              refine va_iast hx hb hK hP hD hS 7 0 rfl rfl i29 dX10_makeList_46 (fun H locs hP hD hS => ?_)
              have hP : va_P D vwCl ([oX10 mo ma m_thrown m_textSize m_rows m_columns m_a m_b m_readRows m_readColumns m_at m_looks m_came m_draw m_turnedRows m_turnedColumns, aZ cy (ma 1) 36 m_right, aZ cy (ma 2) 36 m_down, aI cy (ma 7) 36 m_dist, aI cy (ma 8) 36 m_queue, aZ cy (ma 10) 36 m_shut, aI cy (ma 11) 36 m_parts, aI cy (ma 18) 60 (upd m_list_8 x1_4.toNatClampNeg ((4 * x2_3) + x3_1))]) H := hP
              have hD : va_D A ([oX10 mo ma m_thrown m_textSize m_rows m_columns m_a m_b m_readRows m_readColumns m_at m_looks m_came m_draw m_turnedRows m_turnedColumns, aZ cy (ma 1) 36 m_right, aZ cy (ma 2) 36 m_down, aI cy (ma 7) 36 m_dist, aI cy (ma 8) 36 m_queue, aZ cy (ma 10) 36 m_shut, aI cy (ma 11) 36 m_parts, aI cy (ma 18) 60 (upd m_list_8 x1_4.toNatClampNeg ((4 * x2_3) + x3_1))]) := hD
              refine lv_iinc (v := (x1_4 + 1)) (lv' := [(1, .int (x1_4 + 1)), (0, .ref mo), (2, .int x2_3), (3, .int x3_1)]) hx hb dX10_makeList_47 hl (k := 1) rfl rfl (by decide) rfl (fun ls hl => ?_)
              refine lv_iinc (v := (x3_1 + 1)) (lv' := [(3, .int (x3_1 + 1)), (1, .int (x1_4 + 1)), (0, .ref mo), (2, .int x2_3)]) hx hb dX10_makeList_50 hl (k := 3) rfl rfl (by decide) rfl (fun ls hl => ?_)
              refine lv_goto (tgt := 12) hx hb dX10_makeList_53 (by decide) ?_
              exact hL25 (x1_4 + 1) (x3_1 + 1) (upd m_list_8 x1_4.toNatClampNeg ((4 * x2_3) + x3_1)) hf _ _ _ ⟨hP, hD, hS⟩ (lv_sub hl [2, 1, 3, 0] rfl)
theorem inwX10_freshSides_X10 : ∀ w ∈ wsX100, w ∈ wsX10_freshSides := fun _ h => List.mem_cons_of_mem _ (List.mem_append_right _ h)
abbrev rmX10_freshSides : Room := { frames := 2, cells := 0, slots := 0, locals := 49 }
theorem hdX10_freshSides : yX10_freshSides.cls = RX10 ∧ yX10_freshSides.cls ≠ "java/lang/invoke/MethodHandle" ∧ yX10_freshSides.cls ≠ "java/lang/invoke/VarHandle" ∧ (parseMethodDescriptor yX10_freshSides.desc).map (fun d => d.parameters.length) = some 1 := by decide +kernel
set_option maxHeartbeats 4000000 in
set_option maxRecDepth 100000 in
theorem KX10_freshSides {l : Launch} {D : va_G} {cy : Nat → ClassId} {mo : Nat} {ma : Nat → Nat} {m_thrown : Int32} {m_textSize : Int32} {m_rows : Int32} {m_columns : Int32} {m_a : Int32} {m_b : Int32} {m_readRows : Int32} {m_readColumns : Int32} {m_at : Int32} {m_looks : Int32} {m_came : Int32} {m_draw : Int64} {m_turnedRows : Int32} {m_turnedColumns : Int32} {m_was : Nat → Int32} {p1 : Int32} {r : Int32} (hf : fX10_freshSides m_rows m_columns m_was p1 = some r) : CtI l yX10_freshSides wsX10_freshSides rmX10_freshSides D cy [.ref mo, .int p1] ([oX10 mo ma m_thrown m_textSize m_rows m_columns m_a m_b m_readRows m_readColumns m_at m_looks m_came m_draw m_turnedRows m_turnedColumns, aZ cy (ma 13) 36 m_was]) ([oX10 mo ma m_thrown m_textSize m_rows m_columns m_a m_b m_readRows m_readColumns m_at m_looks m_came m_draw m_turnedRows m_turnedColumns, aZ cy (ma 13) 36 m_was]) r := by
  refine CtI.of (cc := cX10_freshSides) (maxL := 4) (ret := some .int) (own := RX10) (by decide) rfl rfl (Nat.le_of_ble_eq_true rfl) ?_
  intro p e s m args below meth c A Q X hQ hK hP hD hS ls hl
  obtain ⟨hx, hb, hml, hown, hts, hr, hlocks, hA, hZ⟩ := id X
  have hl : lv_has ls 4 [(0, .ref mo), (1, .int p1)] := hl
  unfold fX10_freshSides at hf
  have hf := qob_top hf
  refine lv_iconst (v := 0) hx hb dX10_freshSides_0 (by decide) ?_
  refine lv_istore_n (lv' := [(2, .int 0), (0, .ref mo), (1, .int p1)]) hx hb dX10_freshSides_1 rfl hl (by decide) rfl (fun ls hl => ?_)
  refine lv_iconst (v := 0) hx hb dX10_freshSides_2 (by decide) ?_
  refine lv_istore_n (lv' := [(3, .int 0), (2, .int 0), (0, .ref mo), (1, .int p1)]) hx hb dX10_freshSides_3 rfl hl (by decide) rfl (fun ls hl => ?_)
  refine qjoin1 hf (fun (x2_1 : Int32) => ∀ (H : Heap) (locs : List Loc) (ls : Array Slot), ctW D A s ([oX10 mo ma m_thrown m_textSize m_rows m_columns m_a m_b m_readRows m_readColumns m_at m_looks m_came m_draw m_turnedRows m_turnedColumns, aZ cy (ma 13) 36 m_was]) H locs → lv_has ls 4 [(2, .int x2_1)] → W p l e rmX10_freshSides s m args below meth c H locs 0 0 Q (F0 m 48 ls [])) ?_ ?_
  · intro x2_1 hf H locs ls ⟨hP, hD, hS⟩ hl
    refine lv_iload_n hx hb dX10_freshSides_48 rfl (lv_at hl 0 rfl) ?_
    cases qob_ret hf
    exact ct_iret X hQ hK hP hD hS rfl dX10_freshSides_49
  · intro J1 hJ1 hf
    refine qwalk2 (fun (x2_2 : Int32) (x3_1 : Int32) => ∀ (H : Heap) (locs : List Loc) (ls : Array Slot), ctW D A s ([oX10 mo ma m_thrown m_textSize m_rows m_columns m_a m_b m_readRows m_readColumns m_at m_looks m_came m_draw m_turnedRows m_turnedColumns, aZ cy (ma 13) 36 m_was]) H locs → lv_has ls 4 [(0, .ref mo), (1, .int p1), (2, .int x2_2), (3, .int x3_1)] → W p l e rmX10_freshSides s m args below meth c H locs 0 0 Q (F0 m 4 ls [])) ?_ _ (0 : Int32) (0 : Int32) hf _ _ _ ⟨hP, hD, hS⟩ (lv_sub hl [2, 3, 1, 0] rfl)
    intro J2 hL2 x2_2 x3_1 hf H locs ls ⟨hP, hD, hS⟩ hl
    refine lv_iload_n hx hb dX10_freshSides_4 rfl (lv_at hl 3 rfl) ?_
    refine lv_iconst (v := 4) hx hb dX10_freshSides_5 (by decide) ?_
    refine lv_icmp_ge (tgt := 48) hx hb dX10_freshSides_6 (by decide) (fun c3 => ?_) (fun c3 => ?_)
    · have hf := qob_t hf c3
      have hf := qob_esc hf
      exact hJ1 x2_2 hf _ _ _ ⟨hP, hD, hS⟩ (lv_sub hl [2] rfl)
    · have hf := qob_f hf c3
      refine lv_iload_n hx hb dX10_freshSides_9 rfl (lv_at hl 2 rfl) ?_
      refine lv_aload_n hx hb dX10_freshSides_10 rfl (lv_at hl 0 rfl) ?_
      refine lv_iload_n hx hb dX10_freshSides_11 rfl (lv_at hl 1 rfl) ?_
      refine lv_iload_n hx hb dX10_freshSides_12 rfl (lv_at hl 3 rfl) ?_
      refine ctV_i0 (r := (fX10_beside m_rows m_columns p1 x3_1)) (wc := [oX10 mo ma m_thrown m_textSize m_rows m_columns m_a m_b m_readRows m_readColumns m_at m_looks m_came m_draw m_turnedRows m_turnedColumns]) (As := [.int p1, .int x3_1]) (rest := [.int x2_2]) (q0 := 0) X hK hP hD hS [0] rfl rfl rfl (KX10_beside rfl _) (cwV 2 hts gX10_freshSides_X10_beside rfl rfl rfl hdX10_beside ⟨Nat.le_of_ble_eq_true rfl, Nat.le_of_ble_eq_true rfl⟩) rfl rfl rfl hl rfl (Nat.le_of_ble_eq_true rfl) dX10_freshSides_13 (Nat.zero_le _) (Nat.zero_le _) (fun H locs hP hS => ?_)
      refine lv_bipush (v := (-9)) hx hb dX10_freshSides_16 (by decide) ?_
      refine qjoin1 hf (fun (s_1 : Int32) => ∀ (H : Heap) (locs : List Loc) (ls : Array Slot), ctW D A s ([oX10 mo ma m_thrown m_textSize m_rows m_columns m_a m_b m_readRows m_readColumns m_at m_looks m_came m_draw m_turnedRows m_turnedColumns, aZ cy (ma 13) 36 m_was]) H locs → lv_has ls 4 [(0, .ref mo), (1, .int p1), (3, .int x3_1)] → W p l e rmX10_freshSides s m args below meth c H locs 0 0 Q (F0 m 40 ls [.int s_1, .int x2_2])) ?_ ?_
      · intro s_1 hf H locs ls ⟨hP, hD, hS⟩ hl
        refine lv_iadd hx hb dX10_freshSides_40 ?_
        refine lv_istore_n (lv' := [(2, .int (x2_2 + s_1)), (0, .ref mo), (1, .int p1), (3, .int x3_1)]) hx hb dX10_freshSides_41 rfl hl (by decide) rfl (fun ls hl => ?_)
        refine lv_iinc (v := (x3_1 + 1)) (lv' := [(3, .int (x3_1 + 1)), (2, .int (x2_2 + s_1)), (0, .ref mo), (1, .int p1)]) hx hb dX10_freshSides_42 hl (k := 3) rfl rfl (by decide) rfl (fun ls hl => ?_)
        refine lv_goto (tgt := 4) hx hb dX10_freshSides_45 (by decide) ?_
        exact hL2 (x2_2 + s_1) (x3_1 + 1) hf _ _ _ ⟨hP, hD, hS⟩ (lv_sub hl [2, 3, 1, 0] rfl)
      · intro J4 hJ4 hf
        refine lv_icmp_eq (tgt := 39) hx hb dX10_freshSides_18 (by decide) (fun c5 => ?_) (fun c5 => ?_)
        · have hf := qob_t hf c5
          refine lv_iconst (v := 0) hx hb dX10_freshSides_39 (by decide) ?_
          exact hJ4 0 hf _ _ _ ⟨hP, hD, hS⟩ (lv_sub hl [0, 1, 3] rfl)
        · have hf := qob_f hf c5
          refine lv_aload_n hx hb dX10_freshSides_21 rfl (lv_at hl 0 rfl) ?_
          refine va_get (D := D) (ci := 10) (v := .ref (ma 13)) (C := RX10) (T := TX10) (N := 34) hx hb hts inwX10_freshSides_X10 hown hK hP 0 rfl rfl 24 (by decide) (hts (.fieldLink RX10 58 "HedgeWaysModel" "was" "[Z") (List.mem_of_getElem? (i := 1) rfl)) (fun _ h9 => h9) rfl dX10_freshSides_22 ?_
          refine lv_aload_n hx hb dX10_freshSides_25 rfl (lv_at hl 0 rfl) ?_
          refine lv_iload_n hx hb dX10_freshSides_26 rfl (lv_at hl 1 rfl) ?_
          refine lv_iload_n hx hb dX10_freshSides_27 rfl (lv_at hl 3 rfl) ?_
          refine ctV_i0 (r := (fX10_beside m_rows m_columns p1 x3_1)) (wc := [oX10 mo ma m_thrown m_textSize m_rows m_columns m_a m_b m_readRows m_readColumns m_at m_looks m_came m_draw m_turnedRows m_turnedColumns]) (As := [.int p1, .int x3_1]) (rest := [.ref (ma 13), .int x2_2]) (q0 := 0) X hK hP hD hS [0] rfl rfl rfl (KX10_beside rfl _) (cwV 2 hts gX10_freshSides_X10_beside rfl rfl rfl hdX10_beside ⟨Nat.le_of_ble_eq_true rfl, Nat.le_of_ble_eq_true rfl⟩) rfl rfl rfl hl rfl (Nat.le_of_ble_eq_true rfl) dX10_freshSides_28 (Nat.zero_le _) (Nat.zero_le _) (fun H locs hP hS => ?_)
          obtain ⟨i6, hf⟩ := qob_gd hf
          refine va_zald hx hb hK hP 1 2 rfl rfl i6 dX10_freshSides_31 ?_
          refine lv_if_ne (tgt := 39) hx hb dX10_freshSides_32 (by decide) (fun c7 => ?_) (fun c7 => ?_)
          · have hf := qob_f hf c7
            refine lv_iconst (v := 0) hx hb dX10_freshSides_39 (by decide) ?_
            exact hJ4 0 hf _ _ _ ⟨hP, hD, hS⟩ (lv_sub hl [0, 1, 3] rfl)
          · have hf := qob_t hf c7
            refine lv_iconst (v := 1) hx hb dX10_freshSides_35 (by decide) ?_
            refine lv_goto (tgt := 40) hx hb dX10_freshSides_36 (by decide) ?_
            exact hJ4 1 hf _ _ _ ⟨hP, hD, hS⟩ (lv_sub hl [0, 1, 3] rfl)
theorem inwX10_makePath_X10 : ∀ w ∈ wsX100, w ∈ wsX10_makePath := fun _ h => List.mem_cons_of_mem _ (List.mem_append_right _ h)
abbrev rmX10_makePath : Room := { frames := 3, cells := 0, slots := 0, locals := 73 }
theorem hdX10_makePath : yX10_makePath.cls = RX10 ∧ yX10_makePath.cls ≠ "java/lang/invoke/MethodHandle" ∧ yX10_makePath.cls ≠ "java/lang/invoke/VarHandle" ∧ (parseMethodDescriptor yX10_makePath.desc).map (fun d => d.parameters.length) = some 0 := by decide +kernel
set_option maxHeartbeats 4000000 in
set_option maxRecDepth 100000 in
theorem KX10_makePath {l : Launch} {D : va_G} {cy : Nat → ClassId} {mo : Nat} {ma : Nat → Nat} {m_thrown : Int32} {m_textSize : Int32} {m_rows : Int32} {m_columns : Int32} {m_a : Int32} {m_b : Int32} {m_readRows : Int32} {m_readColumns : Int32} {m_at : Int32} {m_looks : Int32} {m_came : Int32} {m_draw : Int64} {m_turnedRows : Int32} {m_turnedColumns : Int32} {m_right : Nat → Int32} {m_down : Nat → Int32} {m_back : Nat → Int32} {m_was : Nat → Int32}  {m_draw' : Int64} {m_right' : Nat → Int32} {m_down' : Nat → Int32} {m_back' : Nat → Int32} {m_was' : Nat → Int32} (hf : fX10_makePath m_rows m_columns m_draw m_right m_down m_back m_was = some (m_draw', m_right', m_down', m_back', m_was')) : CtV l yX10_makePath wsX10_makePath rmX10_makePath D cy [.ref mo] ([oX10 mo ma m_thrown m_textSize m_rows m_columns m_a m_b m_readRows m_readColumns m_at m_looks m_came m_draw m_turnedRows m_turnedColumns, aZ cy (ma 1) 36 m_right, aZ cy (ma 2) 36 m_down, aI cy (ma 12) 36 m_back, aZ cy (ma 13) 36 m_was]) ([oX10 mo ma m_thrown m_textSize m_rows m_columns m_a m_b m_readRows m_readColumns m_at m_looks m_came m_draw' m_turnedRows m_turnedColumns, aZ cy (ma 1) 36 m_right', aZ cy (ma 2) 36 m_down', aI cy (ma 12) 36 m_back', aZ cy (ma 13) 36 m_was']) := by
  refine CtV.of (cc := cX10_makePath) (maxL := 6) (ret := none) (own := RX10) (by decide) rfl rfl (Nat.le_of_ble_eq_true rfl) ?_
  intro p e s m args below meth c A Q X hQ hK hP hD hS ls hl
  obtain ⟨hx, hb, hml, hown, hts, hr, hlocks, hA, hZ⟩ := id X
  have hl : lv_has ls 6 [(0, .ref mo)] := hl
  unfold fX10_makePath at hf
  have hf := qob_top hf
  refine lv_iconst (v := 0) hx hb dX10_makePath_0 (by decide) ?_
  refine lv_istore_n (lv' := [(1, .int 0), (0, .ref mo)]) hx hb dX10_makePath_1 rfl hl (by decide) rfl (fun ls hl => ?_)
  refine qjoin1 hf (fun (m_was_1 : Nat → Int32) => ∀ (H : Heap) (locs : List Loc) (ls : Array Slot), ctW D A s ([oX10 mo ma m_thrown m_textSize m_rows m_columns m_a m_b m_readRows m_readColumns m_at m_looks m_came m_draw m_turnedRows m_turnedColumns, aZ cy (ma 1) 36 m_right, aZ cy (ma 2) 36 m_down, aI cy (ma 12) 36 m_back, aZ cy (ma 13) 36 m_was_1]) H locs → lv_has ls 6 [(0, .ref mo)] → W p l e rmX10_makePath s m args below meth c H locs 0 0 Q (F0 m 21 ls [])) ?_ ?_
  · intro m_was_1 hf H locs ls ⟨hP, hD, hS⟩ hl
    refine lv_iconst (v := 0) hx hb dX10_makePath_21 (by decide) ?_
    refine lv_istore_n (lv' := [(1, .int 0), (0, .ref mo)]) hx hb dX10_makePath_22 rfl hl (by decide) rfl (fun ls hl => ?_)
    refine lv_aload_n hx hb dX10_makePath_23 rfl (lv_at hl 1 rfl) ?_
    refine va_get (D := D) (ci := 10) (v := .ref (ma 13)) (C := RX10) (T := TX10) (N := 34) hx hb hts inwX10_makePath_X10 hown hK hP 0 rfl rfl 24 (by decide) (hts (.fieldLink RX10 58 "HedgeWaysModel" "was" "[Z") (List.mem_of_getElem? (i := 1) rfl)) (fun _ h9 => h9) rfl dX10_makePath_24 ?_
    refine lv_iconst (v := 0) hx hb dX10_makePath_27 (by decide) ?_
    refine lv_iconst (v := 1) hx hb dX10_makePath_28 (by decide) ?_
    obtain ⟨i1, hf⟩ := qob_gd hf
    refine va_zast hx hb hK hP hD hS 4 2 rfl rfl i1 dX10_makePath_29 (fun H locs hP hD hS => ?_)
    have hP : va_P D vwCl ([oX10 mo ma m_thrown m_textSize m_rows m_columns m_a m_b m_readRows m_readColumns m_at m_looks m_came m_draw m_turnedRows m_turnedColumns, aZ cy (ma 1) 36 m_right, aZ cy (ma 2) 36 m_down, aI cy (ma 12) 36 m_back, aZ cy (ma 13) 36 (upd m_was_1 (0 : Int32).toNatClampNeg (qnb 1))]) H := hP
    have hD : va_D A ([oX10 mo ma m_thrown m_textSize m_rows m_columns m_a m_b m_readRows m_readColumns m_at m_looks m_came m_draw m_turnedRows m_turnedColumns, aZ cy (ma 1) 36 m_right, aZ cy (ma 2) 36 m_down, aI cy (ma 12) 36 m_back, aZ cy (ma 13) 36 (upd m_was_1 (0 : Int32).toNatClampNeg (qnb 1))]) := hD
    refine lv_aload_n hx hb dX10_makePath_30 rfl (lv_at hl 1 rfl) ?_
    refine va_get (D := D) (ci := 10) (v := .ref (ma 12)) (C := RX10) (T := TX10) (N := 34) hx hb hts inwX10_makePath_X10 hown hK hP 0 rfl rfl 23 (by decide) (hts (.fieldLink RX10 55 "HedgeWaysModel" "back" "[I") (List.mem_of_getElem? (i := 2) rfl)) (fun _ h9 => h9) rfl dX10_makePath_31 ?_
    refine lv_iconst (v := 0) hx hb dX10_makePath_34 (by decide) ?_
    refine lv_bipush (v := (-9)) hx hb dX10_makePath_35 (by decide) ?_
    obtain ⟨i2, hf⟩ := qob_gd hf
    refine va_iast hx hb hK hP hD hS 3 0 rfl rfl i2 dX10_makePath_37 (fun H locs hP hD hS => ?_)
    have hP : va_P D vwCl ([oX10 mo ma m_thrown m_textSize m_rows m_columns m_a m_b m_readRows m_readColumns m_at m_looks m_came m_draw m_turnedRows m_turnedColumns, aZ cy (ma 1) 36 m_right, aZ cy (ma 2) 36 m_down, aI cy (ma 12) 36 (upd m_back (0 : Int32).toNatClampNeg (-9)), aZ cy (ma 13) 36 (upd m_was_1 (0 : Int32).toNatClampNeg (qnb 1))]) H := hP
    have hD : va_D A ([oX10 mo ma m_thrown m_textSize m_rows m_columns m_a m_b m_readRows m_readColumns m_at m_looks m_came m_draw m_turnedRows m_turnedColumns, aZ cy (ma 1) 36 m_right, aZ cy (ma 2) 36 m_down, aI cy (ma 12) 36 (upd m_back (0 : Int32).toNatClampNeg (-9)), aZ cy (ma 13) 36 (upd m_was_1 (0 : Int32).toNatClampNeg (qnb 1))]) := hD
    refine qjoin5 hf (fun (m_draw_1 : Int64) (m_right_1 : Nat → Int32) (m_down_1 : Nat → Int32) (m_back_1 : Nat → Int32) (m_was_2 : Nat → Int32) => ∀ (H : Heap) (locs : List Loc) (ls : Array Slot), ctW D A s ([oX10 mo ma m_thrown m_textSize m_rows m_columns m_a m_b m_readRows m_readColumns m_at m_looks m_came m_draw_1 m_turnedRows m_turnedColumns, aZ cy (ma 1) 36 m_right_1, aZ cy (ma 2) 36 m_down_1, aI cy (ma 12) 36 m_back_1, aZ cy (ma 13) 36 m_was_2]) H locs → lv_has ls 6 [] → W p l e rmX10_makePath s m args below meth c H locs 0 0 Q (F0 m 184 ls [])) ?_ ?_
    · intro m_draw_1 m_right_1 m_down_1 m_back_1 m_was_2 hf H locs ls ⟨hP, hD, hS⟩ hl
      cases qob_ret hf
      exact ct_vret X hQ hK hP hD hS dX10_makePath_184
    · intro J3 hJ3 hf
      refine qwalk6 (fun (x1_1 : Int32) (m_draw_2 : Int64) (m_right_2 : Nat → Int32) (m_down_2 : Nat → Int32) (m_back_2 : Nat → Int32) (m_was_3 : Nat → Int32) => ∀ (H : Heap) (locs : List Loc) (ls : Array Slot), ctW D A s ([oX10 mo ma m_thrown m_textSize m_rows m_columns m_a m_b m_readRows m_readColumns m_at m_looks m_came m_draw_2 m_turnedRows m_turnedColumns, aZ cy (ma 1) 36 m_right_2, aZ cy (ma 2) 36 m_down_2, aI cy (ma 12) 36 m_back_2, aZ cy (ma 13) 36 m_was_3]) H locs → lv_has ls 6 [(0, .ref mo), (1, .int x1_1)] → W p l e rmX10_makePath s m args below meth c H locs 0 0 Q (F0 m 38 ls [])) ?_ _ (0 : Int32) m_draw m_right m_down (upd m_back (0 : Int32).toNatClampNeg (-9)) (upd m_was_1 (0 : Int32).toNatClampNeg (qnb 1)) hf _ _ _ ⟨hP, hD, hS⟩ (lv_sub hl [1, 0] rfl)
      intro J4 hL4 x1_1 m_draw_2 m_right_2 m_down_2 m_back_2 m_was_3 hf H locs ls ⟨hP, hD, hS⟩ hl
      refine lv_iload_n hx hb dX10_makePath_38 rfl (lv_at hl 1 rfl) ?_
      refine lv_bipush (v := (-9)) hx hb dX10_makePath_39 (by decide) ?_
      refine lv_icmp_eq (tgt := 184) hx hb dX10_makePath_41 (by decide) (fun c5 => ?_) (fun c5 => ?_)
      · have hf := qob_t hf c5
        have hf := qob_esc hf
        exact hJ3 m_draw_2 m_right_2 m_down_2 m_back_2 m_was_3 hf _ _ _ ⟨hP, hD, hS⟩ (lv_sub hl [] rfl)
      · have hf := qob_f hf c5
        refine lv_aload_n hx hb dX10_makePath_44 rfl (lv_at hl 0 rfl) ?_
        refine lv_iload_n hx hb dX10_makePath_45 rfl (lv_at hl 1 rfl) ?_
        obtain ⟨r_1, q6, hf⟩ := qcall1 hf
        refine ctV_i0 (r := r_1) (wc := [oX10 mo ma m_thrown m_textSize m_rows m_columns m_a m_b m_readRows m_readColumns m_at m_looks m_came m_draw_2 m_turnedRows m_turnedColumns, aZ cy (ma 13) 36 m_was_3]) (As := [.int x1_1]) (rest := []) (q0 := 0) X hK hP hD hS [0, 4] rfl rfl rfl (KX10_freshSides q6 _) (cwV 1 hts gX10_makePath_X10_freshSides rfl rfl rfl hdX10_freshSides ⟨Nat.le_of_ble_eq_true rfl, Nat.le_of_ble_eq_true rfl⟩) rfl rfl rfl hl rfl (Nat.le_of_ble_eq_true rfl) dX10_makePath_46 (Nat.zero_le _) (Nat.zero_le _) (fun H locs hP hS => ?_)
        refine lv_istore_n (lv' := [(2, .int r_1), (0, .ref mo), (1, .int x1_1)]) hx hb dX10_makePath_49 rfl hl (by decide) rfl (fun ls hl => ?_)
        refine lv_iload_n hx hb dX10_makePath_50 rfl (lv_at hl 0 rfl) ?_
        refine lv_if_ne (tgt := 64) hx hb dX10_makePath_51 (by decide) (fun c7 => ?_) (fun c7 => ?_)
        · have hf := qob_f hf c7
          refine lv_aload_n hx hb dX10_makePath_64 rfl (lv_at hl 1 rfl) ?_
          refine lv_iload_n hx hb dX10_makePath_65 rfl (lv_at hl 0 rfl) ?_
          obtain ⟨r_2, m_draw_3, q8, hf⟩ := qcall2 hf
          refine ctV_i (r := r_2) (wc := [oX10 mo ma m_thrown m_textSize m_rows m_columns m_a m_b m_readRows m_readColumns m_at m_looks m_came m_draw_2 m_turnedRows m_turnedColumns]) (w1 := [oX10 mo ma m_thrown m_textSize m_rows m_columns m_a m_b m_readRows m_readColumns m_at m_looks m_came m_draw_3 m_turnedRows m_turnedColumns]) (wr := [aZ cy (ma 1) 36 m_right_2, aZ cy (ma 2) 36 m_down_2, aI cy (ma 12) 36 m_back_2, aZ cy (ma 13) 36 m_was_3]) (wn := [oX10 mo ma m_thrown m_textSize m_rows m_columns m_a m_b m_readRows m_readColumns m_at m_looks m_came m_draw_3 m_turnedRows m_turnedColumns, aZ cy (ma 1) 36 m_right_2, aZ cy (ma 2) 36 m_down_2, aI cy (ma 12) 36 m_back_2, aZ cy (ma 13) 36 m_was_3]) (As := [.int r_1]) (rest := []) (q0 := 0) X hK hP hD hS [0] [1, 2, 3, 4] [4, 0, 1, 2, 3] rfl rfl rfl rfl rfl (by decide) rfl rfl rfl (KX10_next q8 _) (cwV 1 hts gX10_makePath_X10_next rfl rfl rfl hdX10_next ⟨Nat.le_of_ble_eq_true rfl, Nat.le_of_ble_eq_true rfl⟩) rfl rfl rfl hl rfl (Nat.le_of_ble_eq_true rfl) dX10_makePath_66 (Nat.zero_le _) (Nat.zero_le _) (fun H locs hP hD hS => ?_)
          refine lv_istore_n (lv' := [(3, .int r_2), (2, .int r_1), (0, .ref mo), (1, .int x1_1)]) hx hb dX10_makePath_69 rfl hl (by decide) rfl (fun ls hl => ?_)
          refine lv_iconst (v := 0) hx hb dX10_makePath_70 (by decide) ?_
          refine lv_istore (lv' := [(4, .int 0), (3, .int r_2), (2, .int r_1), (0, .ref mo), (1, .int x1_1)]) hx hb dX10_makePath_71 hl (by decide) rfl (fun ls hl => ?_)
          refine qjoin1 hf (fun (x4_1 : Int32) => ∀ (H : Heap) (locs : List Loc) (ls : Array Slot), ctW D A s ([oX10 mo ma m_thrown m_textSize m_rows m_columns m_a m_b m_readRows m_readColumns m_at m_looks m_came m_draw_3 m_turnedRows m_turnedColumns, aZ cy (ma 1) 36 m_right_2, aZ cy (ma 2) 36 m_down_2, aI cy (ma 12) 36 m_back_2, aZ cy (ma 13) 36 m_was_3]) H locs → lv_has ls 6 [(0, .ref mo), (1, .int x1_1), (4, .int x4_1)] → W p l e rmX10_makePath s m args below meth c H locs 0 0 Q (F0 m 145 ls [])) ?_ ?_
          · intro x4_1 hf H locs ls ⟨hP, hD, hS⟩ hl
            refine lv_aload_n hx hb dX10_makePath_145 rfl (lv_at hl 0 rfl) ?_
            refine lv_iload_n hx hb dX10_makePath_146 rfl (lv_at hl 1 rfl) ?_
            refine lv_iload hx hb dX10_makePath_147 (lv_at hl 2 rfl) ?_
            refine lv_iconst (v := 1) hx hb dX10_makePath_149 (by decide) ?_
            obtain ⟨m_right_3, m_down_3, q9, hf⟩ := qcall2 hf
            refine ctV_v (wc := [oX10 mo ma m_thrown m_textSize m_rows m_columns m_a m_b m_readRows m_readColumns m_at m_looks m_came m_draw_3 m_turnedRows m_turnedColumns, aZ cy (ma 1) 36 m_right_2, aZ cy (ma 2) 36 m_down_2]) (w1 := [oX10 mo ma m_thrown m_textSize m_rows m_columns m_a m_b m_readRows m_readColumns m_at m_looks m_came m_draw_3 m_turnedRows m_turnedColumns, aZ cy (ma 1) 36 m_right_3, aZ cy (ma 2) 36 m_down_3]) (wr := [aI cy (ma 12) 36 m_back_2, aZ cy (ma 13) 36 m_was_3]) (wn := [oX10 mo ma m_thrown m_textSize m_rows m_columns m_a m_b m_readRows m_readColumns m_at m_looks m_came m_draw_3 m_turnedRows m_turnedColumns, aZ cy (ma 1) 36 m_right_3, aZ cy (ma 2) 36 m_down_3, aI cy (ma 12) 36 m_back_2, aZ cy (ma 13) 36 m_was_3]) (As := [.int x1_1, .int x4_1, .int 1]) (rest := []) (q0 := 0) X hK hP hD hS [0, 1, 2] [3, 4] [2, 3, 4, 0, 1] rfl rfl rfl rfl rfl (by decide) rfl rfl rfl (KX10_set q9 _) (cwV 3 hts gX10_makePath_X10_set rfl rfl rfl hdX10_set ⟨Nat.le_of_ble_eq_true rfl, Nat.le_of_ble_eq_true rfl⟩) rfl rfl rfl hl rfl (Nat.le_of_ble_eq_true rfl) dX10_makePath_150 (Nat.zero_le _) (Nat.zero_le _) (fun H locs hP hD hS => ?_)
            refine lv_aload_n hx hb dX10_makePath_153 rfl (lv_at hl 0 rfl) ?_
            refine lv_iload_n hx hb dX10_makePath_154 rfl (lv_at hl 1 rfl) ?_
            refine lv_iload hx hb dX10_makePath_155 (lv_at hl 2 rfl) ?_
            refine ctV_i0 (r := (fX10_beside m_rows m_columns x1_1 x4_1)) (wc := [oX10 mo ma m_thrown m_textSize m_rows m_columns m_a m_b m_readRows m_readColumns m_at m_looks m_came m_draw_3 m_turnedRows m_turnedColumns]) (As := [.int x1_1, .int x4_1]) (rest := []) (q0 := 0) X hK hP hD hS [0] rfl rfl rfl (KX10_beside rfl _) (cwV 2 hts gX10_makePath_X10_beside rfl rfl rfl hdX10_beside ⟨Nat.le_of_ble_eq_true rfl, Nat.le_of_ble_eq_true rfl⟩) rfl rfl rfl hl rfl (Nat.le_of_ble_eq_true rfl) dX10_makePath_157 (Nat.zero_le _) (Nat.zero_le _) (fun H locs hP hS => ?_)
            refine lv_istore (lv' := [(5, .int (fX10_beside m_rows m_columns x1_1 x4_1)), (0, .ref mo), (1, .int x1_1), (4, .int x4_1)]) hx hb dX10_makePath_160 hl (by decide) rfl (fun ls hl => ?_)
            refine lv_aload_n hx hb dX10_makePath_162 rfl (lv_at hl 1 rfl) ?_
            refine va_get (D := D) (ci := 10) (v := .ref (ma 12)) (C := RX10) (T := TX10) (N := 34) hx hb hts inwX10_makePath_X10 hown hK hP 0 rfl rfl 23 (by decide) (hts (.fieldLink RX10 55 "HedgeWaysModel" "back" "[I") (List.mem_of_getElem? (i := 2) rfl)) (fun _ h9 => h9) rfl dX10_makePath_163 ?_
            refine lv_iload hx hb dX10_makePath_166 (lv_at hl 0 rfl) ?_
            refine lv_iload_n hx hb dX10_makePath_168 rfl (lv_at hl 2 rfl) ?_
            obtain ⟨i10, hf⟩ := qob_gd hf
            obtain ⟨m_back_3, e11⟩ : ∃ z, z = (upd m_back_2 ((fX10_beside m_rows m_columns x1_1 x4_1)).toNatClampNeg x1_1) := ⟨_, rfl⟩
            have hf := qob_bd hf e11
            refine va_iast hx hb hK hP hD hS 3 0 rfl rfl i10 dX10_makePath_169 (fun H locs hP hD hS => ?_)
            have hP : va_P D vwCl ([oX10 mo ma m_thrown m_textSize m_rows m_columns m_a m_b m_readRows m_readColumns m_at m_looks m_came m_draw_3 m_turnedRows m_turnedColumns, aZ cy (ma 1) 36 m_right_3, aZ cy (ma 2) 36 m_down_3, aI cy (ma 12) 36 m_back_3, aZ cy (ma 13) 36 m_was_3]) H := by rw [e11]; exact hP
            have hD : va_D A ([oX10 mo ma m_thrown m_textSize m_rows m_columns m_a m_b m_readRows m_readColumns m_at m_looks m_came m_draw_3 m_turnedRows m_turnedColumns, aZ cy (ma 1) 36 m_right_3, aZ cy (ma 2) 36 m_down_3, aI cy (ma 12) 36 m_back_3, aZ cy (ma 13) 36 m_was_3]) := by rw [e11]; exact hD
            refine lv_aload_n hx hb dX10_makePath_170 rfl (lv_at hl 1 rfl) ?_
            refine va_get (D := D) (ci := 10) (v := .ref (ma 13)) (C := RX10) (T := TX10) (N := 34) hx hb hts inwX10_makePath_X10 hown hK hP 0 rfl rfl 24 (by decide) (hts (.fieldLink RX10 58 "HedgeWaysModel" "was" "[Z") (List.mem_of_getElem? (i := 1) rfl)) (fun _ h9 => h9) rfl dX10_makePath_171 ?_
            refine lv_iload hx hb dX10_makePath_174 (lv_at hl 0 rfl) ?_
            refine lv_iconst (v := 1) hx hb dX10_makePath_176 (by decide) ?_
            obtain ⟨i12, hf⟩ := qob_gd hf
            obtain ⟨m_was_4, e13⟩ : ∃ z, z = (upd m_was_3 ((fX10_beside m_rows m_columns x1_1 x4_1)).toNatClampNeg (qnb 1)) := ⟨_, rfl⟩
            have hf := qob_bd hf e13
            refine va_zast hx hb hK hP hD hS 4 2 rfl rfl i12 dX10_makePath_177 (fun H locs hP hD hS => ?_)
            have hP : va_P D vwCl ([oX10 mo ma m_thrown m_textSize m_rows m_columns m_a m_b m_readRows m_readColumns m_at m_looks m_came m_draw_3 m_turnedRows m_turnedColumns, aZ cy (ma 1) 36 m_right_3, aZ cy (ma 2) 36 m_down_3, aI cy (ma 12) 36 m_back_3, aZ cy (ma 13) 36 m_was_4]) H := by rw [e13]; exact hP
            have hD : va_D A ([oX10 mo ma m_thrown m_textSize m_rows m_columns m_a m_b m_readRows m_readColumns m_at m_looks m_came m_draw_3 m_turnedRows m_turnedColumns, aZ cy (ma 1) 36 m_right_3, aZ cy (ma 2) 36 m_down_3, aI cy (ma 12) 36 m_back_3, aZ cy (ma 13) 36 m_was_4]) := by rw [e13]; exact hD
            refine lv_iload hx hb dX10_makePath_178 (lv_at hl 0 rfl) ?_
            refine lv_istore_n (lv' := [(1, .int (fX10_beside m_rows m_columns x1_1 x4_1)), (5, .int (fX10_beside m_rows m_columns x1_1 x4_1)), (0, .ref mo), (4, .int x4_1)]) hx hb dX10_makePath_180 rfl hl (by decide) rfl (fun ls hl => ?_)
            refine lv_goto (tgt := 38) hx hb dX10_makePath_181 (by decide) ?_
            exact hL4 (fX10_beside m_rows m_columns x1_1 x4_1) m_draw_3 m_right_3 m_down_3 m_back_3 m_was_4 hf _ _ _ ⟨hP, hD, hS⟩ (lv_sub hl [2, 0] rfl)
          · intro J14 hJ14 hf
            refine qwalk2 (fun (x3_1 : Int32) (x4_2 : Int32) => ∀ (H : Heap) (locs : List Loc) (ls : Array Slot), ctW D A s ([oX10 mo ma m_thrown m_textSize m_rows m_columns m_a m_b m_readRows m_readColumns m_at m_looks m_came m_draw_3 m_turnedRows m_turnedColumns, aZ cy (ma 1) 36 m_right_2, aZ cy (ma 2) 36 m_down_2, aI cy (ma 12) 36 m_back_2, aZ cy (ma 13) 36 m_was_3]) H locs → lv_has ls 6 [(0, .ref mo), (1, .int x1_1), (3, .int x3_1), (4, .int x4_2)] → W p l e rmX10_makePath s m args below meth c H locs 0 0 Q (F0 m 73 ls [])) ?_ _ r_2 (0 : Int32) hf _ _ _ ⟨hP, hD, hS⟩ (lv_sub hl [3, 4, 1, 0] rfl)
            intro J15 hL15 x3_1 x4_2 hf H locs ls ⟨hP, hD, hS⟩ hl
            refine lv_aload_n hx hb dX10_makePath_73 rfl (lv_at hl 0 rfl) ?_
            refine lv_iload_n hx hb dX10_makePath_74 rfl (lv_at hl 1 rfl) ?_
            refine lv_iload hx hb dX10_makePath_75 (lv_at hl 3 rfl) ?_
            refine ctV_i0 (r := (fX10_beside m_rows m_columns x1_1 x4_2)) (wc := [oX10 mo ma m_thrown m_textSize m_rows m_columns m_a m_b m_readRows m_readColumns m_at m_looks m_came m_draw_3 m_turnedRows m_turnedColumns]) (As := [.int x1_1, .int x4_2]) (rest := []) (q0 := 0) X hK hP hD hS [0] rfl rfl rfl (KX10_beside rfl _) (cwV 2 hts gX10_makePath_X10_beside rfl rfl rfl hdX10_beside ⟨Nat.le_of_ble_eq_true rfl, Nat.le_of_ble_eq_true rfl⟩) rfl rfl rfl hl rfl (Nat.le_of_ble_eq_true rfl) dX10_makePath_77 (Nat.zero_le _) (Nat.zero_le _) (fun H locs hP hS => ?_)
            refine lv_bipush (v := (-9)) hx hb dX10_makePath_80 (by decide) ?_
            refine qjoinE0 hf (∀ (H : Heap) (locs : List Loc) (ls : Array Slot), ctW D A s ([oX10 mo ma m_thrown m_textSize m_rows m_columns m_a m_b m_readRows m_readColumns m_at m_looks m_came m_draw_3 m_turnedRows m_turnedColumns, aZ cy (ma 1) 36 m_right_2, aZ cy (ma 2) 36 m_down_2, aI cy (ma 12) 36 m_back_2, aZ cy (ma 13) 36 m_was_3]) H locs → lv_has ls 6 [(0, .ref mo), (1, .int x1_1), (3, .int x3_1), (4, .int x4_2)] → W p l e rmX10_makePath s m args below meth c H locs 0 0 Q (F0 m 104 ls [])) ?_ ?_
            · intro  hf H locs ls ⟨hP, hD, hS⟩ hl
              refine lv_iload_n hx hb dX10_makePath_104 rfl (lv_at hl 2 rfl) ?_
              refine lv_aload_n hx hb dX10_makePath_105 rfl (lv_at hl 0 rfl) ?_
              refine lv_iload_n hx hb dX10_makePath_106 rfl (lv_at hl 1 rfl) ?_
              refine lv_iload hx hb dX10_makePath_107 (lv_at hl 3 rfl) ?_
              refine ctV_i0 (r := (fX10_beside m_rows m_columns x1_1 x4_2)) (wc := [oX10 mo ma m_thrown m_textSize m_rows m_columns m_a m_b m_readRows m_readColumns m_at m_looks m_came m_draw_3 m_turnedRows m_turnedColumns]) (As := [.int x1_1, .int x4_2]) (rest := [.int x3_1]) (q0 := 0) X hK hP hD hS [0] rfl rfl rfl (KX10_beside rfl _) (cwV 2 hts gX10_makePath_X10_beside rfl rfl rfl hdX10_beside ⟨Nat.le_of_ble_eq_true rfl, Nat.le_of_ble_eq_true rfl⟩) rfl rfl rfl hl rfl (Nat.le_of_ble_eq_true rfl) dX10_makePath_109 (Nat.zero_le _) (Nat.zero_le _) (fun H locs hP hS => ?_)
              refine lv_bipush (v := (-9)) hx hb dX10_makePath_112 (by decide) ?_
              refine qjoin1 hf (fun (s_1 : Int32) => ∀ (H : Heap) (locs : List Loc) (ls : Array Slot), ctW D A s ([oX10 mo ma m_thrown m_textSize m_rows m_columns m_a m_b m_readRows m_readColumns m_at m_looks m_came m_draw_3 m_turnedRows m_turnedColumns, aZ cy (ma 1) 36 m_right_2, aZ cy (ma 2) 36 m_down_2, aI cy (ma 12) 36 m_back_2, aZ cy (ma 13) 36 m_was_3]) H locs → lv_has ls 6 [(0, .ref mo), (1, .int x1_1), (4, .int x4_2)] → W p l e rmX10_makePath s m args below meth c H locs 0 0 Q (F0 m 137 ls [.int s_1, .int x3_1])) ?_ ?_
              · intro s_1 hf H locs ls ⟨hP, hD, hS⟩ hl
                refine lv_isub hx hb dX10_makePath_137 ?_
                refine lv_istore_n (lv' := [(3, .int (x3_1 - s_1)), (0, .ref mo), (1, .int x1_1), (4, .int x4_2)]) hx hb dX10_makePath_138 rfl hl (by decide) rfl (fun ls hl => ?_)
                refine lv_iinc (v := (x4_2 + 1)) (lv' := [(4, .int (x4_2 + 1)), (3, .int (x3_1 - s_1)), (0, .ref mo), (1, .int x1_1)]) hx hb dX10_makePath_139 hl (k := 3) rfl rfl (by decide) rfl (fun ls hl => ?_)
                refine lv_goto (tgt := 73) hx hb dX10_makePath_142 (by decide) ?_
                exact hL15 (x3_1 - s_1) (x4_2 + 1) hf _ _ _ ⟨hP, hD, hS⟩ (lv_sub hl [2, 3, 1, 0] rfl)
              · intro J16 hJ16 hf
                refine lv_icmp_eq (tgt := 136) hx hb dX10_makePath_114 (by decide) (fun c17 => ?_) (fun c17 => ?_)
                · have hf := qob_t hf c17
                  refine lv_iconst (v := 0) hx hb dX10_makePath_136 (by decide) ?_
                  exact hJ16 0 hf _ _ _ ⟨hP, hD, hS⟩ (lv_sub hl [0, 1, 3] rfl)
                · have hf := qob_f hf c17
                  refine lv_aload_n hx hb dX10_makePath_117 rfl (lv_at hl 0 rfl) ?_
                  refine va_get (D := D) (ci := 10) (v := .ref (ma 13)) (C := RX10) (T := TX10) (N := 34) hx hb hts inwX10_makePath_X10 hown hK hP 0 rfl rfl 24 (by decide) (hts (.fieldLink RX10 58 "HedgeWaysModel" "was" "[Z") (List.mem_of_getElem? (i := 1) rfl)) (fun _ h9 => h9) rfl dX10_makePath_118 ?_
                  refine lv_aload_n hx hb dX10_makePath_121 rfl (lv_at hl 0 rfl) ?_
                  refine lv_iload_n hx hb dX10_makePath_122 rfl (lv_at hl 1 rfl) ?_
                  refine lv_iload hx hb dX10_makePath_123 (lv_at hl 3 rfl) ?_
                  refine ctV_i0 (r := (fX10_beside m_rows m_columns x1_1 x4_2)) (wc := [oX10 mo ma m_thrown m_textSize m_rows m_columns m_a m_b m_readRows m_readColumns m_at m_looks m_came m_draw_3 m_turnedRows m_turnedColumns]) (As := [.int x1_1, .int x4_2]) (rest := [.ref (ma 13), .int x3_1]) (q0 := 0) X hK hP hD hS [0] rfl rfl rfl (KX10_beside rfl _) (cwV 2 hts gX10_makePath_X10_beside rfl rfl rfl hdX10_beside ⟨Nat.le_of_ble_eq_true rfl, Nat.le_of_ble_eq_true rfl⟩) rfl rfl rfl hl rfl (Nat.le_of_ble_eq_true rfl) dX10_makePath_125 (Nat.zero_le _) (Nat.zero_le _) (fun H locs hP hS => ?_)
                  obtain ⟨i18, hf⟩ := qob_gd hf
                  refine va_zald hx hb hK hP 4 2 rfl rfl i18 dX10_makePath_128 ?_
                  refine lv_if_ne (tgt := 136) hx hb dX10_makePath_129 (by decide) (fun c19 => ?_) (fun c19 => ?_)
                  · have hf := qob_f hf c19
                    refine lv_iconst (v := 0) hx hb dX10_makePath_136 (by decide) ?_
                    exact hJ16 0 hf _ _ _ ⟨hP, hD, hS⟩ (lv_sub hl [0, 1, 3] rfl)
                  · have hf := qob_t hf c19
                    refine lv_iconst (v := 1) hx hb dX10_makePath_132 (by decide) ?_
                    refine lv_goto (tgt := 137) hx hb dX10_makePath_133 (by decide) ?_
                    exact hJ16 1 hf _ _ _ ⟨hP, hD, hS⟩ (lv_sub hl [0, 1, 3] rfl)
            · intro J20 hJ20 hf
              refine lv_icmp_eq (tgt := 104) hx hb dX10_makePath_82 (by decide) (fun c21 => ?_) (fun c21 => ?_)
              · have hf := qob_t hf c21
                exact hJ20 hf _ _ _ ⟨hP, hD, hS⟩ hl
              · have hf := qob_f hf c21
                refine lv_aload_n hx hb dX10_makePath_85 rfl (lv_at hl 0 rfl) ?_
                refine va_get (D := D) (ci := 10) (v := .ref (ma 13)) (C := RX10) (T := TX10) (N := 34) hx hb hts inwX10_makePath_X10 hown hK hP 0 rfl rfl 24 (by decide) (hts (.fieldLink RX10 58 "HedgeWaysModel" "was" "[Z") (List.mem_of_getElem? (i := 1) rfl)) (fun _ h9 => h9) rfl dX10_makePath_86 ?_
                refine lv_aload_n hx hb dX10_makePath_89 rfl (lv_at hl 0 rfl) ?_
                refine lv_iload_n hx hb dX10_makePath_90 rfl (lv_at hl 1 rfl) ?_
                refine lv_iload hx hb dX10_makePath_91 (lv_at hl 3 rfl) ?_
                refine ctV_i0 (r := (fX10_beside m_rows m_columns x1_1 x4_2)) (wc := [oX10 mo ma m_thrown m_textSize m_rows m_columns m_a m_b m_readRows m_readColumns m_at m_looks m_came m_draw_3 m_turnedRows m_turnedColumns]) (As := [.int x1_1, .int x4_2]) (rest := [.ref (ma 13)]) (q0 := 0) X hK hP hD hS [0] rfl rfl rfl (KX10_beside rfl _) (cwV 2 hts gX10_makePath_X10_beside rfl rfl rfl hdX10_beside ⟨Nat.le_of_ble_eq_true rfl, Nat.le_of_ble_eq_true rfl⟩) rfl rfl rfl hl rfl (Nat.le_of_ble_eq_true rfl) dX10_makePath_93 (Nat.zero_le _) (Nat.zero_le _) (fun H locs hP hS => ?_)
                obtain ⟨i22, hf⟩ := qob_gd hf
                refine va_zald hx hb hK hP 4 2 rfl rfl i22 dX10_makePath_96 ?_
                refine lv_if_ne (tgt := 104) hx hb dX10_makePath_97 (by decide) (fun c23 => ?_) (fun c23 => ?_)
                · have hf := qob_f hf c23
                  exact hJ20 hf _ _ _ ⟨hP, hD, hS⟩ hl
                · have hf := qob_t hf c23
                  refine lv_iload_n hx hb dX10_makePath_100 rfl (lv_at hl 2 rfl) ?_
                  refine lv_if_le (tgt := 145) hx hb dX10_makePath_101 (by decide) (fun c24 => ?_) (fun c24 => ?_)
                  · have hf := qob_t hf c24
                    have hf := qob_esc hf
                    have hf := qob_esc hf
                    exact hJ14 x4_2 hf _ _ _ ⟨hP, hD, hS⟩ (lv_sub hl [0, 1, 3] rfl)
                  · have hf := qob_f hf c24
                    exact hJ20 hf _ _ _ ⟨hP, hD, hS⟩ hl
        · have hf := qob_t hf c7
          refine lv_aload_n hx hb dX10_makePath_54 rfl (lv_at hl 1 rfl) ?_
          refine va_get (D := D) (ci := 10) (v := .ref (ma 12)) (C := RX10) (T := TX10) (N := 34) hx hb hts inwX10_makePath_X10 hown hK hP 0 rfl rfl 23 (by decide) (hts (.fieldLink RX10 55 "HedgeWaysModel" "back" "[I") (List.mem_of_getElem? (i := 2) rfl)) (fun _ h9 => h9) rfl dX10_makePath_55 ?_
          refine lv_iload_n hx hb dX10_makePath_58 rfl (lv_at hl 2 rfl) ?_
          obtain ⟨i25, hf⟩ := qob_gd hf
          refine va_iald hx hb hK hP 3 0 rfl rfl i25 dX10_makePath_59 ?_
          refine lv_istore_n (lv' := [(1, .int (m_back_2 x1_1.toNatClampNeg)), (2, .int r_1), (0, .ref mo)]) hx hb dX10_makePath_60 rfl hl (by decide) rfl (fun ls hl => ?_)
          refine lv_goto (tgt := 181) hx hb dX10_makePath_61 (by decide) ?_
          refine lv_goto (tgt := 38) hx hb dX10_makePath_181 (by decide) ?_
          exact hL4 (m_back_2 x1_1.toNatClampNeg) m_draw_2 m_right_2 m_down_2 m_back_2 m_was_3 hf _ _ _ ⟨hP, hD, hS⟩ (lv_sub hl [2, 0] rfl)
  · intro J26 hJ26 hf
    refine qwalk2 (fun (x1_2 : Int32) (m_was_5 : Nat → Int32) => ∀ (H : Heap) (locs : List Loc) (ls : Array Slot), ctW D A s ([oX10 mo ma m_thrown m_textSize m_rows m_columns m_a m_b m_readRows m_readColumns m_at m_looks m_came m_draw m_turnedRows m_turnedColumns, aZ cy (ma 1) 36 m_right, aZ cy (ma 2) 36 m_down, aI cy (ma 12) 36 m_back, aZ cy (ma 13) 36 m_was_5]) H locs → lv_has ls 6 [(0, .ref mo), (1, .int x1_2)] → W p l e rmX10_makePath s m args below meth c H locs 0 0 Q (F0 m 2 ls [])) ?_ _ (0 : Int32) m_was hf _ _ _ ⟨hP, hD, hS⟩ (lv_sub hl [1, 0] rfl)
    intro J27 hL27 x1_2 m_was_5 hf H locs ls ⟨hP, hD, hS⟩ hl
    refine lv_iload_n hx hb dX10_makePath_2 rfl (lv_at hl 1 rfl) ?_
    refine lv_bipush (v := 36) hx hb dX10_makePath_3 (by decide) ?_
    refine lv_icmp_ge (tgt := 21) hx hb dX10_makePath_5 (by decide) (fun c28 => ?_) (fun c28 => ?_)
    · have hf := qob_t hf c28
      have hf := qob_esc hf
      exact hJ26 m_was_5 hf _ _ _ ⟨hP, hD, hS⟩ (lv_sub hl [0] rfl)
    · have hf := qob_f hf c28
      refine lv_aload_n hx hb dX10_makePath_8 rfl (lv_at hl 0 rfl) ?_
      refine va_get (D := D) (ci := 10) (v := .ref (ma 13)) (C := RX10) (T := TX10) (N := 34) hx hb hts inwX10_makePath_X10 hown hK hP 0 rfl rfl 24 (by decide) (hts (.fieldLink RX10 58 "HedgeWaysModel" "was" "[Z") (List.mem_of_getElem? (i := 1) rfl)) (fun _ h9 => h9) rfl dX10_makePath_9 ?_
      refine lv_iload_n hx hb dX10_makePath_12 rfl (lv_at hl 1 rfl) ?_
      refine lv_iconst (v := 0) hx hb dX10_makePath_13 (by decide) ?_
      obtain ⟨i29, hf⟩ := qob_gd hf
      refine va_zast hx hb hK hP hD hS 4 2 rfl rfl i29 dX10_makePath_14 (fun H locs hP hD hS => ?_)
      have hP : va_P D vwCl ([oX10 mo ma m_thrown m_textSize m_rows m_columns m_a m_b m_readRows m_readColumns m_at m_looks m_came m_draw m_turnedRows m_turnedColumns, aZ cy (ma 1) 36 m_right, aZ cy (ma 2) 36 m_down, aI cy (ma 12) 36 m_back, aZ cy (ma 13) 36 (upd m_was_5 x1_2.toNatClampNeg (qnb 0))]) H := hP
      have hD : va_D A ([oX10 mo ma m_thrown m_textSize m_rows m_columns m_a m_b m_readRows m_readColumns m_at m_looks m_came m_draw m_turnedRows m_turnedColumns, aZ cy (ma 1) 36 m_right, aZ cy (ma 2) 36 m_down, aI cy (ma 12) 36 m_back, aZ cy (ma 13) 36 (upd m_was_5 x1_2.toNatClampNeg (qnb 0))]) := hD
      refine lv_iinc (v := (x1_2 + 1)) (lv' := [(1, .int (x1_2 + 1)), (0, .ref mo)]) hx hb dX10_makePath_15 hl (k := 1) rfl rfl (by decide) rfl (fun ls hl => ?_)
      refine lv_goto (tgt := 2) hx hb dX10_makePath_18 (by decide) ?_
      exact hL27 (x1_2 + 1) (upd m_was_5 x1_2.toNatClampNeg (qnb 0)) hf _ _ _ ⟨hP, hD, hS⟩ (lv_sub hl [1, 0] rfl)
theorem inwX10_make_X10 : ∀ w ∈ wsX100, w ∈ wsX10_make := fun _ h => List.mem_cons_of_mem _ (List.mem_append_right _ h)
abbrev rmX10_make : Room := { frames := 6, cells := 0, slots := 0, locals := 145 }
theorem hdX10_make : yX10_make.cls = RX10 ∧ yX10_make.cls ≠ "java/lang/invoke/MethodHandle" ∧ yX10_make.cls ≠ "java/lang/invoke/VarHandle" ∧ (parseMethodDescriptor yX10_make.desc).map (fun d => d.parameters.length) = some 4 := by decide +kernel
set_option maxHeartbeats 4000000 in
set_option maxRecDepth 100000 in
theorem KX10_make {l : Launch} {D : va_G} {cy : Nat → ClassId} {mo : Nat} {ma : Nat → Nat} {m_thrown : Int32} {m_textSize : Int32} {m_rows : Int32} {m_columns : Int32} {m_a : Int32} {m_b : Int32} {m_readRows : Int32} {m_readColumns : Int32} {m_at : Int32} {m_looks : Int32} {m_came : Int32} {m_draw : Int64} {m_turnedRows : Int32} {m_turnedColumns : Int32} {m_right : Nat → Int32} {m_down : Nat → Int32} {m_dist : Nat → Int32} {m_queue : Nat → Int32} {m_shut : Nat → Int32} {m_parts : Nat → Int32} {m_back : Nat → Int32} {m_was : Nat → Int32} {m_list : Nat → Int32} {p1 : Int32} {p2 : Int32} {p3 : Int64} {p4 : Int32} {r : Int32} {m_thrown' : Int32} {m_rows' : Int32} {m_columns' : Int32} {m_a' : Int32} {m_b' : Int32} {m_draw' : Int64} {m_right' : Nat → Int32} {m_down' : Nat → Int32} {m_dist' : Nat → Int32} {m_queue' : Nat → Int32} {m_parts' : Nat → Int32} {m_back' : Nat → Int32} {m_was' : Nat → Int32} {m_list' : Nat → Int32} (hf : fX10_make m_thrown m_rows m_columns m_a m_b m_draw m_right m_down m_dist m_queue m_shut m_parts m_back m_was m_list p1 p2 p3 p4 = some (r, m_thrown', m_rows', m_columns', m_a', m_b', m_draw', m_right', m_down', m_dist', m_queue', m_parts', m_back', m_was', m_list')) : CtI l yX10_make wsX10_make rmX10_make D cy [.ref mo, .int p1, .int p2, .long p3, .int p4] ([oX10 mo ma m_thrown m_textSize m_rows m_columns m_a m_b m_readRows m_readColumns m_at m_looks m_came m_draw m_turnedRows m_turnedColumns, aZ cy (ma 1) 36 m_right, aZ cy (ma 2) 36 m_down, aI cy (ma 7) 36 m_dist, aI cy (ma 8) 36 m_queue, aZ cy (ma 10) 36 m_shut, aI cy (ma 11) 36 m_parts, aI cy (ma 12) 36 m_back, aZ cy (ma 13) 36 m_was, aI cy (ma 18) 60 m_list]) ([oX10 mo ma m_thrown' m_textSize m_rows' m_columns' m_a' m_b' m_readRows m_readColumns m_at m_looks m_came m_draw' m_turnedRows m_turnedColumns, aZ cy (ma 1) 36 m_right', aZ cy (ma 2) 36 m_down', aI cy (ma 7) 36 m_dist', aI cy (ma 8) 36 m_queue', aZ cy (ma 10) 36 m_shut, aI cy (ma 11) 36 m_parts', aI cy (ma 12) 36 m_back', aZ cy (ma 13) 36 m_was', aI cy (ma 18) 60 m_list']) r := by
  refine CtI.of (cc := cX10_make) (maxL := 6) (ret := some .int) (own := RX10) (by decide) rfl rfl (Nat.le_of_ble_eq_true rfl) ?_
  intro p e s m args below meth c A Q X hQ hK hP hD hS ls hl
  obtain ⟨hx, hb, hml, hown, hts, hr, hlocks, hA, hZ⟩ := id X
  have hl : lv_has ls 6 [(0, .ref mo), (1, .int p1), (2, .int p2), (3, .long p3), (5, .int p4)] := hl
  unfold fX10_make at hf
  have hf := qob_top hf
  refine lv_aload_n hx hb dX10_make_0 rfl (lv_at hl 0 rfl) ?_
  refine lv_iconst (v := 0) hx hb dX10_make_1 (by decide) ?_
  refine va_put (D := D) (ci := 10) (v := .int 0) (ty := .int) (C := RX10) (T := TX10) (N := 34) hx hb hts inwX10_make_X10 tyX10 tyX10_ok nmX10 hown hK hP hD hS 0 rfl rfl 0 (by decide) (hts (.fieldLink RX10 79 "HedgeWaysModel" "thrown" "I") (List.mem_of_getElem? (i := 1) rfl)) (fun _ h9 => h9) rfl (tyX10_ok 0 (by decide)) rfl rfl (Nat.le_of_ble_eq_true rfl) dX10_make_2 (fun H locs hP hD hS => ?_)
  have hP : va_P D vwCl ([oX10 mo ma 0 m_textSize m_rows m_columns m_a m_b m_readRows m_readColumns m_at m_looks m_came m_draw m_turnedRows m_turnedColumns, aZ cy (ma 1) 36 m_right, aZ cy (ma 2) 36 m_down, aI cy (ma 7) 36 m_dist, aI cy (ma 8) 36 m_queue, aZ cy (ma 10) 36 m_shut, aI cy (ma 11) 36 m_parts, aI cy (ma 12) 36 m_back, aZ cy (ma 13) 36 m_was, aI cy (ma 18) 60 m_list]) H := hP
  have hD : va_D A ([oX10 mo ma 0 m_textSize m_rows m_columns m_a m_b m_readRows m_readColumns m_at m_looks m_came m_draw m_turnedRows m_turnedColumns, aZ cy (ma 1) 36 m_right, aZ cy (ma 2) 36 m_down, aI cy (ma 7) 36 m_dist, aI cy (ma 8) 36 m_queue, aZ cy (ma 10) 36 m_shut, aI cy (ma 11) 36 m_parts, aI cy (ma 12) 36 m_back, aZ cy (ma 13) 36 m_was, aI cy (ma 18) 60 m_list]) := hD
  refine lv_iload_n hx hb dX10_make_5 rfl (lv_at hl 1 rfl) ?_
  refine lv_i2l (v := p1.toInt64) hx hb dX10_make_6 rfl ?_
  refine lv_lconst (v := 1) hx hb dX10_make_7 (by decide) ?_
  refine lv_ldc2 hx hb hown (hts (.constantLong RX10 143 (6)) (List.mem_of_getElem? (i := 2) rfl)) dX10_make_8 ?_
  refine ctS_i0 (r := (fX10_in p1.toInt64 1 6)) (wc := []) (As := [.long p1.toInt64, .long 1, .long 6]) (rest := []) X hK hP hD hS [] rfl rfl rfl (KX10_in rfl _) (va_cwS 3 hts gX10_make_X10_in rfl rfl rfl hdX10_in ⟨Nat.le_of_ble_eq_true rfl, Nat.le_of_ble_eq_true rfl⟩) rfl hl rfl (Nat.le_of_ble_eq_true rfl) dX10_make_11 (Nat.zero_le _) (Nat.zero_le _) (fun H locs hP hS => ?_)
  refine lv_if_eq (tgt := 40) hx hb dX10_make_14 (by decide) (fun c1 => ?_) (fun c1 => ?_)
  · have hf := qob_t hf c1
    refine lv_bipush (v := (-2)) hx hb dX10_make_40 (by decide) ?_
    cases qob_ret hf
    exact ct_iret X hQ hK hP hD hS rfl dX10_make_42
  · have hf := qob_f hf c1
    refine lv_iload_n hx hb dX10_make_17 rfl (lv_at hl 2 rfl) ?_
    refine lv_i2l (v := p2.toInt64) hx hb dX10_make_18 rfl ?_
    refine lv_lconst (v := 1) hx hb dX10_make_19 (by decide) ?_
    refine lv_ldc2 hx hb hown (hts (.constantLong RX10 143 (6)) (List.mem_of_getElem? (i := 2) rfl)) dX10_make_20 ?_
    refine ctS_i0 (r := (fX10_in p2.toInt64 1 6)) (wc := []) (As := [.long p2.toInt64, .long 1, .long 6]) (rest := []) X hK hP hD hS [] rfl rfl rfl (KX10_in rfl _) (va_cwS 3 hts gX10_make_X10_in rfl rfl rfl hdX10_in ⟨Nat.le_of_ble_eq_true rfl, Nat.le_of_ble_eq_true rfl⟩) rfl hl rfl (Nat.le_of_ble_eq_true rfl) dX10_make_23 (Nat.zero_le _) (Nat.zero_le _) (fun H locs hP hS => ?_)
    refine lv_if_eq (tgt := 40) hx hb dX10_make_26 (by decide) (fun c2 => ?_) (fun c2 => ?_)
    · have hf := qob_t hf c2
      refine lv_bipush (v := (-2)) hx hb dX10_make_40 (by decide) ?_
      cases qob_ret hf
      exact ct_iret X hQ hK hP hD hS rfl dX10_make_42
    · have hf := qob_f hf c2
      refine lv_iload hx hb dX10_make_29 (lv_at hl 4 rfl) ?_
      refine lv_i2l (v := p4.toInt64) hx hb dX10_make_31 rfl ?_
      refine lv_lconst (v := 0) hx hb dX10_make_32 (by decide) ?_
      refine lv_lconst (v := 1) hx hb dX10_make_33 (by decide) ?_
      refine ctS_i0 (r := (fX10_in p4.toInt64 0 1)) (wc := []) (As := [.long p4.toInt64, .long 0, .long 1]) (rest := []) X hK hP hD hS [] rfl rfl rfl (KX10_in rfl _) (va_cwS 3 hts gX10_make_X10_in rfl rfl rfl hdX10_in ⟨Nat.le_of_ble_eq_true rfl, Nat.le_of_ble_eq_true rfl⟩) rfl hl rfl (Nat.le_of_ble_eq_true rfl) dX10_make_34 (Nat.zero_le _) (Nat.zero_le _) (fun H locs hP hS => ?_)
      refine lv_if_ne (tgt := 43) hx hb dX10_make_37 (by decide) (fun c3 => ?_) (fun c3 => ?_)
      · have hf := qob_f hf c3
        refine lv_aload_n hx hb dX10_make_43 rfl (lv_at hl 0 rfl) ?_
        refine lv_iload_n hx hb dX10_make_44 rfl (lv_at hl 1 rfl) ?_
        refine lv_iload_n hx hb dX10_make_45 rfl (lv_at hl 2 rfl) ?_
        obtain ⟨m_rows_1, m_columns_1, m_a_1, m_b_1, m_right_1, m_down_1, q4, hf⟩ := qcall6 hf
        refine ctV_v (wc := [oX10 mo ma 0 m_textSize m_rows m_columns m_a m_b m_readRows m_readColumns m_at m_looks m_came m_draw m_turnedRows m_turnedColumns, aZ cy (ma 1) 36 m_right, aZ cy (ma 2) 36 m_down]) (w1 := [oX10 mo ma 0 m_textSize m_rows_1 m_columns_1 m_a_1 m_b_1 m_readRows m_readColumns m_at m_looks m_came m_draw m_turnedRows m_turnedColumns, aZ cy (ma 1) 36 m_right_1, aZ cy (ma 2) 36 m_down_1]) (wr := [aI cy (ma 7) 36 m_dist, aI cy (ma 8) 36 m_queue, aZ cy (ma 10) 36 m_shut, aI cy (ma 11) 36 m_parts, aI cy (ma 12) 36 m_back, aZ cy (ma 13) 36 m_was, aI cy (ma 18) 60 m_list]) (wn := [oX10 mo ma 0 m_textSize m_rows_1 m_columns_1 m_a_1 m_b_1 m_readRows m_readColumns m_at m_looks m_came m_draw m_turnedRows m_turnedColumns, aZ cy (ma 1) 36 m_right_1, aZ cy (ma 2) 36 m_down_1, aI cy (ma 7) 36 m_dist, aI cy (ma 8) 36 m_queue, aZ cy (ma 10) 36 m_shut, aI cy (ma 11) 36 m_parts, aI cy (ma 12) 36 m_back, aZ cy (ma 13) 36 m_was, aI cy (ma 18) 60 m_list]) (As := [.int p1, .int p2]) (rest := []) (q0 := 0) X hK hP hD hS [0, 1, 2] [3, 4, 5, 6, 7, 8, 9] [7, 8, 9, 0, 1, 2, 3, 4, 5, 6] rfl rfl rfl rfl rfl (by decide) rfl rfl rfl (KX10_shutAll q4 _) (cwV 2 hts gX10_make_X10_shutAll rfl rfl rfl hdX10_shutAll ⟨Nat.le_of_ble_eq_true rfl, Nat.le_of_ble_eq_true rfl⟩) rfl rfl rfl hl rfl (Nat.le_of_ble_eq_true rfl) dX10_make_46 (Nat.zero_le _) (Nat.zero_le _) (fun H locs hP hD hS => ?_)
        refine lv_aload_n hx hb dX10_make_49 rfl (lv_at hl 0 rfl) ?_
        refine lv_lload_n hx hb dX10_make_50 rfl (lv_at hl 3 rfl) ?_
        refine va_put (D := D) (ci := 10) (v := .long p3) (ty := .long) (C := RX10) (T := TX10) (N := 34) hx hb hts inwX10_make_X10 tyX10 tyX10_ok nmX10 hown hK hP hD hS 0 rfl rfl 29 (by decide) (hts (.fieldLink RX10 117 "HedgeWaysModel" "draw" "J") (List.mem_of_getElem? (i := 3) rfl)) (fun _ h9 => h9) rfl (tyX10_ok 29 (by decide)) rfl rfl (Nat.le_of_ble_eq_true rfl) dX10_make_51 (fun H locs hP hD hS => ?_)
        have hP : va_P D vwCl ([oX10 mo ma 0 m_textSize m_rows_1 m_columns_1 m_a_1 m_b_1 m_readRows m_readColumns m_at m_looks m_came p3 m_turnedRows m_turnedColumns, aZ cy (ma 1) 36 m_right_1, aZ cy (ma 2) 36 m_down_1, aI cy (ma 7) 36 m_dist, aI cy (ma 8) 36 m_queue, aZ cy (ma 10) 36 m_shut, aI cy (ma 11) 36 m_parts, aI cy (ma 12) 36 m_back, aZ cy (ma 13) 36 m_was, aI cy (ma 18) 60 m_list]) H := hP
        have hD : va_D A ([oX10 mo ma 0 m_textSize m_rows_1 m_columns_1 m_a_1 m_b_1 m_readRows m_readColumns m_at m_looks m_came p3 m_turnedRows m_turnedColumns, aZ cy (ma 1) 36 m_right_1, aZ cy (ma 2) 36 m_down_1, aI cy (ma 7) 36 m_dist, aI cy (ma 8) 36 m_queue, aZ cy (ma 10) 36 m_shut, aI cy (ma 11) 36 m_parts, aI cy (ma 12) 36 m_back, aZ cy (ma 13) 36 m_was, aI cy (ma 18) 60 m_list]) := hD
        refine lv_iload hx hb dX10_make_54 (lv_at hl 4 rfl) ?_
        refine lv_if_ne (tgt := 66) hx hb dX10_make_56 (by decide) (fun c5 => ?_) (fun c5 => ?_)
        · have hf := qob_f hf c5
          refine lv_aload_n hx hb dX10_make_66 rfl (lv_at hl 0 rfl) ?_
          obtain ⟨m_draw_1, m_right_2, m_down_2, m_back_1, m_was_1, q6, hf⟩ := qcall5 hf
          refine ctV_v (wc := [oX10 mo ma 0 m_textSize m_rows_1 m_columns_1 m_a_1 m_b_1 m_readRows m_readColumns m_at m_looks m_came p3 m_turnedRows m_turnedColumns, aZ cy (ma 1) 36 m_right_1, aZ cy (ma 2) 36 m_down_1, aI cy (ma 12) 36 m_back, aZ cy (ma 13) 36 m_was]) (w1 := [oX10 mo ma 0 m_textSize m_rows_1 m_columns_1 m_a_1 m_b_1 m_readRows m_readColumns m_at m_looks m_came m_draw_1 m_turnedRows m_turnedColumns, aZ cy (ma 1) 36 m_right_2, aZ cy (ma 2) 36 m_down_2, aI cy (ma 12) 36 m_back_1, aZ cy (ma 13) 36 m_was_1]) (wr := [aI cy (ma 7) 36 m_dist, aI cy (ma 8) 36 m_queue, aZ cy (ma 10) 36 m_shut, aI cy (ma 11) 36 m_parts, aI cy (ma 18) 60 m_list]) (wn := [oX10 mo ma 0 m_textSize m_rows_1 m_columns_1 m_a_1 m_b_1 m_readRows m_readColumns m_at m_looks m_came m_draw_1 m_turnedRows m_turnedColumns, aZ cy (ma 1) 36 m_right_2, aZ cy (ma 2) 36 m_down_2, aI cy (ma 7) 36 m_dist, aI cy (ma 8) 36 m_queue, aZ cy (ma 10) 36 m_shut, aI cy (ma 11) 36 m_parts, aI cy (ma 12) 36 m_back_1, aZ cy (ma 13) 36 m_was_1, aI cy (ma 18) 60 m_list]) (As := []) (rest := []) (q0 := 0) X hK hP hD hS [0, 1, 2, 7, 8] [3, 4, 5, 6, 9] [5, 6, 7, 0, 1, 2, 3, 8, 9, 4] rfl rfl rfl rfl rfl (by decide) rfl rfl rfl (KX10_makePath q6 _) (cwV 0 hts gX10_make_X10_makePath rfl rfl rfl hdX10_makePath ⟨Nat.le_of_ble_eq_true rfl, Nat.le_of_ble_eq_true rfl⟩) rfl rfl rfl hl rfl (Nat.le_of_ble_eq_true rfl) dX10_make_67 (Nat.zero_le _) (Nat.zero_le _) (fun H locs hP hD hS => ?_)
          refine lv_iload_n hx hb dX10_make_70 rfl (lv_at hl 1 rfl) ?_
          refine lv_iload_n hx hb dX10_make_71 rfl (lv_at hl 2 rfl) ?_
          refine lv_imul hx hb dX10_make_72 ?_
          cases qob_ret hf
          exact ct_iret X hQ hK hP hD hS rfl dX10_make_73
        · have hf := qob_t hf c5
          refine lv_aload_n hx hb dX10_make_59 rfl (lv_at hl 0 rfl) ?_
          obtain ⟨m_draw_2, m_right_3, m_down_3, m_dist_1, m_queue_1, m_parts_1, m_list_1, q7, hf⟩ := qcall7 hf
          refine ctV_v (wc := [oX10 mo ma 0 m_textSize m_rows_1 m_columns_1 m_a_1 m_b_1 m_readRows m_readColumns m_at m_looks m_came p3 m_turnedRows m_turnedColumns, aZ cy (ma 1) 36 m_right_1, aZ cy (ma 2) 36 m_down_1, aI cy (ma 7) 36 m_dist, aI cy (ma 8) 36 m_queue, aZ cy (ma 10) 36 m_shut, aI cy (ma 11) 36 m_parts, aI cy (ma 18) 60 m_list]) (w1 := [oX10 mo ma 0 m_textSize m_rows_1 m_columns_1 m_a_1 m_b_1 m_readRows m_readColumns m_at m_looks m_came m_draw_2 m_turnedRows m_turnedColumns, aZ cy (ma 1) 36 m_right_3, aZ cy (ma 2) 36 m_down_3, aI cy (ma 7) 36 m_dist_1, aI cy (ma 8) 36 m_queue_1, aZ cy (ma 10) 36 m_shut, aI cy (ma 11) 36 m_parts_1, aI cy (ma 18) 60 m_list_1]) (wr := [aI cy (ma 12) 36 m_back, aZ cy (ma 13) 36 m_was]) (wn := [oX10 mo ma 0 m_textSize m_rows_1 m_columns_1 m_a_1 m_b_1 m_readRows m_readColumns m_at m_looks m_came m_draw_2 m_turnedRows m_turnedColumns, aZ cy (ma 1) 36 m_right_3, aZ cy (ma 2) 36 m_down_3, aI cy (ma 7) 36 m_dist_1, aI cy (ma 8) 36 m_queue_1, aZ cy (ma 10) 36 m_shut, aI cy (ma 11) 36 m_parts_1, aI cy (ma 12) 36 m_back, aZ cy (ma 13) 36 m_was, aI cy (ma 18) 60 m_list_1]) (As := []) (rest := []) (q0 := 0) X hK hP hD hS [0, 1, 2, 3, 4, 5, 6, 9] [7, 8] [2, 3, 4, 5, 6, 7, 8, 0, 1, 9] rfl rfl rfl rfl rfl (by decide) rfl rfl rfl (KX10_makeList q7 _) (cwV 0 hts gX10_make_X10_makeList rfl rfl rfl hdX10_makeList ⟨Nat.le_of_ble_eq_true rfl, Nat.le_of_ble_eq_true rfl⟩) rfl rfl rfl hl rfl (Nat.le_of_ble_eq_true rfl) dX10_make_60 (Nat.zero_le _) (Nat.zero_le _) (fun H locs hP hD hS => ?_)
          refine lv_goto (tgt := 70) hx hb dX10_make_63 (by decide) ?_
          refine lv_iload_n hx hb dX10_make_70 rfl (lv_at hl 1 rfl) ?_
          refine lv_iload_n hx hb dX10_make_71 rfl (lv_at hl 2 rfl) ?_
          refine lv_imul hx hb dX10_make_72 ?_
          cases qob_ret hf
          exact ct_iret X hQ hK hP hD hS rfl dX10_make_73
      · have hf := qob_t hf c3
        refine lv_bipush (v := (-2)) hx hb dX10_make_40 (by decide) ?_
        cases qob_ret hf
        exact ct_iret X hQ hK hP hD hS rfl dX10_make_42
theorem inwX10_open_X10 : ∀ w ∈ wsX100, w ∈ wsX10_open := fun _ h => List.mem_cons_of_mem _ (List.mem_append_right _ h)
abbrev rmX10_open : Room := { frames := 3, cells := 0, slots := 0, locals := 72 }
theorem hdX10_open : yX10_open.cls = RX10 ∧ yX10_open.cls ≠ "java/lang/invoke/MethodHandle" ∧ yX10_open.cls ≠ "java/lang/invoke/VarHandle" ∧ (parseMethodDescriptor yX10_open.desc).map (fun d => d.parameters.length) = some 2 := by decide +kernel
set_option maxHeartbeats 4000000 in
set_option maxRecDepth 100000 in
theorem KX10_open {l : Launch} {D : va_G} {cy : Nat → ClassId} {mo : Nat} {ma : Nat → Nat} {m_thrown : Int32} {m_textSize : Int32} {m_rows : Int32} {m_columns : Int32} {m_a : Int32} {m_b : Int32} {m_readRows : Int32} {m_readColumns : Int32} {m_at : Int32} {m_looks : Int32} {m_came : Int32} {m_draw : Int64} {m_turnedRows : Int32} {m_turnedColumns : Int32} {m_right : Nat → Int32} {m_down : Nat → Int32} {p1 : Int32} {p2 : Int32} {r : Int32} {m_thrown' : Int32} (hf : fX10_open m_thrown m_rows m_columns m_right m_down p1 p2 = some (r, m_thrown')) : CtI l yX10_open wsX10_open rmX10_open D cy [.ref mo, .int p1, .int p2] ([oX10 mo ma m_thrown m_textSize m_rows m_columns m_a m_b m_readRows m_readColumns m_at m_looks m_came m_draw m_turnedRows m_turnedColumns, aZ cy (ma 1) 36 m_right, aZ cy (ma 2) 36 m_down]) ([oX10 mo ma m_thrown' m_textSize m_rows m_columns m_a m_b m_readRows m_readColumns m_at m_looks m_came m_draw m_turnedRows m_turnedColumns, aZ cy (ma 1) 36 m_right, aZ cy (ma 2) 36 m_down]) r := by
  refine CtI.of (cc := cX10_open) (maxL := 3) (ret := some .int) (own := RX10) (by decide) rfl rfl (Nat.le_of_ble_eq_true rfl) ?_
  intro p e s m args below meth c A Q X hQ hK hP hD hS ls hl
  obtain ⟨hx, hb, hml, hown, hts, hr, hlocks, hA, hZ⟩ := id X
  have hl : lv_has ls 3 [(0, .ref mo), (1, .int p1), (2, .int p2)] := hl
  unfold fX10_open at hf
  have hf := qob_top hf
  refine lv_aload_n hx hb dX10_open_0 rfl (lv_at hl 0 rfl) ?_
  refine lv_iconst (v := 0) hx hb dX10_open_1 (by decide) ?_
  refine va_put (D := D) (ci := 10) (v := .int 0) (ty := .int) (C := RX10) (T := TX10) (N := 34) hx hb hts inwX10_open_X10 tyX10 tyX10_ok nmX10 hown hK hP hD hS 0 rfl rfl 0 (by decide) (hts (.fieldLink RX10 79 "HedgeWaysModel" "thrown" "I") (List.mem_of_getElem? (i := 1) rfl)) (fun _ h9 => h9) rfl (tyX10_ok 0 (by decide)) rfl rfl (Nat.le_of_ble_eq_true rfl) dX10_open_2 (fun H locs hP hD hS => ?_)
  have hP : va_P D vwCl ([oX10 mo ma 0 m_textSize m_rows m_columns m_a m_b m_readRows m_readColumns m_at m_looks m_came m_draw m_turnedRows m_turnedColumns, aZ cy (ma 1) 36 m_right, aZ cy (ma 2) 36 m_down]) H := hP
  have hD : va_D A ([oX10 mo ma 0 m_textSize m_rows m_columns m_a m_b m_readRows m_readColumns m_at m_looks m_came m_draw m_turnedRows m_turnedColumns, aZ cy (ma 1) 36 m_right, aZ cy (ma 2) 36 m_down]) := hD
  refine lv_aload_n hx hb dX10_open_5 rfl (lv_at hl 0 rfl) ?_
  refine lv_iload_n hx hb dX10_open_6 rfl (lv_at hl 1 rfl) ?_
  refine ctV_i0 (r := (fX10_isCell m_rows m_columns p1)) (wc := [oX10 mo ma 0 m_textSize m_rows m_columns m_a m_b m_readRows m_readColumns m_at m_looks m_came m_draw m_turnedRows m_turnedColumns]) (As := [.int p1]) (rest := []) (q0 := 0) X hK hP hD hS [0] rfl rfl rfl (KX10_isCell rfl _) (cwV 1 hts gX10_open_X10_isCell rfl rfl rfl hdX10_isCell ⟨Nat.le_of_ble_eq_true rfl, Nat.le_of_ble_eq_true rfl⟩) rfl rfl rfl hl rfl (Nat.le_of_ble_eq_true rfl) dX10_open_7 (Nat.zero_le _) (Nat.zero_le _) (fun H locs hP hS => ?_)
  refine lv_if_eq (tgt := 20) hx hb dX10_open_10 (by decide) (fun c1 => ?_) (fun c1 => ?_)
  · have hf := qob_t hf c1
    refine lv_iconst (v := (-1)) hx hb dX10_open_20 (by decide) ?_
    cases qob_ret hf
    exact ct_iret X hQ hK hP hD hS rfl dX10_open_21
  · have hf := qob_f hf c1
    refine lv_iload_n hx hb dX10_open_13 rfl (lv_at hl 2 rfl) ?_
    refine ctS_i0 (r := (fX10_isSide p2)) (wc := []) (As := [.int p2]) (rest := []) X hK hP hD hS [] rfl rfl rfl (KX10_isSide rfl _) (va_cwS 1 hts gX10_open_X10_isSide rfl rfl rfl hdX10_isSide ⟨Nat.le_of_ble_eq_true rfl, Nat.le_of_ble_eq_true rfl⟩) rfl hl rfl (Nat.le_of_ble_eq_true rfl) dX10_open_14 (Nat.zero_le _) (Nat.zero_le _) (fun H locs hP hS => ?_)
    refine lv_if_ne (tgt := 22) hx hb dX10_open_17 (by decide) (fun c2 => ?_) (fun c2 => ?_)
    · have hf := qob_f hf c2
      refine lv_aload_n hx hb dX10_open_22 rfl (lv_at hl 0 rfl) ?_
      refine lv_iload_n hx hb dX10_open_23 rfl (lv_at hl 1 rfl) ?_
      refine ctS_i0 (r := (fX10_index p1)) (wc := []) (As := [.int p1]) (rest := [.ref mo]) X hK hP hD hS [] rfl rfl rfl (KX10_index rfl _) (va_cwS 1 hts gX10_open_X10_index rfl rfl rfl hdX10_index ⟨Nat.le_of_ble_eq_true rfl, Nat.le_of_ble_eq_true rfl⟩) rfl hl rfl (Nat.le_of_ble_eq_true rfl) dX10_open_24 (Nat.zero_le _) (Nat.zero_le _) (fun H locs hP hS => ?_)
      refine lv_iload_n hx hb dX10_open_27 rfl (lv_at hl 2 rfl) ?_
      obtain ⟨r_1, q3, hf⟩ := qcall1 hf
      refine ctV_i0 (r := r_1) (wc := [oX10 mo ma 0 m_textSize m_rows m_columns m_a m_b m_readRows m_readColumns m_at m_looks m_came m_draw m_turnedRows m_turnedColumns, aZ cy (ma 1) 36 m_right, aZ cy (ma 2) 36 m_down]) (As := [.int (fX10_index p1), .int p2]) (rest := []) (q0 := 0) X hK hP hD hS [0, 1, 2] rfl rfl rfl (KX10_isOpen q3 _) (cwV 2 hts gX10_open_X10_isOpen rfl rfl rfl hdX10_isOpen ⟨Nat.le_of_ble_eq_true rfl, Nat.le_of_ble_eq_true rfl⟩) rfl rfl rfl hl rfl (Nat.le_of_ble_eq_true rfl) dX10_open_28 (Nat.zero_le _) (Nat.zero_le _) (fun H locs hP hS => ?_)
      refine lv_if_eq (tgt := 38) hx hb dX10_open_31 (by decide) (fun c4 => ?_) (fun c4 => ?_)
      · have hf := qob_t hf c4
        refine lv_iconst (v := 0) hx hb dX10_open_38 (by decide) ?_
        cases qob_ret hf
        exact ct_iret X hQ hK hP hD hS rfl dX10_open_39
      · have hf := qob_f hf c4
        refine lv_iconst (v := 1) hx hb dX10_open_34 (by decide) ?_
        refine lv_goto (tgt := 39) hx hb dX10_open_35 (by decide) ?_
        cases qob_ret hf
        exact ct_iret X hQ hK hP hD hS rfl dX10_open_39
    · have hf := qob_t hf c2
      refine lv_iconst (v := (-1)) hx hb dX10_open_20 (by decide) ?_
      cases qob_ret hf
      exact ct_iret X hQ hK hP hD hS rfl dX10_open_21
theorem inwX10_hedge_X10 : ∀ w ∈ wsX100, w ∈ wsX10_hedge := fun _ h => List.mem_cons_of_mem _ (List.mem_append_right _ h)
abbrev rmX10_hedge : Room := { frames := 3, cells := 0, slots := 0, locals := 73 }
theorem hdX10_hedge : yX10_hedge.cls = RX10 ∧ yX10_hedge.cls ≠ "java/lang/invoke/MethodHandle" ∧ yX10_hedge.cls ≠ "java/lang/invoke/VarHandle" ∧ (parseMethodDescriptor yX10_hedge.desc).map (fun d => d.parameters.length) = some 3 := by decide +kernel
set_option maxHeartbeats 4000000 in
set_option maxRecDepth 100000 in
theorem KX10_hedge {l : Launch} {D : va_G} {cy : Nat → ClassId} {mo : Nat} {ma : Nat → Nat} {m_thrown : Int32} {m_textSize : Int32} {m_rows : Int32} {m_columns : Int32} {m_a : Int32} {m_b : Int32} {m_readRows : Int32} {m_readColumns : Int32} {m_at : Int32} {m_looks : Int32} {m_came : Int32} {m_draw : Int64} {m_turnedRows : Int32} {m_turnedColumns : Int32} {m_right : Nat → Int32} {m_down : Nat → Int32} {p1 : Int32} {p2 : Int32} {p3 : Int32} {r : Int32} {m_thrown' : Int32} {m_right' : Nat → Int32} {m_down' : Nat → Int32} (hf : fX10_hedge m_thrown m_rows m_columns m_right m_down p1 p2 p3 = some (r, m_thrown', m_right', m_down')) : CtI l yX10_hedge wsX10_hedge rmX10_hedge D cy [.ref mo, .int p1, .int p2, .int p3] ([oX10 mo ma m_thrown m_textSize m_rows m_columns m_a m_b m_readRows m_readColumns m_at m_looks m_came m_draw m_turnedRows m_turnedColumns, aZ cy (ma 1) 36 m_right, aZ cy (ma 2) 36 m_down]) ([oX10 mo ma m_thrown' m_textSize m_rows m_columns m_a m_b m_readRows m_readColumns m_at m_looks m_came m_draw m_turnedRows m_turnedColumns, aZ cy (ma 1) 36 m_right', aZ cy (ma 2) 36 m_down']) r := by
  refine CtI.of (cc := cX10_hedge) (maxL := 5) (ret := some .int) (own := RX10) (by decide) rfl rfl (Nat.le_of_ble_eq_true rfl) ?_
  intro p e s m args below meth c A Q X hQ hK hP hD hS ls hl
  obtain ⟨hx, hb, hml, hown, hts, hr, hlocks, hA, hZ⟩ := id X
  have hl : lv_has ls 5 [(0, .ref mo), (1, .int p1), (2, .int p2), (3, .int p3)] := hl
  unfold fX10_hedge at hf
  have hf := qob_top hf
  refine lv_aload_n hx hb dX10_hedge_0 rfl (lv_at hl 0 rfl) ?_
  refine lv_iconst (v := 0) hx hb dX10_hedge_1 (by decide) ?_
  refine va_put (D := D) (ci := 10) (v := .int 0) (ty := .int) (C := RX10) (T := TX10) (N := 34) hx hb hts inwX10_hedge_X10 tyX10 tyX10_ok nmX10 hown hK hP hD hS 0 rfl rfl 0 (by decide) (hts (.fieldLink RX10 79 "HedgeWaysModel" "thrown" "I") (List.mem_of_getElem? (i := 1) rfl)) (fun _ h9 => h9) rfl (tyX10_ok 0 (by decide)) rfl rfl (Nat.le_of_ble_eq_true rfl) dX10_hedge_2 (fun H locs hP hD hS => ?_)
  have hP : va_P D vwCl ([oX10 mo ma 0 m_textSize m_rows m_columns m_a m_b m_readRows m_readColumns m_at m_looks m_came m_draw m_turnedRows m_turnedColumns, aZ cy (ma 1) 36 m_right, aZ cy (ma 2) 36 m_down]) H := hP
  have hD : va_D A ([oX10 mo ma 0 m_textSize m_rows m_columns m_a m_b m_readRows m_readColumns m_at m_looks m_came m_draw m_turnedRows m_turnedColumns, aZ cy (ma 1) 36 m_right, aZ cy (ma 2) 36 m_down]) := hD
  refine lv_aload_n hx hb dX10_hedge_5 rfl (lv_at hl 0 rfl) ?_
  refine lv_iload_n hx hb dX10_hedge_6 rfl (lv_at hl 1 rfl) ?_
  refine ctV_i0 (r := (fX10_isCell m_rows m_columns p1)) (wc := [oX10 mo ma 0 m_textSize m_rows m_columns m_a m_b m_readRows m_readColumns m_at m_looks m_came m_draw m_turnedRows m_turnedColumns]) (As := [.int p1]) (rest := []) (q0 := 0) X hK hP hD hS [0] rfl rfl rfl (KX10_isCell rfl _) (cwV 1 hts gX10_hedge_X10_isCell rfl rfl rfl hdX10_isCell ⟨Nat.le_of_ble_eq_true rfl, Nat.le_of_ble_eq_true rfl⟩) rfl rfl rfl hl rfl (Nat.le_of_ble_eq_true rfl) dX10_hedge_7 (Nat.zero_le _) (Nat.zero_le _) (fun H locs hP hS => ?_)
  refine lv_if_eq (tgt := 20) hx hb dX10_hedge_10 (by decide) (fun c1 => ?_) (fun c1 => ?_)
  · have hf := qob_t hf c1
    refine lv_iconst (v := (-1)) hx hb dX10_hedge_20 (by decide) ?_
    cases qob_ret hf
    exact ct_iret X hQ hK hP hD hS rfl dX10_hedge_21
  · have hf := qob_f hf c1
    refine lv_iload_n hx hb dX10_hedge_13 rfl (lv_at hl 2 rfl) ?_
    refine ctS_i0 (r := (fX10_isSide p2)) (wc := []) (As := [.int p2]) (rest := []) X hK hP hD hS [] rfl rfl rfl (KX10_isSide rfl _) (va_cwS 1 hts gX10_hedge_X10_isSide rfl rfl rfl hdX10_isSide ⟨Nat.le_of_ble_eq_true rfl, Nat.le_of_ble_eq_true rfl⟩) rfl hl rfl (Nat.le_of_ble_eq_true rfl) dX10_hedge_14 (Nat.zero_le _) (Nat.zero_le _) (fun H locs hP hS => ?_)
    refine lv_if_ne (tgt := 22) hx hb dX10_hedge_17 (by decide) (fun c2 => ?_) (fun c2 => ?_)
    · have hf := qob_f hf c2
      refine lv_aload_n hx hb dX10_hedge_22 rfl (lv_at hl 0 rfl) ?_
      refine lv_iload_n hx hb dX10_hedge_23 rfl (lv_at hl 1 rfl) ?_
      refine ctS_i0 (r := (fX10_index p1)) (wc := []) (As := [.int p1]) (rest := [.ref mo]) X hK hP hD hS [] rfl rfl rfl (KX10_index rfl _) (va_cwS 1 hts gX10_hedge_X10_index rfl rfl rfl hdX10_index ⟨Nat.le_of_ble_eq_true rfl, Nat.le_of_ble_eq_true rfl⟩) rfl hl rfl (Nat.le_of_ble_eq_true rfl) dX10_hedge_24 (Nat.zero_le _) (Nat.zero_le _) (fun H locs hP hS => ?_)
      refine lv_iload_n hx hb dX10_hedge_27 rfl (lv_at hl 2 rfl) ?_
      refine ctV_i0 (r := (fX10_beside m_rows m_columns (fX10_index p1) p2)) (wc := [oX10 mo ma 0 m_textSize m_rows m_columns m_a m_b m_readRows m_readColumns m_at m_looks m_came m_draw m_turnedRows m_turnedColumns]) (As := [.int (fX10_index p1), .int p2]) (rest := []) (q0 := 0) X hK hP hD hS [0] rfl rfl rfl (KX10_beside rfl _) (cwV 2 hts gX10_hedge_X10_beside rfl rfl rfl hdX10_beside ⟨Nat.le_of_ble_eq_true rfl, Nat.le_of_ble_eq_true rfl⟩) rfl rfl rfl hl rfl (Nat.le_of_ble_eq_true rfl) dX10_hedge_28 (Nat.zero_le _) (Nat.zero_le _) (fun H locs hP hS => ?_)
      refine lv_bipush (v := (-9)) hx hb dX10_hedge_31 (by decide) ?_
      refine lv_icmp_ne (tgt := 39) hx hb dX10_hedge_33 (by decide) (fun c3 => ?_) (fun c3 => ?_)
      · have hf := qob_f hf c3
        refine lv_aload_n hx hb dX10_hedge_39 rfl (lv_at hl 0 rfl) ?_
        refine lv_iload_n hx hb dX10_hedge_40 rfl (lv_at hl 1 rfl) ?_
        refine ctS_i0 (r := (fX10_index p1)) (wc := []) (As := [.int p1]) (rest := [.ref mo]) X hK hP hD hS [] rfl rfl rfl (KX10_index rfl _) (va_cwS 1 hts gX10_hedge_X10_index rfl rfl rfl hdX10_index ⟨Nat.le_of_ble_eq_true rfl, Nat.le_of_ble_eq_true rfl⟩) rfl hl rfl (Nat.le_of_ble_eq_true rfl) dX10_hedge_41 (Nat.zero_le _) (Nat.zero_le _) (fun H locs hP hS => ?_)
        refine lv_iload_n hx hb dX10_hedge_44 rfl (lv_at hl 2 rfl) ?_
        obtain ⟨r_1, q4, hf⟩ := qcall1 hf
        refine ctV_i0 (r := r_1) (wc := [oX10 mo ma 0 m_textSize m_rows m_columns m_a m_b m_readRows m_readColumns m_at m_looks m_came m_draw m_turnedRows m_turnedColumns, aZ cy (ma 1) 36 m_right, aZ cy (ma 2) 36 m_down]) (As := [.int (fX10_index p1), .int p2]) (rest := []) (q0 := 0) X hK hP hD hS [0, 1, 2] rfl rfl rfl (KX10_isOpen q4 _) (cwV 2 hts gX10_hedge_X10_isOpen rfl rfl rfl hdX10_isOpen ⟨Nat.le_of_ble_eq_true rfl, Nat.le_of_ble_eq_true rfl⟩) rfl rfl rfl hl rfl (Nat.le_of_ble_eq_true rfl) dX10_hedge_45 (Nat.zero_le _) (Nat.zero_le _) (fun H locs hP hS => ?_)
        refine qjoin1 hf (fun (s_1 : Int32) => ∀ (H : Heap) (locs : List Loc) (ls : Array Slot), ctW D A s ([oX10 mo ma 0 m_textSize m_rows m_columns m_a m_b m_readRows m_readColumns m_at m_looks m_came m_draw m_turnedRows m_turnedColumns, aZ cy (ma 1) 36 m_right, aZ cy (ma 2) 36 m_down]) H locs → lv_has ls 5 [(0, .ref mo), (1, .int p1), (2, .int p2), (3, .int p3)] → W p l e rmX10_hedge s m args below meth c H locs 0 0 Q (F0 m 56 ls [.int s_1])) ?_ ?_
        · intro s_1 hf H locs ls ⟨hP, hD, hS⟩ hl
          refine lv_istore (lv' := [(4, .int s_1), (0, .ref mo), (1, .int p1), (2, .int p2), (3, .int p3)]) hx hb dX10_hedge_56 hl (by decide) rfl (fun ls hl => ?_)
          refine lv_aload_n hx hb dX10_hedge_58 rfl (lv_at hl 1 rfl) ?_
          refine lv_iload_n hx hb dX10_hedge_59 rfl (lv_at hl 2 rfl) ?_
          refine ctS_i0 (r := (fX10_index p1)) (wc := []) (As := [.int p1]) (rest := [.ref mo]) X hK hP hD hS [] rfl rfl rfl (KX10_index rfl _) (va_cwS 1 hts gX10_hedge_X10_index rfl rfl rfl hdX10_index ⟨Nat.le_of_ble_eq_true rfl, Nat.le_of_ble_eq_true rfl⟩) rfl hl rfl (Nat.le_of_ble_eq_true rfl) dX10_hedge_60 (Nat.zero_le _) (Nat.zero_le _) (fun H locs hP hS => ?_)
          refine lv_iload_n hx hb dX10_hedge_63 rfl (lv_at hl 3 rfl) ?_
          refine lv_iload_n hx hb dX10_hedge_64 rfl (lv_at hl 4 rfl) ?_
          obtain ⟨m_right_1, m_down_1, q5, hf⟩ := qcall2 hf
          refine ctV_v (wc := [oX10 mo ma 0 m_textSize m_rows m_columns m_a m_b m_readRows m_readColumns m_at m_looks m_came m_draw m_turnedRows m_turnedColumns, aZ cy (ma 1) 36 m_right, aZ cy (ma 2) 36 m_down]) (w1 := [oX10 mo ma 0 m_textSize m_rows m_columns m_a m_b m_readRows m_readColumns m_at m_looks m_came m_draw m_turnedRows m_turnedColumns, aZ cy (ma 1) 36 m_right_1, aZ cy (ma 2) 36 m_down_1]) (wr := []) (wn := [oX10 mo ma 0 m_textSize m_rows m_columns m_a m_b m_readRows m_readColumns m_at m_looks m_came m_draw m_turnedRows m_turnedColumns, aZ cy (ma 1) 36 m_right_1, aZ cy (ma 2) 36 m_down_1]) (As := [.int (fX10_index p1), .int p2, .int p3]) (rest := []) (q0 := 0) X hK hP hD hS [0, 1, 2] [] [0, 1, 2] rfl rfl rfl rfl rfl (by decide) rfl rfl rfl (KX10_set q5 _) (cwV 3 hts gX10_hedge_X10_set rfl rfl rfl hdX10_set ⟨Nat.le_of_ble_eq_true rfl, Nat.le_of_ble_eq_true rfl⟩) rfl rfl rfl hl rfl (Nat.le_of_ble_eq_true rfl) dX10_hedge_65 (Nat.zero_le _) (Nat.zero_le _) (fun H locs hP hD hS => ?_)
          refine lv_iload hx hb dX10_hedge_68 (lv_at hl 0 rfl) ?_
          cases qob_ret hf
          exact ct_iret X hQ hK hP hD hS rfl dX10_hedge_70
        · intro J6 hJ6 hf
          refine lv_if_eq (tgt := 55) hx hb dX10_hedge_48 (by decide) (fun c7 => ?_) (fun c7 => ?_)
          · have hf := qob_t hf c7
            refine lv_iconst (v := 0) hx hb dX10_hedge_55 (by decide) ?_
            exact hJ6 0 hf _ _ _ ⟨hP, hD, hS⟩ hl
          · have hf := qob_f hf c7
            refine lv_iconst (v := 1) hx hb dX10_hedge_51 (by decide) ?_
            refine lv_goto (tgt := 56) hx hb dX10_hedge_52 (by decide) ?_
            exact hJ6 1 hf _ _ _ ⟨hP, hD, hS⟩ hl
      · have hf := qob_t hf c3
        refine lv_bipush (v := (-3)) hx hb dX10_hedge_36 (by decide) ?_
        cases qob_ret hf
        exact ct_iret X hQ hK hP hD hS rfl dX10_hedge_38
    · have hf := qob_t hf c2
      refine lv_iconst (v := (-1)) hx hb dX10_hedge_20 (by decide) ?_
      cases qob_ret hf
      exact ct_iret X hQ hK hP hD hS rfl dX10_hedge_21
theorem inwX10_gates_X10 : ∀ w ∈ wsX100, w ∈ wsX10_gates := fun _ h => List.mem_cons_of_mem _ (List.mem_append_right _ h)
abbrev rmX10_gates : Room := { frames := 1, cells := 0, slots := 0, locals := 21 }
theorem hdX10_gates : yX10_gates.cls = RX10 ∧ yX10_gates.cls ≠ "java/lang/invoke/MethodHandle" ∧ yX10_gates.cls ≠ "java/lang/invoke/VarHandle" ∧ (parseMethodDescriptor yX10_gates.desc).map (fun d => d.parameters.length) = some 2 := by decide +kernel
set_option maxHeartbeats 4000000 in
set_option maxRecDepth 100000 in
theorem KX10_gates {l : Launch} {D : va_G} {cy : Nat → ClassId} {mo : Nat} {ma : Nat → Nat} {m_thrown : Int32} {m_textSize : Int32} {m_rows : Int32} {m_columns : Int32} {m_a : Int32} {m_b : Int32} {m_readRows : Int32} {m_readColumns : Int32} {m_at : Int32} {m_looks : Int32} {m_came : Int32} {m_draw : Int64} {m_turnedRows : Int32} {m_turnedColumns : Int32} {p1 : Int32} {p2 : Int32} {r : Int32} {m_thrown' : Int32} {m_a' : Int32} {m_b' : Int32} (hf : fX10_gates m_thrown m_rows m_columns m_a m_b p1 p2 = (r, m_thrown', m_a', m_b')) : CtI l yX10_gates wsX10_gates rmX10_gates D cy [.ref mo, .int p1, .int p2] ([oX10 mo ma m_thrown m_textSize m_rows m_columns m_a m_b m_readRows m_readColumns m_at m_looks m_came m_draw m_turnedRows m_turnedColumns]) ([oX10 mo ma m_thrown' m_textSize m_rows m_columns m_a' m_b' m_readRows m_readColumns m_at m_looks m_came m_draw m_turnedRows m_turnedColumns]) r := by
  refine CtI.of (cc := cX10_gates) (maxL := 4) (ret := some .int) (own := RX10) (by decide) rfl rfl (Nat.le_of_ble_eq_true rfl) ?_
  intro p e s m args below meth c A Q X hQ hK hP hD hS ls hl
  obtain ⟨hx, hb, hml, hown, hts, hr, hlocks, hA, hZ⟩ := id X
  have hl : lv_has ls 4 [(0, .ref mo), (1, .int p1), (2, .int p2)] := hl
  unfold fX10_gates at hf
  have hf := qbb_top hf
  refine lv_aload_n hx hb dX10_gates_0 rfl (lv_at hl 0 rfl) ?_
  refine lv_iconst (v := 0) hx hb dX10_gates_1 (by decide) ?_
  refine va_put (D := D) (ci := 10) (v := .int 0) (ty := .int) (C := RX10) (T := TX10) (N := 34) hx hb hts inwX10_gates_X10 tyX10 tyX10_ok nmX10 hown hK hP hD hS 0 rfl rfl 0 (by decide) (hts (.fieldLink RX10 79 "HedgeWaysModel" "thrown" "I") (List.mem_of_getElem? (i := 1) rfl)) (fun _ h9 => h9) rfl (tyX10_ok 0 (by decide)) rfl rfl (Nat.le_of_ble_eq_true rfl) dX10_gates_2 (fun H locs hP hD hS => ?_)
  have hP : va_P D vwCl ([oX10 mo ma 0 m_textSize m_rows m_columns m_a m_b m_readRows m_readColumns m_at m_looks m_came m_draw m_turnedRows m_turnedColumns]) H := hP
  have hD : va_D A ([oX10 mo ma 0 m_textSize m_rows m_columns m_a m_b m_readRows m_readColumns m_at m_looks m_came m_draw m_turnedRows m_turnedColumns]) := hD
  refine lv_aload_n hx hb dX10_gates_5 rfl (lv_at hl 0 rfl) ?_
  refine lv_iload_n hx hb dX10_gates_6 rfl (lv_at hl 1 rfl) ?_
  refine ctV_i0 (r := (fX10_isCell m_rows m_columns p1)) (wc := [oX10 mo ma 0 m_textSize m_rows m_columns m_a m_b m_readRows m_readColumns m_at m_looks m_came m_draw m_turnedRows m_turnedColumns]) (As := [.int p1]) (rest := []) (q0 := 0) X hK hP hD hS [0] rfl rfl rfl (KX10_isCell rfl _) (cwV 1 hts gX10_gates_X10_isCell rfl rfl rfl hdX10_isCell ⟨Nat.le_of_ble_eq_true rfl, Nat.le_of_ble_eq_true rfl⟩) rfl rfl rfl hl rfl (Nat.le_of_ble_eq_true rfl) dX10_gates_7 (Nat.zero_le _) (Nat.zero_le _) (fun H locs hP hS => ?_)
  refine lv_if_eq (tgt := 21) hx hb dX10_gates_10 (by decide) (fun c1 => ?_) (fun c1 => ?_)
  · have hf := qbb_t hf c1
    refine lv_iconst (v := (-1)) hx hb dX10_gates_21 (by decide) ?_
    cases qbb_ret hf
    exact ct_iret X hQ hK hP hD hS rfl dX10_gates_22
  · have hf := qbb_f hf c1
    refine lv_aload_n hx hb dX10_gates_13 rfl (lv_at hl 0 rfl) ?_
    refine lv_iload_n hx hb dX10_gates_14 rfl (lv_at hl 2 rfl) ?_
    refine ctV_i0 (r := (fX10_isCell m_rows m_columns p2)) (wc := [oX10 mo ma 0 m_textSize m_rows m_columns m_a m_b m_readRows m_readColumns m_at m_looks m_came m_draw m_turnedRows m_turnedColumns]) (As := [.int p2]) (rest := []) (q0 := 0) X hK hP hD hS [0] rfl rfl rfl (KX10_isCell rfl _) (cwV 1 hts gX10_gates_X10_isCell rfl rfl rfl hdX10_isCell ⟨Nat.le_of_ble_eq_true rfl, Nat.le_of_ble_eq_true rfl⟩) rfl rfl rfl hl rfl (Nat.le_of_ble_eq_true rfl) dX10_gates_15 (Nat.zero_le _) (Nat.zero_le _) (fun H locs hP hS => ?_)
    refine lv_if_ne (tgt := 23) hx hb dX10_gates_18 (by decide) (fun c2 => ?_) (fun c2 => ?_)
    · have hf := qbb_f hf c2
      refine lv_bipush (v := 100) hx hb dX10_gates_23 (by decide) ?_
      refine lv_aload_n hx hb dX10_gates_25 rfl (lv_at hl 0 rfl) ?_
      refine va_get (D := D) (ci := 10) (v := .int m_a) (C := RX10) (T := TX10) (N := 34) hx hb hts inwX10_gates_X10 hown hK hP 0 rfl rfl 7 (by decide) (hts (.fieldLink RX10 103 "HedgeWaysModel" "a" "I") (List.mem_of_getElem? (i := 2) rfl)) (fun _ h9 => h9) rfl dX10_gates_26 ?_
      refine ctS_i0 (r := (fX10_code m_a)) (wc := []) (As := [.int m_a]) (rest := [.int 100]) X hK hP hD hS [] rfl rfl rfl (KX10_code rfl _) (va_cwS 1 hts gX10_gates_X10_code rfl rfl rfl hdX10_code ⟨Nat.le_of_ble_eq_true rfl, Nat.le_of_ble_eq_true rfl⟩) rfl hl rfl (Nat.le_of_ble_eq_true rfl) dX10_gates_29 (Nat.zero_le _) (Nat.zero_le _) (fun H locs hP hS => ?_)
      refine lv_imul hx hb dX10_gates_32 ?_
      refine lv_aload_n hx hb dX10_gates_33 rfl (lv_at hl 0 rfl) ?_
      refine va_get (D := D) (ci := 10) (v := .int m_b) (C := RX10) (T := TX10) (N := 34) hx hb hts inwX10_gates_X10 hown hK hP 0 rfl rfl 8 (by decide) (hts (.fieldLink RX10 106 "HedgeWaysModel" "b" "I") (List.mem_of_getElem? (i := 3) rfl)) (fun _ h9 => h9) rfl dX10_gates_34 ?_
      refine ctS_i0 (r := (fX10_code m_b)) (wc := []) (As := [.int m_b]) (rest := [.int (100 * (fX10_code m_a))]) X hK hP hD hS [] rfl rfl rfl (KX10_code rfl _) (va_cwS 1 hts gX10_gates_X10_code rfl rfl rfl hdX10_code ⟨Nat.le_of_ble_eq_true rfl, Nat.le_of_ble_eq_true rfl⟩) rfl hl rfl (Nat.le_of_ble_eq_true rfl) dX10_gates_37 (Nat.zero_le _) (Nat.zero_le _) (fun H locs hP hS => ?_)
      refine lv_iadd hx hb dX10_gates_40 ?_
      refine lv_istore_n (lv' := [(3, .int ((100 * (fX10_code m_a)) + (fX10_code m_b))), (0, .ref mo), (1, .int p1), (2, .int p2)]) hx hb dX10_gates_41 rfl hl (by decide) rfl (fun ls hl => ?_)
      refine lv_aload_n hx hb dX10_gates_42 rfl (lv_at hl 1 rfl) ?_
      refine lv_iload_n hx hb dX10_gates_43 rfl (lv_at hl 2 rfl) ?_
      refine ctS_i0 (r := (fX10_index p1)) (wc := []) (As := [.int p1]) (rest := [.ref mo]) X hK hP hD hS [] rfl rfl rfl (KX10_index rfl _) (va_cwS 1 hts gX10_gates_X10_index rfl rfl rfl hdX10_index ⟨Nat.le_of_ble_eq_true rfl, Nat.le_of_ble_eq_true rfl⟩) rfl hl rfl (Nat.le_of_ble_eq_true rfl) dX10_gates_44 (Nat.zero_le _) (Nat.zero_le _) (fun H locs hP hS => ?_)
      refine va_put (D := D) (ci := 10) (v := .int (fX10_index p1)) (ty := .int) (C := RX10) (T := TX10) (N := 34) hx hb hts inwX10_gates_X10 tyX10 tyX10_ok nmX10 hown hK hP hD hS 0 rfl rfl 7 (by decide) (hts (.fieldLink RX10 103 "HedgeWaysModel" "a" "I") (List.mem_of_getElem? (i := 2) rfl)) (fun _ h9 => h9) rfl (tyX10_ok 7 (by decide)) rfl rfl (Nat.le_of_ble_eq_true rfl) dX10_gates_47 (fun H locs hP hD hS => ?_)
      have hP : va_P D vwCl ([oX10 mo ma 0 m_textSize m_rows m_columns (fX10_index p1) m_b m_readRows m_readColumns m_at m_looks m_came m_draw m_turnedRows m_turnedColumns]) H := hP
      have hD : va_D A ([oX10 mo ma 0 m_textSize m_rows m_columns (fX10_index p1) m_b m_readRows m_readColumns m_at m_looks m_came m_draw m_turnedRows m_turnedColumns]) := hD
      refine lv_aload_n hx hb dX10_gates_50 rfl (lv_at hl 1 rfl) ?_
      refine lv_iload_n hx hb dX10_gates_51 rfl (lv_at hl 3 rfl) ?_
      refine ctS_i0 (r := (fX10_index p2)) (wc := []) (As := [.int p2]) (rest := [.ref mo]) X hK hP hD hS [] rfl rfl rfl (KX10_index rfl _) (va_cwS 1 hts gX10_gates_X10_index rfl rfl rfl hdX10_index ⟨Nat.le_of_ble_eq_true rfl, Nat.le_of_ble_eq_true rfl⟩) rfl hl rfl (Nat.le_of_ble_eq_true rfl) dX10_gates_52 (Nat.zero_le _) (Nat.zero_le _) (fun H locs hP hS => ?_)
      refine va_put (D := D) (ci := 10) (v := .int (fX10_index p2)) (ty := .int) (C := RX10) (T := TX10) (N := 34) hx hb hts inwX10_gates_X10 tyX10 tyX10_ok nmX10 hown hK hP hD hS 0 rfl rfl 8 (by decide) (hts (.fieldLink RX10 106 "HedgeWaysModel" "b" "I") (List.mem_of_getElem? (i := 3) rfl)) (fun _ h9 => h9) rfl (tyX10_ok 8 (by decide)) rfl rfl (Nat.le_of_ble_eq_true rfl) dX10_gates_55 (fun H locs hP hD hS => ?_)
      have hP : va_P D vwCl ([oX10 mo ma 0 m_textSize m_rows m_columns (fX10_index p1) (fX10_index p2) m_readRows m_readColumns m_at m_looks m_came m_draw m_turnedRows m_turnedColumns]) H := hP
      have hD : va_D A ([oX10 mo ma 0 m_textSize m_rows m_columns (fX10_index p1) (fX10_index p2) m_readRows m_readColumns m_at m_looks m_came m_draw m_turnedRows m_turnedColumns]) := hD
      refine lv_iload_n hx hb dX10_gates_58 rfl (lv_at hl 0 rfl) ?_
      cases qbb_ret hf
      exact ct_iret X hQ hK hP hD hS rfl dX10_gates_59
    · have hf := qbb_t hf c2
      refine lv_iconst (v := (-1)) hx hb dX10_gates_21 (by decide) ?_
      cases qbb_ret hf
      exact ct_iret X hQ hK hP hD hS rfl dX10_gates_22
theorem inwX10_figureOf_X10 : ∀ w ∈ wsX100, w ∈ wsX10_figureOf := fun _ h => List.mem_cons_of_mem _ (List.mem_append_right _ h)
abbrev rmX10_figureOf : Room := { frames := 0, cells := 0, slots := 0, locals := 0 }
theorem hdX10_figureOf : yX10_figureOf.cls = RX10 ∧ yX10_figureOf.cls ≠ "java/lang/invoke/MethodHandle" ∧ yX10_figureOf.cls ≠ "java/lang/invoke/VarHandle" ∧ (parseMethodDescriptor yX10_figureOf.desc).map (fun d => d.parameters.length) = some 1 := by decide +kernel
set_option maxHeartbeats 4000000 in
set_option maxRecDepth 100000 in
theorem KX10_figureOf {l : Launch} {D : va_G} {cy : Nat → ClassId} {mo : Nat} {ma : Nat → Nat} {m_thrown : Int32} {m_textSize : Int32} {m_rows : Int32} {m_columns : Int32} {m_a : Int32} {m_b : Int32} {m_readRows : Int32} {m_readColumns : Int32} {m_at : Int32} {m_looks : Int32} {m_came : Int32} {m_draw : Int64} {m_turnedRows : Int32} {m_turnedColumns : Int32} {m_right : Nat → Int32} {m_down : Nat → Int32} {p1 : Int32} {r : Int32} (hf : fX10_figureOf m_right m_down p1 = some r) : CtI l yX10_figureOf wsX10_figureOf rmX10_figureOf D cy [.ref mo, .int p1] ([oX10 mo ma m_thrown m_textSize m_rows m_columns m_a m_b m_readRows m_readColumns m_at m_looks m_came m_draw m_turnedRows m_turnedColumns, aZ cy (ma 1) 36 m_right, aZ cy (ma 2) 36 m_down]) ([oX10 mo ma m_thrown m_textSize m_rows m_columns m_a m_b m_readRows m_readColumns m_at m_looks m_came m_draw m_turnedRows m_turnedColumns, aZ cy (ma 1) 36 m_right, aZ cy (ma 2) 36 m_down]) r := by
  refine CtI.of (cc := cX10_figureOf) (maxL := 2) (ret := some .int) (own := RX10) (by decide) rfl rfl (Nat.le_of_ble_eq_true rfl) ?_
  intro p e s m args below meth c A Q X hQ hK hP hD hS ls hl
  obtain ⟨hx, hb, hml, hown, hts, hr, hlocks, hA, hZ⟩ := id X
  have hl : lv_has ls 2 [(0, .ref mo), (1, .int p1)] := hl
  unfold fX10_figureOf at hf
  have hf := qob_top hf
  refine lv_aload_n hx hb dX10_figureOf_0 rfl (lv_at hl 0 rfl) ?_
  refine va_get (D := D) (ci := 10) (v := .ref (ma 1)) (C := RX10) (T := TX10) (N := 34) hx hb hts inwX10_figureOf_X10 hown hK hP 0 rfl rfl 5 (by decide) (hts (.fieldLink RX10 20 "HedgeWaysModel" "right" "[Z") (List.mem_of_getElem? (i := 1) rfl)) (fun _ h9 => h9) rfl dX10_figureOf_1 ?_
  refine lv_iload_n hx hb dX10_figureOf_4 rfl (lv_at hl 1 rfl) ?_
  obtain ⟨i1, hf⟩ := qob_gd hf
  refine va_zald hx hb hK hP 1 2 rfl rfl i1 dX10_figureOf_5 ?_
  refine qjoin1 hf (fun (s_1 : Int32) => ∀ (H : Heap) (locs : List Loc) (ls : Array Slot), ctW D A s ([oX10 mo ma m_thrown m_textSize m_rows m_columns m_a m_b m_readRows m_readColumns m_at m_looks m_came m_draw m_turnedRows m_turnedColumns, aZ cy (ma 1) 36 m_right, aZ cy (ma 2) 36 m_down]) H locs → lv_has ls 2 [(0, .ref mo), (1, .int p1)] → W p l e rmX10_figureOf s m args below meth c H locs 0 0 Q (F0 m 14 ls [.int s_1])) ?_ ?_
  · intro s_1 hf H locs ls ⟨hP, hD, hS⟩ hl
    refine lv_aload_n hx hb dX10_figureOf_14 rfl (lv_at hl 0 rfl) ?_
    refine va_get (D := D) (ci := 10) (v := .ref (ma 2)) (C := RX10) (T := TX10) (N := 34) hx hb hts inwX10_figureOf_X10 hown hK hP 0 rfl rfl 6 (by decide) (hts (.fieldLink RX10 24 "HedgeWaysModel" "down" "[Z") (List.mem_of_getElem? (i := 2) rfl)) (fun _ h9 => h9) rfl dX10_figureOf_15 ?_
    refine lv_iload_n hx hb dX10_figureOf_18 rfl (lv_at hl 1 rfl) ?_
    obtain ⟨i2, hf⟩ := qob_gd hf
    refine va_zald hx hb hK hP 2 2 rfl rfl i2 dX10_figureOf_19 ?_
    refine lv_if_eq (tgt := 27) hx hb dX10_figureOf_20 (by decide) (fun c3 => ?_) (fun c3 => ?_)
    · have hf := qob_t hf c3
      refine lv_iconst (v := 0) hx hb dX10_figureOf_27 (by decide) ?_
      refine lv_iadd hx hb dX10_figureOf_28 ?_
      cases qob_ret hf
      exact ct_iret X hQ hK hP hD hS rfl dX10_figureOf_29
    · have hf := qob_f hf c3
      refine lv_iconst (v := 2) hx hb dX10_figureOf_23 (by decide) ?_
      refine lv_goto (tgt := 28) hx hb dX10_figureOf_24 (by decide) ?_
      refine lv_iadd hx hb dX10_figureOf_28 ?_
      cases qob_ret hf
      exact ct_iret X hQ hK hP hD hS rfl dX10_figureOf_29
  · intro J4 hJ4 hf
    refine lv_if_eq (tgt := 13) hx hb dX10_figureOf_6 (by decide) (fun c5 => ?_) (fun c5 => ?_)
    · have hf := qob_t hf c5
      refine lv_iconst (v := 0) hx hb dX10_figureOf_13 (by decide) ?_
      exact hJ4 0 hf _ _ _ ⟨hP, hD, hS⟩ hl
    · have hf := qob_f hf c5
      refine lv_iconst (v := 1) hx hb dX10_figureOf_9 (by decide) ?_
      refine lv_goto (tgt := 14) hx hb dX10_figureOf_10 (by decide) ?_
      exact hJ4 1 hf _ _ _ ⟨hP, hD, hS⟩ hl
theorem inwX10_figure_X10 : ∀ w ∈ wsX100, w ∈ wsX10_figure := fun _ h => List.mem_cons_of_mem _ (List.mem_append_right _ h)
abbrev rmX10_figure : Room := { frames := 1, cells := 0, slots := 0, locals := 21 }
theorem hdX10_figure : yX10_figure.cls = RX10 ∧ yX10_figure.cls ≠ "java/lang/invoke/MethodHandle" ∧ yX10_figure.cls ≠ "java/lang/invoke/VarHandle" ∧ (parseMethodDescriptor yX10_figure.desc).map (fun d => d.parameters.length) = some 1 := by decide +kernel
set_option maxHeartbeats 4000000 in
set_option maxRecDepth 100000 in
theorem KX10_figure {l : Launch} {D : va_G} {cy : Nat → ClassId} {mo : Nat} {ma : Nat → Nat} {m_thrown : Int32} {m_textSize : Int32} {m_rows : Int32} {m_columns : Int32} {m_a : Int32} {m_b : Int32} {m_readRows : Int32} {m_readColumns : Int32} {m_at : Int32} {m_looks : Int32} {m_came : Int32} {m_draw : Int64} {m_turnedRows : Int32} {m_turnedColumns : Int32} {m_right : Nat → Int32} {m_down : Nat → Int32} {p1 : Int32} {r : Int32} {m_thrown' : Int32} (hf : fX10_figure m_thrown m_rows m_columns m_right m_down p1 = some (r, m_thrown')) : CtI l yX10_figure wsX10_figure rmX10_figure D cy [.ref mo, .int p1] ([oX10 mo ma m_thrown m_textSize m_rows m_columns m_a m_b m_readRows m_readColumns m_at m_looks m_came m_draw m_turnedRows m_turnedColumns, aZ cy (ma 1) 36 m_right, aZ cy (ma 2) 36 m_down]) ([oX10 mo ma m_thrown' m_textSize m_rows m_columns m_a m_b m_readRows m_readColumns m_at m_looks m_came m_draw m_turnedRows m_turnedColumns, aZ cy (ma 1) 36 m_right, aZ cy (ma 2) 36 m_down]) r := by
  refine CtI.of (cc := cX10_figure) (maxL := 2) (ret := some .int) (own := RX10) (by decide) rfl rfl (Nat.le_of_ble_eq_true rfl) ?_
  intro p e s m args below meth c A Q X hQ hK hP hD hS ls hl
  obtain ⟨hx, hb, hml, hown, hts, hr, hlocks, hA, hZ⟩ := id X
  have hl : lv_has ls 2 [(0, .ref mo), (1, .int p1)] := hl
  unfold fX10_figure at hf
  have hf := qob_top hf
  refine lv_aload_n hx hb dX10_figure_0 rfl (lv_at hl 0 rfl) ?_
  refine lv_iconst (v := 0) hx hb dX10_figure_1 (by decide) ?_
  refine va_put (D := D) (ci := 10) (v := .int 0) (ty := .int) (C := RX10) (T := TX10) (N := 34) hx hb hts inwX10_figure_X10 tyX10 tyX10_ok nmX10 hown hK hP hD hS 0 rfl rfl 0 (by decide) (hts (.fieldLink RX10 79 "HedgeWaysModel" "thrown" "I") (List.mem_of_getElem? (i := 1) rfl)) (fun _ h9 => h9) rfl (tyX10_ok 0 (by decide)) rfl rfl (Nat.le_of_ble_eq_true rfl) dX10_figure_2 (fun H locs hP hD hS => ?_)
  have hP : va_P D vwCl ([oX10 mo ma 0 m_textSize m_rows m_columns m_a m_b m_readRows m_readColumns m_at m_looks m_came m_draw m_turnedRows m_turnedColumns, aZ cy (ma 1) 36 m_right, aZ cy (ma 2) 36 m_down]) H := hP
  have hD : va_D A ([oX10 mo ma 0 m_textSize m_rows m_columns m_a m_b m_readRows m_readColumns m_at m_looks m_came m_draw m_turnedRows m_turnedColumns, aZ cy (ma 1) 36 m_right, aZ cy (ma 2) 36 m_down]) := hD
  refine lv_aload_n hx hb dX10_figure_5 rfl (lv_at hl 0 rfl) ?_
  refine lv_iload_n hx hb dX10_figure_6 rfl (lv_at hl 1 rfl) ?_
  refine ctV_i0 (r := (fX10_isCell m_rows m_columns p1)) (wc := [oX10 mo ma 0 m_textSize m_rows m_columns m_a m_b m_readRows m_readColumns m_at m_looks m_came m_draw m_turnedRows m_turnedColumns]) (As := [.int p1]) (rest := []) (q0 := 0) X hK hP hD hS [0] rfl rfl rfl (KX10_isCell rfl _) (cwV 1 hts gX10_figure_X10_isCell rfl rfl rfl hdX10_isCell ⟨Nat.le_of_ble_eq_true rfl, Nat.le_of_ble_eq_true rfl⟩) rfl rfl rfl hl rfl (Nat.le_of_ble_eq_true rfl) dX10_figure_7 (Nat.zero_le _) (Nat.zero_le _) (fun H locs hP hS => ?_)
  refine lv_if_eq (tgt := 24) hx hb dX10_figure_10 (by decide) (fun c1 => ?_) (fun c1 => ?_)
  · have hf := qob_t hf c1
    refine lv_iconst (v := (-1)) hx hb dX10_figure_24 (by decide) ?_
    cases qob_ret hf
    exact ct_iret X hQ hK hP hD hS rfl dX10_figure_25
  · have hf := qob_f hf c1
    refine lv_aload_n hx hb dX10_figure_13 rfl (lv_at hl 0 rfl) ?_
    refine lv_iload_n hx hb dX10_figure_14 rfl (lv_at hl 1 rfl) ?_
    refine ctS_i0 (r := (fX10_index p1)) (wc := []) (As := [.int p1]) (rest := [.ref mo]) X hK hP hD hS [] rfl rfl rfl (KX10_index rfl _) (va_cwS 1 hts gX10_figure_X10_index rfl rfl rfl hdX10_index ⟨Nat.le_of_ble_eq_true rfl, Nat.le_of_ble_eq_true rfl⟩) rfl hl rfl (Nat.le_of_ble_eq_true rfl) dX10_figure_15 (Nat.zero_le _) (Nat.zero_le _) (fun H locs hP hS => ?_)
    obtain ⟨r_1, q2, hf⟩ := qcall1 hf
    refine ctV_i0 (r := r_1) (wc := [oX10 mo ma 0 m_textSize m_rows m_columns m_a m_b m_readRows m_readColumns m_at m_looks m_came m_draw m_turnedRows m_turnedColumns, aZ cy (ma 1) 36 m_right, aZ cy (ma 2) 36 m_down]) (As := [.int (fX10_index p1)]) (rest := []) (q0 := 0) X hK hP hD hS [0, 1, 2] rfl rfl rfl (KX10_figureOf q2 _) (cwV 1 hts gX10_figure_X10_figureOf rfl rfl rfl hdX10_figureOf ⟨Nat.le_of_ble_eq_true rfl, Nat.le_of_ble_eq_true rfl⟩) rfl rfl rfl hl rfl (Nat.le_of_ble_eq_true rfl) dX10_figure_18 (Nat.zero_le _) (Nat.zero_le _) (fun H locs hP hS => ?_)
    refine lv_goto (tgt := 25) hx hb dX10_figure_21 (by decide) ?_
    cases qob_ret hf
    exact ct_iret X hQ hK hP hD hS rfl dX10_figure_25
theorem inwX10_openings_X10 : ∀ w ∈ wsX100, w ∈ wsX10_openings := fun _ h => List.mem_cons_of_mem _ (List.mem_append_right _ h)
abbrev rmX10_openings : Room := { frames := 0, cells := 0, slots := 0, locals := 0 }
theorem hdX10_openings : yX10_openings.cls = RX10 ∧ yX10_openings.cls ≠ "java/lang/invoke/MethodHandle" ∧ yX10_openings.cls ≠ "java/lang/invoke/VarHandle" ∧ (parseMethodDescriptor yX10_openings.desc).map (fun d => d.parameters.length) = some 0 := by decide +kernel
set_option maxHeartbeats 4000000 in
set_option maxRecDepth 100000 in
theorem KX10_openings {l : Launch} {D : va_G} {cy : Nat → ClassId} {mo : Nat} {ma : Nat → Nat} {m_thrown : Int32} {m_textSize : Int32} {m_rows : Int32} {m_columns : Int32} {m_a : Int32} {m_b : Int32} {m_readRows : Int32} {m_readColumns : Int32} {m_at : Int32} {m_looks : Int32} {m_came : Int32} {m_draw : Int64} {m_turnedRows : Int32} {m_turnedColumns : Int32} {m_right : Nat → Int32} {m_down : Nat → Int32}  {r : Int32} (hf : fX10_openings m_right m_down = some r) : CtI l yX10_openings wsX10_openings rmX10_openings D cy [.ref mo] ([oX10 mo ma m_thrown m_textSize m_rows m_columns m_a m_b m_readRows m_readColumns m_at m_looks m_came m_draw m_turnedRows m_turnedColumns, aZ cy (ma 1) 36 m_right, aZ cy (ma 2) 36 m_down]) ([oX10 mo ma m_thrown m_textSize m_rows m_columns m_a m_b m_readRows m_readColumns m_at m_looks m_came m_draw m_turnedRows m_turnedColumns, aZ cy (ma 1) 36 m_right, aZ cy (ma 2) 36 m_down]) r := by
  refine CtI.of (cc := cX10_openings) (maxL := 3) (ret := some .int) (own := RX10) (by decide) rfl rfl (Nat.le_of_ble_eq_true rfl) ?_
  intro p e s m args below meth c A Q X hQ hK hP hD hS ls hl
  obtain ⟨hx, hb, hml, hown, hts, hr, hlocks, hA, hZ⟩ := id X
  have hl : lv_has ls 3 [(0, .ref mo)] := hl
  unfold fX10_openings at hf
  have hf := qob_top hf
  refine lv_iconst (v := 0) hx hb dX10_openings_0 (by decide) ?_
  refine lv_istore_n (lv' := [(1, .int 0), (0, .ref mo)]) hx hb dX10_openings_1 rfl hl (by decide) rfl (fun ls hl => ?_)
  refine lv_iconst (v := 0) hx hb dX10_openings_2 (by decide) ?_
  refine lv_istore_n (lv' := [(2, .int 0), (1, .int 0), (0, .ref mo)]) hx hb dX10_openings_3 rfl hl (by decide) rfl (fun ls hl => ?_)
  refine qjoin1 hf (fun (x1_1 : Int32) => ∀ (H : Heap) (locs : List Loc) (ls : Array Slot), ctW D A s ([oX10 mo ma m_thrown m_textSize m_rows m_columns m_a m_b m_readRows m_readColumns m_at m_looks m_came m_draw m_turnedRows m_turnedColumns, aZ cy (ma 1) 36 m_right, aZ cy (ma 2) 36 m_down]) H locs → lv_has ls 3 [(1, .int x1_1)] → W p l e rmX10_openings s m args below meth c H locs 0 0 Q (F0 m 48 ls [])) ?_ ?_
  · intro x1_1 hf H locs ls ⟨hP, hD, hS⟩ hl
    refine lv_iload_n hx hb dX10_openings_48 rfl (lv_at hl 0 rfl) ?_
    cases qob_ret hf
    exact ct_iret X hQ hK hP hD hS rfl dX10_openings_49
  · intro J1 hJ1 hf
    refine qwalk2 (fun (x1_2 : Int32) (x2_1 : Int32) => ∀ (H : Heap) (locs : List Loc) (ls : Array Slot), ctW D A s ([oX10 mo ma m_thrown m_textSize m_rows m_columns m_a m_b m_readRows m_readColumns m_at m_looks m_came m_draw m_turnedRows m_turnedColumns, aZ cy (ma 1) 36 m_right, aZ cy (ma 2) 36 m_down]) H locs → lv_has ls 3 [(0, .ref mo), (1, .int x1_2), (2, .int x2_1)] → W p l e rmX10_openings s m args below meth c H locs 0 0 Q (F0 m 4 ls [])) ?_ _ (0 : Int32) (0 : Int32) hf _ _ _ ⟨hP, hD, hS⟩ (lv_sub hl [2, 1, 0] rfl)
    intro J2 hL2 x1_2 x2_1 hf H locs ls ⟨hP, hD, hS⟩ hl
    refine lv_iload_n hx hb dX10_openings_4 rfl (lv_at hl 2 rfl) ?_
    refine lv_bipush (v := 36) hx hb dX10_openings_5 (by decide) ?_
    refine lv_icmp_ge (tgt := 48) hx hb dX10_openings_7 (by decide) (fun c3 => ?_) (fun c3 => ?_)
    · have hf := qob_t hf c3
      have hf := qob_esc hf
      exact hJ1 x1_2 hf _ _ _ ⟨hP, hD, hS⟩ (lv_sub hl [1] rfl)
    · have hf := qob_f hf c3
      refine lv_iload_n hx hb dX10_openings_10 rfl (lv_at hl 1 rfl) ?_
      refine lv_aload_n hx hb dX10_openings_11 rfl (lv_at hl 0 rfl) ?_
      refine va_get (D := D) (ci := 10) (v := .ref (ma 1)) (C := RX10) (T := TX10) (N := 34) hx hb hts inwX10_openings_X10 hown hK hP 0 rfl rfl 5 (by decide) (hts (.fieldLink RX10 20 "HedgeWaysModel" "right" "[Z") (List.mem_of_getElem? (i := 1) rfl)) (fun _ h9 => h9) rfl dX10_openings_12 ?_
      refine lv_iload_n hx hb dX10_openings_15 rfl (lv_at hl 2 rfl) ?_
      obtain ⟨i4, hf⟩ := qob_gd hf
      refine va_zald hx hb hK hP 1 2 rfl rfl i4 dX10_openings_16 ?_
      refine qjoin1 hf (fun (s_1 : Int32) => ∀ (H : Heap) (locs : List Loc) (ls : Array Slot), ctW D A s ([oX10 mo ma m_thrown m_textSize m_rows m_columns m_a m_b m_readRows m_readColumns m_at m_looks m_came m_draw m_turnedRows m_turnedColumns, aZ cy (ma 1) 36 m_right, aZ cy (ma 2) 36 m_down]) H locs → lv_has ls 3 [(0, .ref mo), (2, .int x2_1)] → W p l e rmX10_openings s m args below meth c H locs 0 0 Q (F0 m 25 ls [.int s_1, .int x1_2])) ?_ ?_
      · intro s_1 hf H locs ls ⟨hP, hD, hS⟩ hl
        refine lv_aload_n hx hb dX10_openings_25 rfl (lv_at hl 0 rfl) ?_
        refine va_get (D := D) (ci := 10) (v := .ref (ma 2)) (C := RX10) (T := TX10) (N := 34) hx hb hts inwX10_openings_X10 hown hK hP 0 rfl rfl 6 (by decide) (hts (.fieldLink RX10 24 "HedgeWaysModel" "down" "[Z") (List.mem_of_getElem? (i := 2) rfl)) (fun _ h9 => h9) rfl dX10_openings_26 ?_
        refine lv_iload_n hx hb dX10_openings_29 rfl (lv_at hl 1 rfl) ?_
        obtain ⟨i5, hf⟩ := qob_gd hf
        refine va_zald hx hb hK hP 2 2 rfl rfl i5 dX10_openings_30 ?_
        refine qjoin1 hf (fun (s_2 : Int32) => ∀ (H : Heap) (locs : List Loc) (ls : Array Slot), ctW D A s ([oX10 mo ma m_thrown m_textSize m_rows m_columns m_a m_b m_readRows m_readColumns m_at m_looks m_came m_draw m_turnedRows m_turnedColumns, aZ cy (ma 1) 36 m_right, aZ cy (ma 2) 36 m_down]) H locs → lv_has ls 3 [(0, .ref mo), (2, .int x2_1)] → W p l e rmX10_openings s m args below meth c H locs 0 0 Q (F0 m 39 ls [.int s_2, .int s_1, .int x1_2])) ?_ ?_
        · intro s_2 hf H locs ls ⟨hP, hD, hS⟩ hl
          refine lv_iadd hx hb dX10_openings_39 ?_
          refine lv_iadd hx hb dX10_openings_40 ?_
          refine lv_istore_n (lv' := [(1, .int (x1_2 + (s_1 + s_2))), (0, .ref mo), (2, .int x2_1)]) hx hb dX10_openings_41 rfl hl (by decide) rfl (fun ls hl => ?_)
          refine lv_iinc (v := (x2_1 + 1)) (lv' := [(2, .int (x2_1 + 1)), (1, .int (x1_2 + (s_1 + s_2))), (0, .ref mo)]) hx hb dX10_openings_42 hl (k := 2) rfl rfl (by decide) rfl (fun ls hl => ?_)
          refine lv_goto (tgt := 4) hx hb dX10_openings_45 (by decide) ?_
          exact hL2 (x1_2 + (s_1 + s_2)) (x2_1 + 1) hf _ _ _ ⟨hP, hD, hS⟩ (lv_sub hl [2, 1, 0] rfl)
        · intro J6 hJ6 hf
          refine lv_if_eq (tgt := 38) hx hb dX10_openings_31 (by decide) (fun c7 => ?_) (fun c7 => ?_)
          · have hf := qob_t hf c7
            refine lv_iconst (v := 0) hx hb dX10_openings_38 (by decide) ?_
            exact hJ6 0 hf _ _ _ ⟨hP, hD, hS⟩ hl
          · have hf := qob_f hf c7
            refine lv_iconst (v := 1) hx hb dX10_openings_34 (by decide) ?_
            refine lv_goto (tgt := 39) hx hb dX10_openings_35 (by decide) ?_
            exact hJ6 1 hf _ _ _ ⟨hP, hD, hS⟩ hl
      · intro J8 hJ8 hf
        refine lv_if_eq (tgt := 24) hx hb dX10_openings_17 (by decide) (fun c9 => ?_) (fun c9 => ?_)
        · have hf := qob_t hf c9
          refine lv_iconst (v := 0) hx hb dX10_openings_24 (by decide) ?_
          exact hJ8 0 hf _ _ _ ⟨hP, hD, hS⟩ (lv_sub hl [0, 2] rfl)
        · have hf := qob_f hf c9
          refine lv_iconst (v := 1) hx hb dX10_openings_20 (by decide) ?_
          refine lv_goto (tgt := 25) hx hb dX10_openings_21 (by decide) ?_
          exact hJ8 1 hf _ _ _ ⟨hP, hD, hS⟩ (lv_sub hl [0, 2] rfl)
abbrev rmX10_neighbours : Room := { frames := 3, cells := 0, slots := 0, locals := 72 }
theorem hdX10_neighbours : yX10_neighbours.cls = RX10 ∧ yX10_neighbours.cls ≠ "java/lang/invoke/MethodHandle" ∧ yX10_neighbours.cls ≠ "java/lang/invoke/VarHandle" ∧ (parseMethodDescriptor yX10_neighbours.desc).map (fun d => d.parameters.length) = some 1 := by decide +kernel
set_option maxHeartbeats 4000000 in
set_option maxRecDepth 100000 in
theorem KX10_neighbours {l : Launch} {D : va_G} {cy : Nat → ClassId} {mo : Nat} {ma : Nat → Nat} {m_thrown : Int32} {m_textSize : Int32} {m_rows : Int32} {m_columns : Int32} {m_a : Int32} {m_b : Int32} {m_readRows : Int32} {m_readColumns : Int32} {m_at : Int32} {m_looks : Int32} {m_came : Int32} {m_draw : Int64} {m_turnedRows : Int32} {m_turnedColumns : Int32} {m_right : Nat → Int32} {m_down : Nat → Int32} {p1 : Int32} {r : Int32} (hf : fX10_neighbours m_rows m_columns m_right m_down p1 = some r) : CtI l yX10_neighbours wsX10_neighbours rmX10_neighbours D cy [.ref mo, .int p1] ([oX10 mo ma m_thrown m_textSize m_rows m_columns m_a m_b m_readRows m_readColumns m_at m_looks m_came m_draw m_turnedRows m_turnedColumns, aZ cy (ma 1) 36 m_right, aZ cy (ma 2) 36 m_down]) ([oX10 mo ma m_thrown m_textSize m_rows m_columns m_a m_b m_readRows m_readColumns m_at m_looks m_came m_draw m_turnedRows m_turnedColumns, aZ cy (ma 1) 36 m_right, aZ cy (ma 2) 36 m_down]) r := by
  refine CtI.of (cc := cX10_neighbours) (maxL := 4) (ret := some .int) (own := RX10) (by decide) rfl rfl (Nat.le_of_ble_eq_true rfl) ?_
  intro p e s m args below meth c A Q X hQ hK hP hD hS ls hl
  obtain ⟨hx, hb, hml, hown, hts, hr, hlocks, hA, hZ⟩ := id X
  have hl : lv_has ls 4 [(0, .ref mo), (1, .int p1)] := hl
  unfold fX10_neighbours at hf
  have hf := qob_top hf
  refine lv_iconst (v := 0) hx hb dX10_neighbours_0 (by decide) ?_
  refine lv_istore_n (lv' := [(2, .int 0), (0, .ref mo), (1, .int p1)]) hx hb dX10_neighbours_1 rfl hl (by decide) rfl (fun ls hl => ?_)
  refine lv_iconst (v := 0) hx hb dX10_neighbours_2 (by decide) ?_
  refine lv_istore_n (lv' := [(3, .int 0), (2, .int 0), (0, .ref mo), (1, .int p1)]) hx hb dX10_neighbours_3 rfl hl (by decide) rfl (fun ls hl => ?_)
  refine qjoin1 hf (fun (x2_1 : Int32) => ∀ (H : Heap) (locs : List Loc) (ls : Array Slot), ctW D A s ([oX10 mo ma m_thrown m_textSize m_rows m_columns m_a m_b m_readRows m_readColumns m_at m_looks m_came m_draw m_turnedRows m_turnedColumns, aZ cy (ma 1) 36 m_right, aZ cy (ma 2) 36 m_down]) H locs → lv_has ls 4 [(2, .int x2_1)] → W p l e rmX10_neighbours s m args below meth c H locs 0 0 Q (F0 m 32 ls [])) ?_ ?_
  · intro x2_1 hf H locs ls ⟨hP, hD, hS⟩ hl
    refine lv_iload_n hx hb dX10_neighbours_32 rfl (lv_at hl 0 rfl) ?_
    cases qob_ret hf
    exact ct_iret X hQ hK hP hD hS rfl dX10_neighbours_33
  · intro J1 hJ1 hf
    refine qwalk2 (fun (x2_2 : Int32) (x3_1 : Int32) => ∀ (H : Heap) (locs : List Loc) (ls : Array Slot), ctW D A s ([oX10 mo ma m_thrown m_textSize m_rows m_columns m_a m_b m_readRows m_readColumns m_at m_looks m_came m_draw m_turnedRows m_turnedColumns, aZ cy (ma 1) 36 m_right, aZ cy (ma 2) 36 m_down]) H locs → lv_has ls 4 [(0, .ref mo), (1, .int p1), (2, .int x2_2), (3, .int x3_1)] → W p l e rmX10_neighbours s m args below meth c H locs 0 0 Q (F0 m 4 ls [])) ?_ _ (0 : Int32) (0 : Int32) hf _ _ _ ⟨hP, hD, hS⟩ (lv_sub hl [2, 3, 1, 0] rfl)
    intro J2 hL2 x2_2 x3_1 hf H locs ls ⟨hP, hD, hS⟩ hl
    refine lv_iload_n hx hb dX10_neighbours_4 rfl (lv_at hl 3 rfl) ?_
    refine lv_iconst (v := 4) hx hb dX10_neighbours_5 (by decide) ?_
    refine lv_icmp_ge (tgt := 32) hx hb dX10_neighbours_6 (by decide) (fun c3 => ?_) (fun c3 => ?_)
    · have hf := qob_t hf c3
      have hf := qob_esc hf
      exact hJ1 x2_2 hf _ _ _ ⟨hP, hD, hS⟩ (lv_sub hl [2] rfl)
    · have hf := qob_f hf c3
      refine lv_iload_n hx hb dX10_neighbours_9 rfl (lv_at hl 2 rfl) ?_
      refine lv_aload_n hx hb dX10_neighbours_10 rfl (lv_at hl 0 rfl) ?_
      refine lv_iload_n hx hb dX10_neighbours_11 rfl (lv_at hl 1 rfl) ?_
      refine lv_iload_n hx hb dX10_neighbours_12 rfl (lv_at hl 3 rfl) ?_
      obtain ⟨r_1, q4, hf⟩ := qcall1 hf
      refine ctV_i0 (r := r_1) (wc := [oX10 mo ma m_thrown m_textSize m_rows m_columns m_a m_b m_readRows m_readColumns m_at m_looks m_came m_draw m_turnedRows m_turnedColumns, aZ cy (ma 1) 36 m_right, aZ cy (ma 2) 36 m_down]) (As := [.int p1, .int x3_1]) (rest := [.int x2_2]) (q0 := 0) X hK hP hD hS [0, 1, 2] rfl rfl rfl (KX10_isOpen q4 _) (cwV 2 hts gX10_neighbours_X10_isOpen rfl rfl rfl hdX10_isOpen ⟨Nat.le_of_ble_eq_true rfl, Nat.le_of_ble_eq_true rfl⟩) rfl rfl rfl hl rfl (Nat.le_of_ble_eq_true rfl) dX10_neighbours_13 (Nat.zero_le _) (Nat.zero_le _) (fun H locs hP hS => ?_)
      refine qjoin1 hf (fun (s_1 : Int32) => ∀ (H : Heap) (locs : List Loc) (ls : Array Slot), ctW D A s ([oX10 mo ma m_thrown m_textSize m_rows m_columns m_a m_b m_readRows m_readColumns m_at m_looks m_came m_draw m_turnedRows m_turnedColumns, aZ cy (ma 1) 36 m_right, aZ cy (ma 2) 36 m_down]) H locs → lv_has ls 4 [(0, .ref mo), (1, .int p1), (3, .int x3_1)] → W p l e rmX10_neighbours s m args below meth c H locs 0 0 Q (F0 m 24 ls [.int s_1, .int x2_2])) ?_ ?_
      · intro s_1 hf H locs ls ⟨hP, hD, hS⟩ hl
        refine lv_iadd hx hb dX10_neighbours_24 ?_
        refine lv_istore_n (lv' := [(2, .int (x2_2 + s_1)), (0, .ref mo), (1, .int p1), (3, .int x3_1)]) hx hb dX10_neighbours_25 rfl hl (by decide) rfl (fun ls hl => ?_)
        refine lv_iinc (v := (x3_1 + 1)) (lv' := [(3, .int (x3_1 + 1)), (2, .int (x2_2 + s_1)), (0, .ref mo), (1, .int p1)]) hx hb dX10_neighbours_26 hl (k := 3) rfl rfl (by decide) rfl (fun ls hl => ?_)
        refine lv_goto (tgt := 4) hx hb dX10_neighbours_29 (by decide) ?_
        exact hL2 (x2_2 + s_1) (x3_1 + 1) hf _ _ _ ⟨hP, hD, hS⟩ (lv_sub hl [2, 3, 1, 0] rfl)
      · intro J5 hJ5 hf
        refine lv_if_eq (tgt := 23) hx hb dX10_neighbours_16 (by decide) (fun c6 => ?_) (fun c6 => ?_)
        · have hf := qob_t hf c6
          refine lv_iconst (v := 0) hx hb dX10_neighbours_23 (by decide) ?_
          exact hJ5 0 hf _ _ _ ⟨hP, hD, hS⟩ (lv_sub hl [0, 1, 3] rfl)
        · have hf := qob_f hf c6
          refine lv_iconst (v := 1) hx hb dX10_neighbours_19 (by decide) ?_
          refine lv_goto (tgt := 24) hx hb dX10_neighbours_20 (by decide) ?_
          exact hJ5 1 hf _ _ _ ⟨hP, hD, hS⟩ (lv_sub hl [0, 1, 3] rfl)
theorem inwX10_isBridge_X10 : ∀ w ∈ wsX100, w ∈ wsX10_isBridge := fun _ h => List.mem_cons_of_mem _ (List.mem_append_right _ h)
abbrev rmX10_isBridge : Room := { frames := 4, cells := 0, slots := 0, locals := 98 }
theorem hdX10_isBridge : yX10_isBridge.cls = RX10 ∧ yX10_isBridge.cls ≠ "java/lang/invoke/MethodHandle" ∧ yX10_isBridge.cls ≠ "java/lang/invoke/VarHandle" ∧ (parseMethodDescriptor yX10_isBridge.desc).map (fun d => d.parameters.length) = some 2 := by decide +kernel
set_option maxHeartbeats 4000000 in
set_option maxRecDepth 100000 in
theorem KX10_isBridge {l : Launch} {D : va_G} {cy : Nat → ClassId} {mo : Nat} {ma : Nat → Nat} {m_thrown : Int32} {m_textSize : Int32} {m_rows : Int32} {m_columns : Int32} {m_a : Int32} {m_b : Int32} {m_readRows : Int32} {m_readColumns : Int32} {m_at : Int32} {m_looks : Int32} {m_came : Int32} {m_draw : Int64} {m_turnedRows : Int32} {m_turnedColumns : Int32} {m_right : Nat → Int32} {m_down : Nat → Int32} {m_dist : Nat → Int32} {m_queue : Nat → Int32} {m_shut : Nat → Int32} {p1 : Int32} {p2 : Int32} {r : Int32} {m_right' : Nat → Int32} {m_down' : Nat → Int32} {m_dist' : Nat → Int32} {m_queue' : Nat → Int32} (hf : fX10_isBridge m_rows m_columns m_right m_down m_dist m_queue m_shut p1 p2 = some (r, m_right', m_down', m_dist', m_queue')) : CtI l yX10_isBridge wsX10_isBridge rmX10_isBridge D cy [.ref mo, .int p1, .int p2] ([oX10 mo ma m_thrown m_textSize m_rows m_columns m_a m_b m_readRows m_readColumns m_at m_looks m_came m_draw m_turnedRows m_turnedColumns, aZ cy (ma 1) 36 m_right, aZ cy (ma 2) 36 m_down, aI cy (ma 7) 36 m_dist, aI cy (ma 8) 36 m_queue, aZ cy (ma 10) 36 m_shut]) ([oX10 mo ma m_thrown m_textSize m_rows m_columns m_a m_b m_readRows m_readColumns m_at m_looks m_came m_draw m_turnedRows m_turnedColumns, aZ cy (ma 1) 36 m_right', aZ cy (ma 2) 36 m_down', aI cy (ma 7) 36 m_dist', aI cy (ma 8) 36 m_queue', aZ cy (ma 10) 36 m_shut]) r := by
  refine CtI.of (cc := cX10_isBridge) (maxL := 4) (ret := some .boolean) (own := RX10) (by decide) rfl rfl (Nat.le_of_ble_eq_true rfl) ?_
  intro p e s m args below meth c A Q X hQ hK hP hD hS ls hl
  obtain ⟨hx, hb, hml, hown, hts, hr, hlocks, hA, hZ⟩ := id X
  have hl : lv_has ls 4 [(0, .ref mo), (1, .int p1), (2, .int p2)] := hl
  unfold fX10_isBridge at hf
  have hf := qob_top hf
  refine lv_aload_n hx hb dX10_isBridge_0 rfl (lv_at hl 0 rfl) ?_
  refine lv_iload_n hx hb dX10_isBridge_1 rfl (lv_at hl 1 rfl) ?_
  refine lv_iload_n hx hb dX10_isBridge_2 rfl (lv_at hl 2 rfl) ?_
  refine lv_iconst (v := 0) hx hb dX10_isBridge_3 (by decide) ?_
  obtain ⟨m_right_1, m_down_1, q1, hf⟩ := qcall2 hf
  refine ctV_v (wc := [oX10 mo ma m_thrown m_textSize m_rows m_columns m_a m_b m_readRows m_readColumns m_at m_looks m_came m_draw m_turnedRows m_turnedColumns, aZ cy (ma 1) 36 m_right, aZ cy (ma 2) 36 m_down]) (w1 := [oX10 mo ma m_thrown m_textSize m_rows m_columns m_a m_b m_readRows m_readColumns m_at m_looks m_came m_draw m_turnedRows m_turnedColumns, aZ cy (ma 1) 36 m_right_1, aZ cy (ma 2) 36 m_down_1]) (wr := [aI cy (ma 7) 36 m_dist, aI cy (ma 8) 36 m_queue, aZ cy (ma 10) 36 m_shut]) (wn := [oX10 mo ma m_thrown m_textSize m_rows m_columns m_a m_b m_readRows m_readColumns m_at m_looks m_came m_draw m_turnedRows m_turnedColumns, aZ cy (ma 1) 36 m_right_1, aZ cy (ma 2) 36 m_down_1, aI cy (ma 7) 36 m_dist, aI cy (ma 8) 36 m_queue, aZ cy (ma 10) 36 m_shut]) (As := [.int p1, .int p2, .int 0]) (rest := []) (q0 := 0) X hK hP hD hS [0, 1, 2] [3, 4, 5] [3, 4, 5, 0, 1, 2] rfl rfl rfl rfl rfl (by decide) rfl rfl rfl (KX10_set q1 _) (cwV 3 hts gX10_isBridge_X10_set rfl rfl rfl hdX10_set ⟨Nat.le_of_ble_eq_true rfl, Nat.le_of_ble_eq_true rfl⟩) rfl rfl rfl hl rfl (Nat.le_of_ble_eq_true rfl) dX10_isBridge_4 (Nat.zero_le _) (Nat.zero_le _) (fun H locs hP hD hS => ?_)
  refine lv_aload_n hx hb dX10_isBridge_7 rfl (lv_at hl 0 rfl) ?_
  refine lv_iload_n hx hb dX10_isBridge_8 rfl (lv_at hl 1 rfl) ?_
  obtain ⟨m_dist_1, m_queue_1, q2, hf⟩ := qcall2 hf
  refine ctV_v (wc := [oX10 mo ma m_thrown m_textSize m_rows m_columns m_a m_b m_readRows m_readColumns m_at m_looks m_came m_draw m_turnedRows m_turnedColumns, aZ cy (ma 1) 36 m_right_1, aZ cy (ma 2) 36 m_down_1, aI cy (ma 7) 36 m_dist, aI cy (ma 8) 36 m_queue, aZ cy (ma 10) 36 m_shut]) (w1 := [oX10 mo ma m_thrown m_textSize m_rows m_columns m_a m_b m_readRows m_readColumns m_at m_looks m_came m_draw m_turnedRows m_turnedColumns, aZ cy (ma 1) 36 m_right_1, aZ cy (ma 2) 36 m_down_1, aI cy (ma 7) 36 m_dist_1, aI cy (ma 8) 36 m_queue_1, aZ cy (ma 10) 36 m_shut]) (wr := []) (wn := [oX10 mo ma m_thrown m_textSize m_rows m_columns m_a m_b m_readRows m_readColumns m_at m_looks m_came m_draw m_turnedRows m_turnedColumns, aZ cy (ma 1) 36 m_right_1, aZ cy (ma 2) 36 m_down_1, aI cy (ma 7) 36 m_dist_1, aI cy (ma 8) 36 m_queue_1, aZ cy (ma 10) 36 m_shut]) (As := [.int p1]) (rest := []) (q0 := 0) X hK hP hD hS [0, 1, 2, 3, 4, 5] [] [0, 1, 2, 3, 4, 5] rfl rfl rfl rfl rfl (by decide) rfl rfl rfl (KX10_layFar q2 _) (cwV 1 hts gX10_isBridge_X10_layFar rfl rfl rfl hdX10_layFar ⟨Nat.le_of_ble_eq_true rfl, Nat.le_of_ble_eq_true rfl⟩) rfl rfl rfl hl rfl (Nat.le_of_ble_eq_true rfl) dX10_isBridge_9 (Nat.zero_le _) (Nat.zero_le _) (fun H locs hP hD hS => ?_)
  refine lv_aload_n hx hb dX10_isBridge_12 rfl (lv_at hl 0 rfl) ?_
  refine va_get (D := D) (ci := 10) (v := .ref (ma 7)) (C := RX10) (T := TX10) (N := 34) hx hb hts inwX10_isBridge_X10 hown hK hP 0 rfl rfl 15 (by decide) (hts (.fieldLink RX10 39 "HedgeWaysModel" "dist" "[I") (List.mem_of_getElem? (i := 1) rfl)) (fun _ h9 => h9) rfl dX10_isBridge_13 ?_
  refine lv_aload_n hx hb dX10_isBridge_16 rfl (lv_at hl 0 rfl) ?_
  refine lv_iload_n hx hb dX10_isBridge_17 rfl (lv_at hl 1 rfl) ?_
  refine lv_iload_n hx hb dX10_isBridge_18 rfl (lv_at hl 2 rfl) ?_
  refine ctV_i0 (r := (fX10_beside m_rows m_columns p1 p2)) (wc := [oX10 mo ma m_thrown m_textSize m_rows m_columns m_a m_b m_readRows m_readColumns m_at m_looks m_came m_draw m_turnedRows m_turnedColumns]) (As := [.int p1, .int p2]) (rest := [.ref (ma 7)]) (q0 := 0) X hK hP hD hS [0] rfl rfl rfl (KX10_beside rfl _) (cwV 2 hts gX10_isBridge_X10_beside rfl rfl rfl hdX10_beside ⟨Nat.le_of_ble_eq_true rfl, Nat.le_of_ble_eq_true rfl⟩) rfl rfl rfl hl rfl (Nat.le_of_ble_eq_true rfl) dX10_isBridge_19 (Nat.zero_le _) (Nat.zero_le _) (fun H locs hP hS => ?_)
  obtain ⟨i3, hf⟩ := qob_gd hf
  refine va_iald hx hb hK hP 3 0 rfl rfl i3 dX10_isBridge_22 ?_
  refine lv_sipush (v := 9999) hx hb dX10_isBridge_23 (by decide) ?_
  refine qjoin1 hf (fun (s_1 : Int32) => ∀ (H : Heap) (locs : List Loc) (ls : Array Slot), ctW D A s ([oX10 mo ma m_thrown m_textSize m_rows m_columns m_a m_b m_readRows m_readColumns m_at m_looks m_came m_draw m_turnedRows m_turnedColumns, aZ cy (ma 1) 36 m_right_1, aZ cy (ma 2) 36 m_down_1, aI cy (ma 7) 36 m_dist_1, aI cy (ma 8) 36 m_queue_1, aZ cy (ma 10) 36 m_shut]) H locs → lv_has ls 4 [(0, .ref mo), (1, .int p1), (2, .int p2)] → W p l e rmX10_isBridge s m args below meth c H locs 0 0 Q (F0 m 34 ls [.int s_1])) ?_ ?_
  · intro s_1 hf H locs ls ⟨hP, hD, hS⟩ hl
    refine lv_istore_n (lv' := [(3, .int s_1), (0, .ref mo), (1, .int p1), (2, .int p2)]) hx hb dX10_isBridge_34 rfl hl (by decide) rfl (fun ls hl => ?_)
    refine lv_aload_n hx hb dX10_isBridge_35 rfl (lv_at hl 1 rfl) ?_
    refine lv_iload_n hx hb dX10_isBridge_36 rfl (lv_at hl 2 rfl) ?_
    refine lv_iload_n hx hb dX10_isBridge_37 rfl (lv_at hl 3 rfl) ?_
    refine lv_iconst (v := 1) hx hb dX10_isBridge_38 (by decide) ?_
    obtain ⟨m_right_2, m_down_2, q4, hf⟩ := qcall2 hf
    refine ctV_v (wc := [oX10 mo ma m_thrown m_textSize m_rows m_columns m_a m_b m_readRows m_readColumns m_at m_looks m_came m_draw m_turnedRows m_turnedColumns, aZ cy (ma 1) 36 m_right_1, aZ cy (ma 2) 36 m_down_1]) (w1 := [oX10 mo ma m_thrown m_textSize m_rows m_columns m_a m_b m_readRows m_readColumns m_at m_looks m_came m_draw m_turnedRows m_turnedColumns, aZ cy (ma 1) 36 m_right_2, aZ cy (ma 2) 36 m_down_2]) (wr := [aI cy (ma 7) 36 m_dist_1, aI cy (ma 8) 36 m_queue_1, aZ cy (ma 10) 36 m_shut]) (wn := [oX10 mo ma m_thrown m_textSize m_rows m_columns m_a m_b m_readRows m_readColumns m_at m_looks m_came m_draw m_turnedRows m_turnedColumns, aZ cy (ma 1) 36 m_right_2, aZ cy (ma 2) 36 m_down_2, aI cy (ma 7) 36 m_dist_1, aI cy (ma 8) 36 m_queue_1, aZ cy (ma 10) 36 m_shut]) (As := [.int p1, .int p2, .int 1]) (rest := []) (q0 := 0) X hK hP hD hS [0, 1, 2] [3, 4, 5] [3, 4, 5, 0, 1, 2] rfl rfl rfl rfl rfl (by decide) rfl rfl rfl (KX10_set q4 _) (cwV 3 hts gX10_isBridge_X10_set rfl rfl rfl hdX10_set ⟨Nat.le_of_ble_eq_true rfl, Nat.le_of_ble_eq_true rfl⟩) rfl rfl rfl hl rfl (Nat.le_of_ble_eq_true rfl) dX10_isBridge_39 (Nat.zero_le _) (Nat.zero_le _) (fun H locs hP hD hS => ?_)
    refine lv_iload_n hx hb dX10_isBridge_42 rfl (lv_at hl 0 rfl) ?_
    cases qob_ret hf
    exact ct_zret X hQ hK hP hD hS rfl dX10_isBridge_43
  · intro J5 hJ5 hf
    refine lv_icmp_ne (tgt := 33) hx hb dX10_isBridge_26 (by decide) (fun c6 => ?_) (fun c6 => ?_)
    · have hf := qob_f hf c6
      refine lv_iconst (v := 0) hx hb dX10_isBridge_33 (by decide) ?_
      exact hJ5 0 hf _ _ _ ⟨hP, hD, hS⟩ hl
    · have hf := qob_t hf c6
      refine lv_iconst (v := 1) hx hb dX10_isBridge_29 (by decide) ?_
      refine lv_goto (tgt := 34) hx hb dX10_isBridge_30 (by decide) ?_
      exact hJ5 1 hf _ _ _ ⟨hP, hD, hS⟩ hl
theorem inwX10_bridges_X10 : ∀ w ∈ wsX100, w ∈ wsX10_bridges := fun _ h => List.mem_cons_of_mem _ (List.mem_append_right _ h)
abbrev rmX10_bridges : Room := { frames := 5, cells := 0, slots := 0, locals := 121 }
theorem hdX10_bridges : yX10_bridges.cls = RX10 ∧ yX10_bridges.cls ≠ "java/lang/invoke/MethodHandle" ∧ yX10_bridges.cls ≠ "java/lang/invoke/VarHandle" ∧ (parseMethodDescriptor yX10_bridges.desc).map (fun d => d.parameters.length) = some 0 := by decide +kernel
set_option maxHeartbeats 4000000 in
set_option maxRecDepth 100000 in
theorem KX10_bridges {l : Launch} {D : va_G} {cy : Nat → ClassId} {mo : Nat} {ma : Nat → Nat} {m_thrown : Int32} {m_textSize : Int32} {m_rows : Int32} {m_columns : Int32} {m_a : Int32} {m_b : Int32} {m_readRows : Int32} {m_readColumns : Int32} {m_at : Int32} {m_looks : Int32} {m_came : Int32} {m_draw : Int64} {m_turnedRows : Int32} {m_turnedColumns : Int32} {m_right : Nat → Int32} {m_down : Nat → Int32} {m_dist : Nat → Int32} {m_queue : Nat → Int32} {m_shut : Nat → Int32}  {r : Int32} {m_right' : Nat → Int32} {m_down' : Nat → Int32} {m_dist' : Nat → Int32} {m_queue' : Nat → Int32} (hf : fX10_bridges m_rows m_columns m_right m_down m_dist m_queue m_shut = some (r, m_right', m_down', m_dist', m_queue')) : CtI l yX10_bridges wsX10_bridges rmX10_bridges D cy [.ref mo] ([oX10 mo ma m_thrown m_textSize m_rows m_columns m_a m_b m_readRows m_readColumns m_at m_looks m_came m_draw m_turnedRows m_turnedColumns, aZ cy (ma 1) 36 m_right, aZ cy (ma 2) 36 m_down, aI cy (ma 7) 36 m_dist, aI cy (ma 8) 36 m_queue, aZ cy (ma 10) 36 m_shut]) ([oX10 mo ma m_thrown m_textSize m_rows m_columns m_a m_b m_readRows m_readColumns m_at m_looks m_came m_draw m_turnedRows m_turnedColumns, aZ cy (ma 1) 36 m_right', aZ cy (ma 2) 36 m_down', aI cy (ma 7) 36 m_dist', aI cy (ma 8) 36 m_queue', aZ cy (ma 10) 36 m_shut]) r := by
  refine CtI.of (cc := cX10_bridges) (maxL := 3) (ret := some .int) (own := RX10) (by decide) rfl rfl (Nat.le_of_ble_eq_true rfl) ?_
  intro p e s m args below meth c A Q X hQ hK hP hD hS ls hl
  obtain ⟨hx, hb, hml, hown, hts, hr, hlocks, hA, hZ⟩ := id X
  have hl : lv_has ls 3 [(0, .ref mo)] := hl
  unfold fX10_bridges at hf
  have hf := qob_top hf
  refine lv_iconst (v := 0) hx hb dX10_bridges_0 (by decide) ?_
  refine lv_istore_n (lv' := [(1, .int 0), (0, .ref mo)]) hx hb dX10_bridges_1 rfl hl (by decide) rfl (fun ls hl => ?_)
  refine lv_iconst (v := 0) hx hb dX10_bridges_2 (by decide) ?_
  refine lv_istore_n (lv' := [(2, .int 0), (1, .int 0), (0, .ref mo)]) hx hb dX10_bridges_3 rfl hl (by decide) rfl (fun ls hl => ?_)
  refine qjoin5 hf (fun (x1_1 : Int32) (m_right_1 : Nat → Int32) (m_down_1 : Nat → Int32) (m_dist_1 : Nat → Int32) (m_queue_1 : Nat → Int32) => ∀ (H : Heap) (locs : List Loc) (ls : Array Slot), ctW D A s ([oX10 mo ma m_thrown m_textSize m_rows m_columns m_a m_b m_readRows m_readColumns m_at m_looks m_came m_draw m_turnedRows m_turnedColumns, aZ cy (ma 1) 36 m_right_1, aZ cy (ma 2) 36 m_down_1, aI cy (ma 7) 36 m_dist_1, aI cy (ma 8) 36 m_queue_1, aZ cy (ma 10) 36 m_shut]) H locs → lv_has ls 3 [(1, .int x1_1)] → W p l e rmX10_bridges s m args below meth c H locs 0 0 Q (F0 m 68 ls [])) ?_ ?_
  · intro x1_1 m_right_1 m_down_1 m_dist_1 m_queue_1 hf H locs ls ⟨hP, hD, hS⟩ hl
    refine lv_iload_n hx hb dX10_bridges_68 rfl (lv_at hl 0 rfl) ?_
    cases qob_ret hf
    exact ct_iret X hQ hK hP hD hS rfl dX10_bridges_69
  · intro J1 hJ1 hf
    refine qwalk6 (fun (x1_2 : Int32) (x2_1 : Int32) (m_right_2 : Nat → Int32) (m_down_2 : Nat → Int32) (m_dist_2 : Nat → Int32) (m_queue_2 : Nat → Int32) => ∀ (H : Heap) (locs : List Loc) (ls : Array Slot), ctW D A s ([oX10 mo ma m_thrown m_textSize m_rows m_columns m_a m_b m_readRows m_readColumns m_at m_looks m_came m_draw m_turnedRows m_turnedColumns, aZ cy (ma 1) 36 m_right_2, aZ cy (ma 2) 36 m_down_2, aI cy (ma 7) 36 m_dist_2, aI cy (ma 8) 36 m_queue_2, aZ cy (ma 10) 36 m_shut]) H locs → lv_has ls 3 [(0, .ref mo), (1, .int x1_2), (2, .int x2_1)] → W p l e rmX10_bridges s m args below meth c H locs 0 0 Q (F0 m 4 ls [])) ?_ _ (0 : Int32) (0 : Int32) m_right m_down m_dist m_queue hf _ _ _ ⟨hP, hD, hS⟩ (lv_sub hl [2, 1, 0] rfl)
    intro J2 hL2 x1_2 x2_1 m_right_2 m_down_2 m_dist_2 m_queue_2 hf H locs ls ⟨hP, hD, hS⟩ hl
    refine lv_iload_n hx hb dX10_bridges_4 rfl (lv_at hl 2 rfl) ?_
    refine lv_bipush (v := 36) hx hb dX10_bridges_5 (by decide) ?_
    refine lv_icmp_ge (tgt := 68) hx hb dX10_bridges_7 (by decide) (fun c3 => ?_) (fun c3 => ?_)
    · have hf := qob_t hf c3
      have hf := qob_esc hf
      exact hJ1 x1_2 m_right_2 m_down_2 m_dist_2 m_queue_2 hf _ _ _ ⟨hP, hD, hS⟩ (lv_sub hl [1] rfl)
    · have hf := qob_f hf c3
      refine lv_iload_n hx hb dX10_bridges_10 rfl (lv_at hl 1 rfl) ?_
      refine lv_aload_n hx hb dX10_bridges_11 rfl (lv_at hl 0 rfl) ?_
      refine va_get (D := D) (ci := 10) (v := .ref (ma 1)) (C := RX10) (T := TX10) (N := 34) hx hb hts inwX10_bridges_X10 hown hK hP 0 rfl rfl 5 (by decide) (hts (.fieldLink RX10 20 "HedgeWaysModel" "right" "[Z") (List.mem_of_getElem? (i := 1) rfl)) (fun _ h9 => h9) rfl dX10_bridges_12 ?_
      refine lv_iload_n hx hb dX10_bridges_15 rfl (lv_at hl 2 rfl) ?_
      obtain ⟨i4, hf⟩ := qob_gd hf
      refine va_zald hx hb hK hP 1 2 rfl rfl i4 dX10_bridges_16 ?_
      refine qjoin5 hf (fun (s_1 : Int32) (m_right_3 : Nat → Int32) (m_down_3 : Nat → Int32) (m_dist_3 : Nat → Int32) (m_queue_3 : Nat → Int32) => ∀ (H : Heap) (locs : List Loc) (ls : Array Slot), ctW D A s ([oX10 mo ma m_thrown m_textSize m_rows m_columns m_a m_b m_readRows m_readColumns m_at m_looks m_came m_draw m_turnedRows m_turnedColumns, aZ cy (ma 1) 36 m_right_3, aZ cy (ma 2) 36 m_down_3, aI cy (ma 7) 36 m_dist_3, aI cy (ma 8) 36 m_queue_3, aZ cy (ma 10) 36 m_shut]) H locs → lv_has ls 3 [(0, .ref mo), (2, .int x2_1)] → W p l e rmX10_bridges s m args below meth c H locs 0 0 Q (F0 m 34 ls [.int s_1, .int x1_2])) ?_ ?_
      · intro s_1 m_right_3 m_down_3 m_dist_3 m_queue_3 hf H locs ls ⟨hP, hD, hS⟩ hl
        refine lv_iadd hx hb dX10_bridges_34 ?_
        refine lv_istore_n (lv' := [(1, .int (x1_2 + s_1)), (0, .ref mo), (2, .int x2_1)]) hx hb dX10_bridges_35 rfl hl (by decide) rfl (fun ls hl => ?_)
        refine lv_iload_n hx hb dX10_bridges_36 rfl (lv_at hl 0 rfl) ?_
        refine lv_aload_n hx hb dX10_bridges_37 rfl (lv_at hl 1 rfl) ?_
        refine va_get (D := D) (ci := 10) (v := .ref (ma 2)) (C := RX10) (T := TX10) (N := 34) hx hb hts inwX10_bridges_X10 hown hK hP 0 rfl rfl 6 (by decide) (hts (.fieldLink RX10 24 "HedgeWaysModel" "down" "[Z") (List.mem_of_getElem? (i := 2) rfl)) (fun _ h9 => h9) rfl dX10_bridges_38 ?_
        refine lv_iload_n hx hb dX10_bridges_41 rfl (lv_at hl 2 rfl) ?_
        obtain ⟨i5, hf⟩ := qob_gd hf
        refine va_zald hx hb hK hP 2 2 rfl rfl i5 dX10_bridges_42 ?_
        refine qjoin5 hf (fun (s_2 : Int32) (m_right_4 : Nat → Int32) (m_down_4 : Nat → Int32) (m_dist_4 : Nat → Int32) (m_queue_4 : Nat → Int32) => ∀ (H : Heap) (locs : List Loc) (ls : Array Slot), ctW D A s ([oX10 mo ma m_thrown m_textSize m_rows m_columns m_a m_b m_readRows m_readColumns m_at m_looks m_came m_draw m_turnedRows m_turnedColumns, aZ cy (ma 1) 36 m_right_4, aZ cy (ma 2) 36 m_down_4, aI cy (ma 7) 36 m_dist_4, aI cy (ma 8) 36 m_queue_4, aZ cy (ma 10) 36 m_shut]) H locs → lv_has ls 3 [(0, .ref mo), (2, .int x2_1)] → W p l e rmX10_bridges s m args below meth c H locs 0 0 Q (F0 m 60 ls [.int s_2, .int (x1_2 + s_1)])) ?_ ?_
        · intro s_2 m_right_4 m_down_4 m_dist_4 m_queue_4 hf H locs ls ⟨hP, hD, hS⟩ hl
          refine lv_iadd hx hb dX10_bridges_60 ?_
          refine lv_istore_n (lv' := [(1, .int ((x1_2 + s_1) + s_2)), (0, .ref mo), (2, .int x2_1)]) hx hb dX10_bridges_61 rfl hl (by decide) rfl (fun ls hl => ?_)
          refine lv_iinc (v := (x2_1 + 1)) (lv' := [(2, .int (x2_1 + 1)), (1, .int ((x1_2 + s_1) + s_2)), (0, .ref mo)]) hx hb dX10_bridges_62 hl (k := 2) rfl rfl (by decide) rfl (fun ls hl => ?_)
          refine lv_goto (tgt := 4) hx hb dX10_bridges_65 (by decide) ?_
          exact hL2 ((x1_2 + s_1) + s_2) (x2_1 + 1) m_right_4 m_down_4 m_dist_4 m_queue_4 hf _ _ _ ⟨hP, hD, hS⟩ (lv_sub hl [2, 1, 0] rfl)
        · intro J6 hJ6 hf
          refine lv_if_eq (tgt := 59) hx hb dX10_bridges_43 (by decide) (fun c7 => ?_) (fun c7 => ?_)
          · have hf := qob_t hf c7
            refine lv_iconst (v := 0) hx hb dX10_bridges_59 (by decide) ?_
            exact hJ6 0 m_right_3 m_down_3 m_dist_3 m_queue_3 hf _ _ _ ⟨hP, hD, hS⟩ (lv_sub hl [1, 2] rfl)
          · have hf := qob_f hf c7
            refine lv_aload_n hx hb dX10_bridges_46 rfl (lv_at hl 1 rfl) ?_
            refine lv_iload_n hx hb dX10_bridges_47 rfl (lv_at hl 2 rfl) ?_
            refine lv_iconst (v := 2) hx hb dX10_bridges_48 (by decide) ?_
            obtain ⟨r_1, m_right_5, m_down_5, m_dist_5, m_queue_5, q8, hf⟩ := qcall5 hf
            refine ctV_i (r := r_1) (wc := [oX10 mo ma m_thrown m_textSize m_rows m_columns m_a m_b m_readRows m_readColumns m_at m_looks m_came m_draw m_turnedRows m_turnedColumns, aZ cy (ma 1) 36 m_right_3, aZ cy (ma 2) 36 m_down_3, aI cy (ma 7) 36 m_dist_3, aI cy (ma 8) 36 m_queue_3, aZ cy (ma 10) 36 m_shut]) (w1 := [oX10 mo ma m_thrown m_textSize m_rows m_columns m_a m_b m_readRows m_readColumns m_at m_looks m_came m_draw m_turnedRows m_turnedColumns, aZ cy (ma 1) 36 m_right_5, aZ cy (ma 2) 36 m_down_5, aI cy (ma 7) 36 m_dist_5, aI cy (ma 8) 36 m_queue_5, aZ cy (ma 10) 36 m_shut]) (wr := []) (wn := [oX10 mo ma m_thrown m_textSize m_rows m_columns m_a m_b m_readRows m_readColumns m_at m_looks m_came m_draw m_turnedRows m_turnedColumns, aZ cy (ma 1) 36 m_right_5, aZ cy (ma 2) 36 m_down_5, aI cy (ma 7) 36 m_dist_5, aI cy (ma 8) 36 m_queue_5, aZ cy (ma 10) 36 m_shut]) (As := [.int x2_1, .int 2]) (rest := [.int (x1_2 + s_1)]) (q0 := 0) X hK hP hD hS [0, 1, 2, 3, 4, 5] [] [0, 1, 2, 3, 4, 5] rfl rfl rfl rfl rfl (by decide) rfl rfl rfl (KX10_isBridge q8 _) (cwV 2 hts gX10_bridges_X10_isBridge rfl rfl rfl hdX10_isBridge ⟨Nat.le_of_ble_eq_true rfl, Nat.le_of_ble_eq_true rfl⟩) rfl rfl rfl hl rfl (Nat.le_of_ble_eq_true rfl) dX10_bridges_49 (Nat.zero_le _) (Nat.zero_le _) (fun H locs hP hD hS => ?_)
            refine lv_if_eq (tgt := 59) hx hb dX10_bridges_52 (by decide) (fun c9 => ?_) (fun c9 => ?_)
            · have hf := qob_t hf c9
              refine lv_iconst (v := 0) hx hb dX10_bridges_59 (by decide) ?_
              exact hJ6 0 m_right_5 m_down_5 m_dist_5 m_queue_5 hf _ _ _ ⟨hP, hD, hS⟩ (lv_sub hl [1, 2] rfl)
            · have hf := qob_f hf c9
              refine lv_iconst (v := 1) hx hb dX10_bridges_55 (by decide) ?_
              refine lv_goto (tgt := 60) hx hb dX10_bridges_56 (by decide) ?_
              exact hJ6 1 m_right_5 m_down_5 m_dist_5 m_queue_5 hf _ _ _ ⟨hP, hD, hS⟩ (lv_sub hl [1, 2] rfl)
      · intro J10 hJ10 hf
        refine lv_if_eq (tgt := 33) hx hb dX10_bridges_17 (by decide) (fun c11 => ?_) (fun c11 => ?_)
        · have hf := qob_t hf c11
          refine lv_iconst (v := 0) hx hb dX10_bridges_33 (by decide) ?_
          exact hJ10 0 m_right_2 m_down_2 m_dist_2 m_queue_2 hf _ _ _ ⟨hP, hD, hS⟩ (lv_sub hl [0, 2] rfl)
        · have hf := qob_f hf c11
          refine lv_aload_n hx hb dX10_bridges_20 rfl (lv_at hl 0 rfl) ?_
          refine lv_iload_n hx hb dX10_bridges_21 rfl (lv_at hl 2 rfl) ?_
          refine lv_iconst (v := 1) hx hb dX10_bridges_22 (by decide) ?_
          obtain ⟨r_2, m_right_6, m_down_6, m_dist_6, m_queue_6, q12, hf⟩ := qcall5 hf
          refine ctV_i (r := r_2) (wc := [oX10 mo ma m_thrown m_textSize m_rows m_columns m_a m_b m_readRows m_readColumns m_at m_looks m_came m_draw m_turnedRows m_turnedColumns, aZ cy (ma 1) 36 m_right_2, aZ cy (ma 2) 36 m_down_2, aI cy (ma 7) 36 m_dist_2, aI cy (ma 8) 36 m_queue_2, aZ cy (ma 10) 36 m_shut]) (w1 := [oX10 mo ma m_thrown m_textSize m_rows m_columns m_a m_b m_readRows m_readColumns m_at m_looks m_came m_draw m_turnedRows m_turnedColumns, aZ cy (ma 1) 36 m_right_6, aZ cy (ma 2) 36 m_down_6, aI cy (ma 7) 36 m_dist_6, aI cy (ma 8) 36 m_queue_6, aZ cy (ma 10) 36 m_shut]) (wr := []) (wn := [oX10 mo ma m_thrown m_textSize m_rows m_columns m_a m_b m_readRows m_readColumns m_at m_looks m_came m_draw m_turnedRows m_turnedColumns, aZ cy (ma 1) 36 m_right_6, aZ cy (ma 2) 36 m_down_6, aI cy (ma 7) 36 m_dist_6, aI cy (ma 8) 36 m_queue_6, aZ cy (ma 10) 36 m_shut]) (As := [.int x2_1, .int 1]) (rest := [.int x1_2]) (q0 := 0) X hK hP hD hS [0, 1, 2, 3, 4, 5] [] [0, 1, 2, 3, 4, 5] rfl rfl rfl rfl rfl (by decide) rfl rfl rfl (KX10_isBridge q12 _) (cwV 2 hts gX10_bridges_X10_isBridge rfl rfl rfl hdX10_isBridge ⟨Nat.le_of_ble_eq_true rfl, Nat.le_of_ble_eq_true rfl⟩) rfl rfl rfl hl rfl (Nat.le_of_ble_eq_true rfl) dX10_bridges_23 (Nat.zero_le _) (Nat.zero_le _) (fun H locs hP hD hS => ?_)
          refine lv_if_eq (tgt := 33) hx hb dX10_bridges_26 (by decide) (fun c13 => ?_) (fun c13 => ?_)
          · have hf := qob_t hf c13
            refine lv_iconst (v := 0) hx hb dX10_bridges_33 (by decide) ?_
            exact hJ10 0 m_right_6 m_down_6 m_dist_6 m_queue_6 hf _ _ _ ⟨hP, hD, hS⟩ (lv_sub hl [0, 2] rfl)
          · have hf := qob_f hf c13
            refine lv_iconst (v := 1) hx hb dX10_bridges_29 (by decide) ?_
            refine lv_goto (tgt := 34) hx hb dX10_bridges_30 (by decide) ?_
            exact hJ10 1 m_right_6 m_down_6 m_dist_6 m_queue_6 hf _ _ _ ⟨hP, hD, hS⟩ (lv_sub hl [0, 2] rfl)
theorem inwX10_farOf_X10 : ∀ w ∈ wsX100, w ∈ wsX10_farOf := fun _ h => List.mem_cons_of_mem _ (List.mem_append_right _ h)
abbrev rmX10_farOf : Room := { frames := 4, cells := 0, slots := 0, locals := 98 }
theorem hdX10_farOf : yX10_farOf.cls = RX10 ∧ yX10_farOf.cls ≠ "java/lang/invoke/MethodHandle" ∧ yX10_farOf.cls ≠ "java/lang/invoke/VarHandle" ∧ (parseMethodDescriptor yX10_farOf.desc).map (fun d => d.parameters.length) = some 2 := by decide +kernel
set_option maxHeartbeats 4000000 in
set_option maxRecDepth 100000 in
theorem KX10_farOf {l : Launch} {D : va_G} {cy : Nat → ClassId} {mo : Nat} {ma : Nat → Nat} {m_thrown : Int32} {m_textSize : Int32} {m_rows : Int32} {m_columns : Int32} {m_a : Int32} {m_b : Int32} {m_readRows : Int32} {m_readColumns : Int32} {m_at : Int32} {m_looks : Int32} {m_came : Int32} {m_draw : Int64} {m_turnedRows : Int32} {m_turnedColumns : Int32} {m_right : Nat → Int32} {m_down : Nat → Int32} {m_dist : Nat → Int32} {m_queue : Nat → Int32} {m_shut : Nat → Int32} {p1 : Int32} {p2 : Int32} {r : Int32} {m_dist' : Nat → Int32} {m_queue' : Nat → Int32} (hf : fX10_farOf m_rows m_columns m_right m_down m_dist m_queue m_shut p1 p2 = some (r, m_dist', m_queue')) : CtI l yX10_farOf wsX10_farOf rmX10_farOf D cy [.ref mo, .int p1, .int p2] ([oX10 mo ma m_thrown m_textSize m_rows m_columns m_a m_b m_readRows m_readColumns m_at m_looks m_came m_draw m_turnedRows m_turnedColumns, aZ cy (ma 1) 36 m_right, aZ cy (ma 2) 36 m_down, aI cy (ma 7) 36 m_dist, aI cy (ma 8) 36 m_queue, aZ cy (ma 10) 36 m_shut]) ([oX10 mo ma m_thrown m_textSize m_rows m_columns m_a m_b m_readRows m_readColumns m_at m_looks m_came m_draw m_turnedRows m_turnedColumns, aZ cy (ma 1) 36 m_right, aZ cy (ma 2) 36 m_down, aI cy (ma 7) 36 m_dist', aI cy (ma 8) 36 m_queue', aZ cy (ma 10) 36 m_shut]) r := by
  refine CtI.of (cc := cX10_farOf) (maxL := 3) (ret := some .int) (own := RX10) (by decide) rfl rfl (Nat.le_of_ble_eq_true rfl) ?_
  intro p e s m args below meth c A Q X hQ hK hP hD hS ls hl
  obtain ⟨hx, hb, hml, hown, hts, hr, hlocks, hA, hZ⟩ := id X
  have hl : lv_has ls 3 [(0, .ref mo), (1, .int p1), (2, .int p2)] := hl
  unfold fX10_farOf at hf
  have hf := qob_top hf
  refine lv_aload_n hx hb dX10_farOf_0 rfl (lv_at hl 0 rfl) ?_
  refine lv_iload_n hx hb dX10_farOf_1 rfl (lv_at hl 1 rfl) ?_
  obtain ⟨m_dist_1, m_queue_1, q1, hf⟩ := qcall2 hf
  refine ctV_v (wc := [oX10 mo ma m_thrown m_textSize m_rows m_columns m_a m_b m_readRows m_readColumns m_at m_looks m_came m_draw m_turnedRows m_turnedColumns, aZ cy (ma 1) 36 m_right, aZ cy (ma 2) 36 m_down, aI cy (ma 7) 36 m_dist, aI cy (ma 8) 36 m_queue, aZ cy (ma 10) 36 m_shut]) (w1 := [oX10 mo ma m_thrown m_textSize m_rows m_columns m_a m_b m_readRows m_readColumns m_at m_looks m_came m_draw m_turnedRows m_turnedColumns, aZ cy (ma 1) 36 m_right, aZ cy (ma 2) 36 m_down, aI cy (ma 7) 36 m_dist_1, aI cy (ma 8) 36 m_queue_1, aZ cy (ma 10) 36 m_shut]) (wr := []) (wn := [oX10 mo ma m_thrown m_textSize m_rows m_columns m_a m_b m_readRows m_readColumns m_at m_looks m_came m_draw m_turnedRows m_turnedColumns, aZ cy (ma 1) 36 m_right, aZ cy (ma 2) 36 m_down, aI cy (ma 7) 36 m_dist_1, aI cy (ma 8) 36 m_queue_1, aZ cy (ma 10) 36 m_shut]) (As := [.int p1]) (rest := []) (q0 := 0) X hK hP hD hS [0, 1, 2, 3, 4, 5] [] [0, 1, 2, 3, 4, 5] rfl rfl rfl rfl rfl (by decide) rfl rfl rfl (KX10_layFar q1 _) (cwV 1 hts gX10_farOf_X10_layFar rfl rfl rfl hdX10_layFar ⟨Nat.le_of_ble_eq_true rfl, Nat.le_of_ble_eq_true rfl⟩) rfl rfl rfl hl rfl (Nat.le_of_ble_eq_true rfl) dX10_farOf_2 (Nat.zero_le _) (Nat.zero_le _) (fun H locs hP hD hS => ?_)
  refine lv_aload_n hx hb dX10_farOf_5 rfl (lv_at hl 0 rfl) ?_
  refine va_get (D := D) (ci := 10) (v := .ref (ma 7)) (C := RX10) (T := TX10) (N := 34) hx hb hts inwX10_farOf_X10 hown hK hP 0 rfl rfl 15 (by decide) (hts (.fieldLink RX10 39 "HedgeWaysModel" "dist" "[I") (List.mem_of_getElem? (i := 1) rfl)) (fun _ h9 => h9) rfl dX10_farOf_6 ?_
  refine lv_iload_n hx hb dX10_farOf_9 rfl (lv_at hl 2 rfl) ?_
  obtain ⟨i2, hf⟩ := qob_gd hf
  refine va_iald hx hb hK hP 3 0 rfl rfl i2 dX10_farOf_10 ?_
  cases qob_ret hf
  exact ct_iret X hQ hK hP hD hS rfl dX10_farOf_11
theorem inwX10_isMust_X10 : ∀ w ∈ wsX100, w ∈ wsX10_isMust := fun _ h => List.mem_cons_of_mem _ (List.mem_append_right _ h)
abbrev rmX10_isMust : Room := { frames := 5, cells := 0, slots := 0, locals := 120 }
theorem hdX10_isMust : yX10_isMust.cls = RX10 ∧ yX10_isMust.cls ≠ "java/lang/invoke/MethodHandle" ∧ yX10_isMust.cls ≠ "java/lang/invoke/VarHandle" ∧ (parseMethodDescriptor yX10_isMust.desc).map (fun d => d.parameters.length) = some 1 := by decide +kernel
set_option maxHeartbeats 4000000 in
set_option maxRecDepth 100000 in
theorem KX10_isMust {l : Launch} {D : va_G} {cy : Nat → ClassId} {mo : Nat} {ma : Nat → Nat} {m_thrown : Int32} {m_textSize : Int32} {m_rows : Int32} {m_columns : Int32} {m_a : Int32} {m_b : Int32} {m_readRows : Int32} {m_readColumns : Int32} {m_at : Int32} {m_looks : Int32} {m_came : Int32} {m_draw : Int64} {m_turnedRows : Int32} {m_turnedColumns : Int32} {m_right : Nat → Int32} {m_down : Nat → Int32} {m_dist : Nat → Int32} {m_queue : Nat → Int32} {m_shut : Nat → Int32} {p1 : Int32} {r : Int32} {m_dist' : Nat → Int32} {m_queue' : Nat → Int32} {m_shut' : Nat → Int32} (hf : fX10_isMust m_rows m_columns m_a m_b m_right m_down m_dist m_queue m_shut p1 = some (r, m_dist', m_queue', m_shut')) : CtI l yX10_isMust wsX10_isMust rmX10_isMust D cy [.ref mo, .int p1] ([oX10 mo ma m_thrown m_textSize m_rows m_columns m_a m_b m_readRows m_readColumns m_at m_looks m_came m_draw m_turnedRows m_turnedColumns, aZ cy (ma 1) 36 m_right, aZ cy (ma 2) 36 m_down, aI cy (ma 7) 36 m_dist, aI cy (ma 8) 36 m_queue, aZ cy (ma 10) 36 m_shut]) ([oX10 mo ma m_thrown m_textSize m_rows m_columns m_a m_b m_readRows m_readColumns m_at m_looks m_came m_draw m_turnedRows m_turnedColumns, aZ cy (ma 1) 36 m_right, aZ cy (ma 2) 36 m_down, aI cy (ma 7) 36 m_dist', aI cy (ma 8) 36 m_queue', aZ cy (ma 10) 36 m_shut']) r := by
  refine CtI.of (cc := cX10_isMust) (maxL := 3) (ret := some .boolean) (own := RX10) (by decide) rfl rfl (Nat.le_of_ble_eq_true rfl) ?_
  intro p e s m args below meth c A Q X hQ hK hP hD hS ls hl
  obtain ⟨hx, hb, hml, hown, hts, hr, hlocks, hA, hZ⟩ := id X
  have hl : lv_has ls 3 [(0, .ref mo), (1, .int p1)] := hl
  unfold fX10_isMust at hf
  have hf := qob_top hf
  refine lv_aload_n hx hb dX10_isMust_0 rfl (lv_at hl 0 rfl) ?_
  refine lv_aload_n hx hb dX10_isMust_1 rfl (lv_at hl 0 rfl) ?_
  refine va_get (D := D) (ci := 10) (v := .int m_a) (C := RX10) (T := TX10) (N := 34) hx hb hts inwX10_isMust_X10 hown hK hP 0 rfl rfl 7 (by decide) (hts (.fieldLink RX10 103 "HedgeWaysModel" "a" "I") (List.mem_of_getElem? (i := 1) rfl)) (fun _ h9 => h9) rfl dX10_isMust_2 ?_
  refine lv_aload_n hx hb dX10_isMust_5 rfl (lv_at hl 0 rfl) ?_
  refine va_get (D := D) (ci := 10) (v := .int m_b) (C := RX10) (T := TX10) (N := 34) hx hb hts inwX10_isMust_X10 hown hK hP 0 rfl rfl 8 (by decide) (hts (.fieldLink RX10 106 "HedgeWaysModel" "b" "I") (List.mem_of_getElem? (i := 2) rfl)) (fun _ h9 => h9) rfl dX10_isMust_6 ?_
  obtain ⟨r_1, m_dist_1, m_queue_1, q1, hf⟩ := qcall3 hf
  refine ctV_i (r := r_1) (wc := [oX10 mo ma m_thrown m_textSize m_rows m_columns m_a m_b m_readRows m_readColumns m_at m_looks m_came m_draw m_turnedRows m_turnedColumns, aZ cy (ma 1) 36 m_right, aZ cy (ma 2) 36 m_down, aI cy (ma 7) 36 m_dist, aI cy (ma 8) 36 m_queue, aZ cy (ma 10) 36 m_shut]) (w1 := [oX10 mo ma m_thrown m_textSize m_rows m_columns m_a m_b m_readRows m_readColumns m_at m_looks m_came m_draw m_turnedRows m_turnedColumns, aZ cy (ma 1) 36 m_right, aZ cy (ma 2) 36 m_down, aI cy (ma 7) 36 m_dist_1, aI cy (ma 8) 36 m_queue_1, aZ cy (ma 10) 36 m_shut]) (wr := []) (wn := [oX10 mo ma m_thrown m_textSize m_rows m_columns m_a m_b m_readRows m_readColumns m_at m_looks m_came m_draw m_turnedRows m_turnedColumns, aZ cy (ma 1) 36 m_right, aZ cy (ma 2) 36 m_down, aI cy (ma 7) 36 m_dist_1, aI cy (ma 8) 36 m_queue_1, aZ cy (ma 10) 36 m_shut]) (As := [.int m_a, .int m_b]) (rest := []) (q0 := 0) X hK hP hD hS [0, 1, 2, 3, 4, 5] [] [0, 1, 2, 3, 4, 5] rfl rfl rfl rfl rfl (by decide) rfl rfl rfl (KX10_farOf q1 _) (cwV 2 hts gX10_isMust_X10_farOf rfl rfl rfl hdX10_farOf ⟨Nat.le_of_ble_eq_true rfl, Nat.le_of_ble_eq_true rfl⟩) rfl rfl rfl hl rfl (Nat.le_of_ble_eq_true rfl) dX10_isMust_9 (Nat.zero_le _) (Nat.zero_le _) (fun H locs hP hD hS => ?_)
  refine lv_sipush (v := 9999) hx hb dX10_isMust_12 (by decide) ?_
  refine lv_icmp_ne (tgt := 20) hx hb dX10_isMust_15 (by decide) (fun c2 => ?_) (fun c2 => ?_)
  · have hf := qob_f hf c2
    refine lv_iload_n hx hb dX10_isMust_20 rfl (lv_at hl 1 rfl) ?_
    refine lv_aload_n hx hb dX10_isMust_21 rfl (lv_at hl 0 rfl) ?_
    refine va_get (D := D) (ci := 10) (v := .int m_a) (C := RX10) (T := TX10) (N := 34) hx hb hts inwX10_isMust_X10 hown hK hP 0 rfl rfl 7 (by decide) (hts (.fieldLink RX10 103 "HedgeWaysModel" "a" "I") (List.mem_of_getElem? (i := 1) rfl)) (fun _ h9 => h9) rfl dX10_isMust_22 ?_
    refine lv_icmp_eq (tgt := 36) hx hb dX10_isMust_25 (by decide) (fun c3 => ?_) (fun c3 => ?_)
    · have hf := qob_t hf c3
      refine lv_iconst (v := 1) hx hb dX10_isMust_36 (by decide) ?_
      cases qob_ret hf
      exact ct_zret X hQ hK hP hD hS qnb1 dX10_isMust_37
    · have hf := qob_f hf c3
      refine lv_iload_n hx hb dX10_isMust_28 rfl (lv_at hl 1 rfl) ?_
      refine lv_aload_n hx hb dX10_isMust_29 rfl (lv_at hl 0 rfl) ?_
      refine va_get (D := D) (ci := 10) (v := .int m_b) (C := RX10) (T := TX10) (N := 34) hx hb hts inwX10_isMust_X10 hown hK hP 0 rfl rfl 8 (by decide) (hts (.fieldLink RX10 106 "HedgeWaysModel" "b" "I") (List.mem_of_getElem? (i := 2) rfl)) (fun _ h9 => h9) rfl dX10_isMust_30 ?_
      refine lv_icmp_ne (tgt := 38) hx hb dX10_isMust_33 (by decide) (fun c4 => ?_) (fun c4 => ?_)
      · have hf := qob_f hf c4
        refine lv_aload_n hx hb dX10_isMust_38 rfl (lv_at hl 0 rfl) ?_
        refine va_get (D := D) (ci := 10) (v := .ref (ma 10)) (C := RX10) (T := TX10) (N := 34) hx hb hts inwX10_isMust_X10 hown hK hP 0 rfl rfl 18 (by decide) (hts (.fieldLink RX10 49 "HedgeWaysModel" "shut" "[Z") (List.mem_of_getElem? (i := 3) rfl)) (fun _ h9 => h9) rfl dX10_isMust_39 ?_
        refine lv_iload_n hx hb dX10_isMust_42 rfl (lv_at hl 1 rfl) ?_
        refine lv_iconst (v := 1) hx hb dX10_isMust_43 (by decide) ?_
        obtain ⟨i5, hf⟩ := qob_gd hf
        refine va_zast hx hb hK hP hD hS 5 2 rfl rfl i5 dX10_isMust_44 (fun H locs hP hD hS => ?_)
        have hP : va_P D vwCl ([oX10 mo ma m_thrown m_textSize m_rows m_columns m_a m_b m_readRows m_readColumns m_at m_looks m_came m_draw m_turnedRows m_turnedColumns, aZ cy (ma 1) 36 m_right, aZ cy (ma 2) 36 m_down, aI cy (ma 7) 36 m_dist_1, aI cy (ma 8) 36 m_queue_1, aZ cy (ma 10) 36 (upd m_shut p1.toNatClampNeg (qnb 1))]) H := hP
        have hD : va_D A ([oX10 mo ma m_thrown m_textSize m_rows m_columns m_a m_b m_readRows m_readColumns m_at m_looks m_came m_draw m_turnedRows m_turnedColumns, aZ cy (ma 1) 36 m_right, aZ cy (ma 2) 36 m_down, aI cy (ma 7) 36 m_dist_1, aI cy (ma 8) 36 m_queue_1, aZ cy (ma 10) 36 (upd m_shut p1.toNatClampNeg (qnb 1))]) := hD
        refine lv_aload_n hx hb dX10_isMust_45 rfl (lv_at hl 0 rfl) ?_
        refine lv_aload_n hx hb dX10_isMust_46 rfl (lv_at hl 0 rfl) ?_
        refine va_get (D := D) (ci := 10) (v := .int m_a) (C := RX10) (T := TX10) (N := 34) hx hb hts inwX10_isMust_X10 hown hK hP 0 rfl rfl 7 (by decide) (hts (.fieldLink RX10 103 "HedgeWaysModel" "a" "I") (List.mem_of_getElem? (i := 1) rfl)) (fun _ h9 => h9) rfl dX10_isMust_47 ?_
        refine lv_aload_n hx hb dX10_isMust_50 rfl (lv_at hl 0 rfl) ?_
        refine va_get (D := D) (ci := 10) (v := .int m_b) (C := RX10) (T := TX10) (N := 34) hx hb hts inwX10_isMust_X10 hown hK hP 0 rfl rfl 8 (by decide) (hts (.fieldLink RX10 106 "HedgeWaysModel" "b" "I") (List.mem_of_getElem? (i := 2) rfl)) (fun _ h9 => h9) rfl dX10_isMust_51 ?_
        obtain ⟨r_2, m_dist_2, m_queue_2, q6, hf⟩ := qcall3 hf
        refine ctV_i (r := r_2) (wc := [oX10 mo ma m_thrown m_textSize m_rows m_columns m_a m_b m_readRows m_readColumns m_at m_looks m_came m_draw m_turnedRows m_turnedColumns, aZ cy (ma 1) 36 m_right, aZ cy (ma 2) 36 m_down, aI cy (ma 7) 36 m_dist_1, aI cy (ma 8) 36 m_queue_1, aZ cy (ma 10) 36 (upd m_shut p1.toNatClampNeg (qnb 1))]) (w1 := [oX10 mo ma m_thrown m_textSize m_rows m_columns m_a m_b m_readRows m_readColumns m_at m_looks m_came m_draw m_turnedRows m_turnedColumns, aZ cy (ma 1) 36 m_right, aZ cy (ma 2) 36 m_down, aI cy (ma 7) 36 m_dist_2, aI cy (ma 8) 36 m_queue_2, aZ cy (ma 10) 36 (upd m_shut p1.toNatClampNeg (qnb 1))]) (wr := []) (wn := [oX10 mo ma m_thrown m_textSize m_rows m_columns m_a m_b m_readRows m_readColumns m_at m_looks m_came m_draw m_turnedRows m_turnedColumns, aZ cy (ma 1) 36 m_right, aZ cy (ma 2) 36 m_down, aI cy (ma 7) 36 m_dist_2, aI cy (ma 8) 36 m_queue_2, aZ cy (ma 10) 36 (upd m_shut p1.toNatClampNeg (qnb 1))]) (As := [.int m_a, .int m_b]) (rest := []) (q0 := 0) X hK hP hD hS [0, 1, 2, 3, 4, 5] [] [0, 1, 2, 3, 4, 5] rfl rfl rfl rfl rfl (by decide) rfl rfl rfl (KX10_farOf q6 _) (cwV 2 hts gX10_isMust_X10_farOf rfl rfl rfl hdX10_farOf ⟨Nat.le_of_ble_eq_true rfl, Nat.le_of_ble_eq_true rfl⟩) rfl rfl rfl hl rfl (Nat.le_of_ble_eq_true rfl) dX10_isMust_54 (Nat.zero_le _) (Nat.zero_le _) (fun H locs hP hD hS => ?_)
        refine lv_sipush (v := 9999) hx hb dX10_isMust_57 (by decide) ?_
        refine qjoin1 hf (fun (s_1 : Int32) => ∀ (H : Heap) (locs : List Loc) (ls : Array Slot), ctW D A s ([oX10 mo ma m_thrown m_textSize m_rows m_columns m_a m_b m_readRows m_readColumns m_at m_looks m_came m_draw m_turnedRows m_turnedColumns, aZ cy (ma 1) 36 m_right, aZ cy (ma 2) 36 m_down, aI cy (ma 7) 36 m_dist_2, aI cy (ma 8) 36 m_queue_2, aZ cy (ma 10) 36 (upd m_shut p1.toNatClampNeg (qnb 1))]) H locs → lv_has ls 3 [(0, .ref mo), (1, .int p1)] → W p l e rmX10_isMust s m args below meth c H locs 0 0 Q (F0 m 68 ls [.int s_1])) ?_ ?_
        · intro s_1 hf H locs ls ⟨hP, hD, hS⟩ hl
          refine lv_istore_n (lv' := [(2, .int s_1), (0, .ref mo), (1, .int p1)]) hx hb dX10_isMust_68 rfl hl (by decide) rfl (fun ls hl => ?_)
          refine lv_aload_n hx hb dX10_isMust_69 rfl (lv_at hl 1 rfl) ?_
          refine va_get (D := D) (ci := 10) (v := .ref (ma 10)) (C := RX10) (T := TX10) (N := 34) hx hb hts inwX10_isMust_X10 hown hK hP 0 rfl rfl 18 (by decide) (hts (.fieldLink RX10 49 "HedgeWaysModel" "shut" "[Z") (List.mem_of_getElem? (i := 3) rfl)) (fun _ h9 => h9) rfl dX10_isMust_70 ?_
          refine lv_iload_n hx hb dX10_isMust_73 rfl (lv_at hl 2 rfl) ?_
          refine lv_iconst (v := 0) hx hb dX10_isMust_74 (by decide) ?_
          obtain ⟨i7, hf⟩ := qob_gd hf
          obtain ⟨m_shut_1, e8⟩ : ∃ z, z = (upd (upd m_shut p1.toNatClampNeg (qnb 1)) p1.toNatClampNeg (qnb 0)) := ⟨_, rfl⟩
          have hf := qob_bd hf e8
          refine va_zast hx hb hK hP hD hS 5 2 rfl rfl i7 dX10_isMust_75 (fun H locs hP hD hS => ?_)
          have hP : va_P D vwCl ([oX10 mo ma m_thrown m_textSize m_rows m_columns m_a m_b m_readRows m_readColumns m_at m_looks m_came m_draw m_turnedRows m_turnedColumns, aZ cy (ma 1) 36 m_right, aZ cy (ma 2) 36 m_down, aI cy (ma 7) 36 m_dist_2, aI cy (ma 8) 36 m_queue_2, aZ cy (ma 10) 36 m_shut_1]) H := by rw [e8]; exact hP
          have hD : va_D A ([oX10 mo ma m_thrown m_textSize m_rows m_columns m_a m_b m_readRows m_readColumns m_at m_looks m_came m_draw m_turnedRows m_turnedColumns, aZ cy (ma 1) 36 m_right, aZ cy (ma 2) 36 m_down, aI cy (ma 7) 36 m_dist_2, aI cy (ma 8) 36 m_queue_2, aZ cy (ma 10) 36 m_shut_1]) := by rw [e8]; exact hD
          refine lv_iload_n hx hb dX10_isMust_76 rfl (lv_at hl 0 rfl) ?_
          cases qob_ret hf
          exact ct_zret X hQ hK hP hD hS rfl dX10_isMust_77
        · intro J9 hJ9 hf
          refine lv_icmp_ne (tgt := 67) hx hb dX10_isMust_60 (by decide) (fun c10 => ?_) (fun c10 => ?_)
          · have hf := qob_f hf c10
            refine lv_iconst (v := 0) hx hb dX10_isMust_67 (by decide) ?_
            exact hJ9 0 hf _ _ _ ⟨hP, hD, hS⟩ hl
          · have hf := qob_t hf c10
            refine lv_iconst (v := 1) hx hb dX10_isMust_63 (by decide) ?_
            refine lv_goto (tgt := 68) hx hb dX10_isMust_64 (by decide) ?_
            exact hJ9 1 hf _ _ _ ⟨hP, hD, hS⟩ hl
      · have hf := qob_t hf c4
        refine lv_iconst (v := 1) hx hb dX10_isMust_36 (by decide) ?_
        cases qob_ret hf
        exact ct_zret X hQ hK hP hD hS qnb1 dX10_isMust_37
  · have hf := qob_t hf c2
    refine lv_iconst (v := 0) hx hb dX10_isMust_18 (by decide) ?_
    cases qob_ret hf
    exact ct_zret X hQ hK hP hD hS qnb0 dX10_isMust_19
theorem inwX10_still_X10 : ∀ w ∈ wsX100, w ∈ wsX10_still := fun _ h => List.mem_cons_of_mem _ (List.mem_append_right _ h)
abbrev rmX10_still : Room := { frames := 3, cells := 0, slots := 0, locals := 72 }
theorem hdX10_still : yX10_still.cls = RX10 ∧ yX10_still.cls ≠ "java/lang/invoke/MethodHandle" ∧ yX10_still.cls ≠ "java/lang/invoke/VarHandle" ∧ (parseMethodDescriptor yX10_still.desc).map (fun d => d.parameters.length) = some 1 := by decide +kernel
set_option maxHeartbeats 4000000 in
set_option maxRecDepth 100000 in
theorem KX10_still {l : Launch} {D : va_G} {cy : Nat → ClassId} {mo : Nat} {ma : Nat → Nat} {m_thrown : Int32} {m_textSize : Int32} {m_rows : Int32} {m_columns : Int32} {m_a : Int32} {m_b : Int32} {m_readRows : Int32} {m_readColumns : Int32} {m_at : Int32} {m_looks : Int32} {m_came : Int32} {m_draw : Int64} {m_turnedRows : Int32} {m_turnedColumns : Int32} {m_right : Nat → Int32} {m_down : Nat → Int32} {m_shut : Nat → Int32} {p1 : Int32} {r : Int32} (hf : fX10_still m_rows m_columns m_right m_down m_shut p1 = some r) : CtI l yX10_still wsX10_still rmX10_still D cy [.ref mo, .int p1] ([oX10 mo ma m_thrown m_textSize m_rows m_columns m_a m_b m_readRows m_readColumns m_at m_looks m_came m_draw m_turnedRows m_turnedColumns, aZ cy (ma 1) 36 m_right, aZ cy (ma 2) 36 m_down, aZ cy (ma 10) 36 m_shut]) ([oX10 mo ma m_thrown m_textSize m_rows m_columns m_a m_b m_readRows m_readColumns m_at m_looks m_came m_draw m_turnedRows m_turnedColumns, aZ cy (ma 1) 36 m_right, aZ cy (ma 2) 36 m_down, aZ cy (ma 10) 36 m_shut]) r := by
  refine CtI.of (cc := cX10_still) (maxL := 4) (ret := some .int) (own := RX10) (by decide) rfl rfl (Nat.le_of_ble_eq_true rfl) ?_
  intro p e s m args below meth c A Q X hQ hK hP hD hS ls hl
  obtain ⟨hx, hb, hml, hown, hts, hr, hlocks, hA, hZ⟩ := id X
  have hl : lv_has ls 4 [(0, .ref mo), (1, .int p1)] := hl
  unfold fX10_still at hf
  have hf := qob_top hf
  refine lv_iconst (v := 0) hx hb dX10_still_0 (by decide) ?_
  refine lv_istore_n (lv' := [(2, .int 0), (0, .ref mo), (1, .int p1)]) hx hb dX10_still_1 rfl hl (by decide) rfl (fun ls hl => ?_)
  refine lv_iconst (v := 0) hx hb dX10_still_2 (by decide) ?_
  refine lv_istore_n (lv' := [(3, .int 0), (2, .int 0), (0, .ref mo), (1, .int p1)]) hx hb dX10_still_3 rfl hl (by decide) rfl (fun ls hl => ?_)
  refine qjoin1 hf (fun (x2_1 : Int32) => ∀ (H : Heap) (locs : List Loc) (ls : Array Slot), ctW D A s ([oX10 mo ma m_thrown m_textSize m_rows m_columns m_a m_b m_readRows m_readColumns m_at m_looks m_came m_draw m_turnedRows m_turnedColumns, aZ cy (ma 1) 36 m_right, aZ cy (ma 2) 36 m_down, aZ cy (ma 10) 36 m_shut]) H locs → lv_has ls 4 [(2, .int x2_1)] → W p l e rmX10_still s m args below meth c H locs 0 0 Q (F0 m 46 ls [])) ?_ ?_
  · intro x2_1 hf H locs ls ⟨hP, hD, hS⟩ hl
    refine lv_iload_n hx hb dX10_still_46 rfl (lv_at hl 0 rfl) ?_
    cases qob_ret hf
    exact ct_iret X hQ hK hP hD hS rfl dX10_still_47
  · intro J1 hJ1 hf
    refine qwalk2 (fun (x2_2 : Int32) (x3_1 : Int32) => ∀ (H : Heap) (locs : List Loc) (ls : Array Slot), ctW D A s ([oX10 mo ma m_thrown m_textSize m_rows m_columns m_a m_b m_readRows m_readColumns m_at m_looks m_came m_draw m_turnedRows m_turnedColumns, aZ cy (ma 1) 36 m_right, aZ cy (ma 2) 36 m_down, aZ cy (ma 10) 36 m_shut]) H locs → lv_has ls 4 [(0, .ref mo), (1, .int p1), (2, .int x2_2), (3, .int x3_1)] → W p l e rmX10_still s m args below meth c H locs 0 0 Q (F0 m 4 ls [])) ?_ _ (0 : Int32) (0 : Int32) hf _ _ _ ⟨hP, hD, hS⟩ (lv_sub hl [2, 3, 1, 0] rfl)
    intro J2 hL2 x2_2 x3_1 hf H locs ls ⟨hP, hD, hS⟩ hl
    refine lv_iload_n hx hb dX10_still_4 rfl (lv_at hl 3 rfl) ?_
    refine lv_iconst (v := 4) hx hb dX10_still_5 (by decide) ?_
    refine lv_icmp_ge (tgt := 46) hx hb dX10_still_6 (by decide) (fun c3 => ?_) (fun c3 => ?_)
    · have hf := qob_t hf c3
      have hf := qob_esc hf
      exact hJ1 x2_2 hf _ _ _ ⟨hP, hD, hS⟩ (lv_sub hl [2] rfl)
    · have hf := qob_f hf c3
      refine lv_iload_n hx hb dX10_still_9 rfl (lv_at hl 2 rfl) ?_
      refine lv_aload_n hx hb dX10_still_10 rfl (lv_at hl 0 rfl) ?_
      refine lv_iload_n hx hb dX10_still_11 rfl (lv_at hl 1 rfl) ?_
      refine lv_iload_n hx hb dX10_still_12 rfl (lv_at hl 3 rfl) ?_
      obtain ⟨r_1, q4, hf⟩ := qcall1 hf
      refine ctV_i0 (r := r_1) (wc := [oX10 mo ma m_thrown m_textSize m_rows m_columns m_a m_b m_readRows m_readColumns m_at m_looks m_came m_draw m_turnedRows m_turnedColumns, aZ cy (ma 1) 36 m_right, aZ cy (ma 2) 36 m_down]) (As := [.int p1, .int x3_1]) (rest := [.int x2_2]) (q0 := 0) X hK hP hD hS [0, 1, 2] rfl rfl rfl (KX10_isOpen q4 _) (cwV 2 hts gX10_still_X10_isOpen rfl rfl rfl hdX10_isOpen ⟨Nat.le_of_ble_eq_true rfl, Nat.le_of_ble_eq_true rfl⟩) rfl rfl rfl hl rfl (Nat.le_of_ble_eq_true rfl) dX10_still_13 (Nat.zero_le _) (Nat.zero_le _) (fun H locs hP hS => ?_)
      refine qjoin1 hf (fun (s_1 : Int32) => ∀ (H : Heap) (locs : List Loc) (ls : Array Slot), ctW D A s ([oX10 mo ma m_thrown m_textSize m_rows m_columns m_a m_b m_readRows m_readColumns m_at m_looks m_came m_draw m_turnedRows m_turnedColumns, aZ cy (ma 1) 36 m_right, aZ cy (ma 2) 36 m_down, aZ cy (ma 10) 36 m_shut]) H locs → lv_has ls 4 [(0, .ref mo), (1, .int p1), (3, .int x3_1)] → W p l e rmX10_still s m args below meth c H locs 0 0 Q (F0 m 38 ls [.int s_1, .int x2_2])) ?_ ?_
      · intro s_1 hf H locs ls ⟨hP, hD, hS⟩ hl
        refine lv_iadd hx hb dX10_still_38 ?_
        refine lv_istore_n (lv' := [(2, .int (x2_2 + s_1)), (0, .ref mo), (1, .int p1), (3, .int x3_1)]) hx hb dX10_still_39 rfl hl (by decide) rfl (fun ls hl => ?_)
        refine lv_iinc (v := (x3_1 + 1)) (lv' := [(3, .int (x3_1 + 1)), (2, .int (x2_2 + s_1)), (0, .ref mo), (1, .int p1)]) hx hb dX10_still_40 hl (k := 3) rfl rfl (by decide) rfl (fun ls hl => ?_)
        refine lv_goto (tgt := 4) hx hb dX10_still_43 (by decide) ?_
        exact hL2 (x2_2 + s_1) (x3_1 + 1) hf _ _ _ ⟨hP, hD, hS⟩ (lv_sub hl [2, 3, 1, 0] rfl)
      · intro J5 hJ5 hf
        refine lv_if_eq (tgt := 37) hx hb dX10_still_16 (by decide) (fun c6 => ?_) (fun c6 => ?_)
        · have hf := qob_t hf c6
          refine lv_iconst (v := 0) hx hb dX10_still_37 (by decide) ?_
          exact hJ5 0 hf _ _ _ ⟨hP, hD, hS⟩ (lv_sub hl [0, 1, 3] rfl)
        · have hf := qob_f hf c6
          refine lv_aload_n hx hb dX10_still_19 rfl (lv_at hl 0 rfl) ?_
          refine va_get (D := D) (ci := 10) (v := .ref (ma 10)) (C := RX10) (T := TX10) (N := 34) hx hb hts inwX10_still_X10 hown hK hP 0 rfl rfl 18 (by decide) (hts (.fieldLink RX10 49 "HedgeWaysModel" "shut" "[Z") (List.mem_of_getElem? (i := 1) rfl)) (fun _ h9 => h9) rfl dX10_still_20 ?_
          refine lv_aload_n hx hb dX10_still_23 rfl (lv_at hl 0 rfl) ?_
          refine lv_iload_n hx hb dX10_still_24 rfl (lv_at hl 1 rfl) ?_
          refine lv_iload_n hx hb dX10_still_25 rfl (lv_at hl 3 rfl) ?_
          refine ctV_i0 (r := (fX10_beside m_rows m_columns p1 x3_1)) (wc := [oX10 mo ma m_thrown m_textSize m_rows m_columns m_a m_b m_readRows m_readColumns m_at m_looks m_came m_draw m_turnedRows m_turnedColumns]) (As := [.int p1, .int x3_1]) (rest := [.ref (ma 10), .int x2_2]) (q0 := 0) X hK hP hD hS [0] rfl rfl rfl (KX10_beside rfl _) (cwV 2 hts gX10_still_X10_beside rfl rfl rfl hdX10_beside ⟨Nat.le_of_ble_eq_true rfl, Nat.le_of_ble_eq_true rfl⟩) rfl rfl rfl hl rfl (Nat.le_of_ble_eq_true rfl) dX10_still_26 (Nat.zero_le _) (Nat.zero_le _) (fun H locs hP hS => ?_)
          obtain ⟨i7, hf⟩ := qob_gd hf
          refine va_zald hx hb hK hP 3 2 rfl rfl i7 dX10_still_29 ?_
          refine lv_if_ne (tgt := 37) hx hb dX10_still_30 (by decide) (fun c8 => ?_) (fun c8 => ?_)
          · have hf := qob_f hf c8
            refine lv_iconst (v := 0) hx hb dX10_still_37 (by decide) ?_
            exact hJ5 0 hf _ _ _ ⟨hP, hD, hS⟩ (lv_sub hl [0, 1, 3] rfl)
          · have hf := qob_t hf c8
            refine lv_iconst (v := 1) hx hb dX10_still_33 (by decide) ?_
            refine lv_goto (tgt := 38) hx hb dX10_still_34 (by decide) ?_
            exact hJ5 1 hf _ _ _ ⟨hP, hD, hS⟩ (lv_sub hl [0, 1, 3] rfl)
theorem inwX10_fill_X10 : ∀ w ∈ wsX100, w ∈ wsX10_fill := fun _ h => List.mem_cons_of_mem _ (List.mem_append_right _ h)
abbrev rmX10_fill : Room := { frames := 4, cells := 0, slots := 0, locals := 95 }
theorem hdX10_fill : yX10_fill.cls = RX10 ∧ yX10_fill.cls ≠ "java/lang/invoke/MethodHandle" ∧ yX10_fill.cls ≠ "java/lang/invoke/VarHandle" ∧ (parseMethodDescriptor yX10_fill.desc).map (fun d => d.parameters.length) = some 0 := by decide +kernel
set_option maxHeartbeats 4000000 in
set_option maxRecDepth 100000 in
theorem KX10_fill {l : Launch} {D : va_G} {cy : Nat → ClassId} {mo : Nat} {ma : Nat → Nat} {m_thrown : Int32} {m_textSize : Int32} {m_rows : Int32} {m_columns : Int32} {m_a : Int32} {m_b : Int32} {m_readRows : Int32} {m_readColumns : Int32} {m_at : Int32} {m_looks : Int32} {m_came : Int32} {m_draw : Int64} {m_turnedRows : Int32} {m_turnedColumns : Int32} {m_right : Nat → Int32} {m_down : Nat → Int32} {m_shut : Nat → Int32}  {r : Int32} {m_shut' : Nat → Int32} (hf : fX10_fill m_rows m_columns m_a m_b m_right m_down m_shut = some (r, m_shut')) : CtI l yX10_fill wsX10_fill rmX10_fill D cy [.ref mo] ([oX10 mo ma m_thrown m_textSize m_rows m_columns m_a m_b m_readRows m_readColumns m_at m_looks m_came m_draw m_turnedRows m_turnedColumns, aZ cy (ma 1) 36 m_right, aZ cy (ma 2) 36 m_down, aZ cy (ma 10) 36 m_shut]) ([oX10 mo ma m_thrown m_textSize m_rows m_columns m_a m_b m_readRows m_readColumns m_at m_looks m_came m_draw m_turnedRows m_turnedColumns, aZ cy (ma 1) 36 m_right, aZ cy (ma 2) 36 m_down, aZ cy (ma 10) 36 m_shut']) r := by
  refine CtI.of (cc := cX10_fill) (maxL := 4) (ret := some .int) (own := RX10) (by decide) rfl rfl (Nat.le_of_ble_eq_true rfl) ?_
  intro p e s m args below meth c A Q X hQ hK hP hD hS ls hl
  obtain ⟨hx, hb, hml, hown, hts, hr, hlocks, hA, hZ⟩ := id X
  have hl : lv_has ls 4 [(0, .ref mo)] := hl
  unfold fX10_fill at hf
  have hf := qob_top hf
  refine lv_iconst (v := 1) hx hb dX10_fill_0 (by decide) ?_
  refine lv_istore_n (lv' := [(1, .int 1), (0, .ref mo)]) hx hb dX10_fill_1 rfl hl (by decide) rfl (fun ls hl => ?_)
  refine qjoin1 hf (fun (m_shut_1 : Nat → Int32) => ∀ (H : Heap) (locs : List Loc) (ls : Array Slot), ctW D A s ([oX10 mo ma m_thrown m_textSize m_rows m_columns m_a m_b m_readRows m_readColumns m_at m_looks m_came m_draw m_turnedRows m_turnedColumns, aZ cy (ma 1) 36 m_right, aZ cy (ma 2) 36 m_down, aZ cy (ma 10) 36 m_shut_1]) H locs → lv_has ls 4 [(0, .ref mo)] → W p l e rmX10_fill s m args below meth c H locs 0 0 Q (F0 m 76 ls [])) ?_ ?_
  · intro m_shut_1 hf H locs ls ⟨hP, hD, hS⟩ hl
    refine lv_iconst (v := 0) hx hb dX10_fill_76 (by decide) ?_
    refine lv_istore_n (lv' := [(2, .int 0), (0, .ref mo)]) hx hb dX10_fill_77 rfl hl (by decide) rfl (fun ls hl => ?_)
    refine lv_iconst (v := 0) hx hb dX10_fill_78 (by decide) ?_
    refine lv_istore_n (lv' := [(3, .int 0), (2, .int 0), (0, .ref mo)]) hx hb dX10_fill_79 rfl hl (by decide) rfl (fun ls hl => ?_)
    refine qjoin1 hf (fun (x2_1 : Int32) => ∀ (H : Heap) (locs : List Loc) (ls : Array Slot), ctW D A s ([oX10 mo ma m_thrown m_textSize m_rows m_columns m_a m_b m_readRows m_readColumns m_at m_looks m_came m_draw m_turnedRows m_turnedColumns, aZ cy (ma 1) 36 m_right, aZ cy (ma 2) 36 m_down, aZ cy (ma 10) 36 m_shut_1]) H locs → lv_has ls 4 [(2, .int x2_1)] → W p l e rmX10_fill s m args below meth c H locs 0 0 Q (F0 m 117 ls [])) ?_ ?_
    · intro x2_1 hf H locs ls ⟨hP, hD, hS⟩ hl
      refine lv_iload_n hx hb dX10_fill_117 rfl (lv_at hl 0 rfl) ?_
      cases qob_ret hf
      exact ct_iret X hQ hK hP hD hS rfl dX10_fill_118
    · intro J1 hJ1 hf
      refine qwalk2 (fun (x2_2 : Int32) (x3_1 : Int32) => ∀ (H : Heap) (locs : List Loc) (ls : Array Slot), ctW D A s ([oX10 mo ma m_thrown m_textSize m_rows m_columns m_a m_b m_readRows m_readColumns m_at m_looks m_came m_draw m_turnedRows m_turnedColumns, aZ cy (ma 1) 36 m_right, aZ cy (ma 2) 36 m_down, aZ cy (ma 10) 36 m_shut_1]) H locs → lv_has ls 4 [(0, .ref mo), (2, .int x2_2), (3, .int x3_1)] → W p l e rmX10_fill s m args below meth c H locs 0 0 Q (F0 m 80 ls [])) ?_ _ (0 : Int32) (0 : Int32) hf _ _ _ ⟨hP, hD, hS⟩ (lv_sub hl [2, 1, 0] rfl)
      intro J2 hL2 x2_2 x3_1 hf H locs ls ⟨hP, hD, hS⟩ hl
      refine lv_iload_n hx hb dX10_fill_80 rfl (lv_at hl 2 rfl) ?_
      refine lv_bipush (v := 36) hx hb dX10_fill_81 (by decide) ?_
      refine lv_icmp_ge (tgt := 117) hx hb dX10_fill_83 (by decide) (fun c3 => ?_) (fun c3 => ?_)
      · have hf := qob_t hf c3
        have hf := qob_esc hf
        exact hJ1 x2_2 hf _ _ _ ⟨hP, hD, hS⟩ (lv_sub hl [1] rfl)
      · have hf := qob_f hf c3
        refine lv_iload_n hx hb dX10_fill_86 rfl (lv_at hl 1 rfl) ?_
        refine lv_aload_n hx hb dX10_fill_87 rfl (lv_at hl 0 rfl) ?_
        refine lv_iload_n hx hb dX10_fill_88 rfl (lv_at hl 2 rfl) ?_
        refine ctV_i0 (r := (fX10_isThere m_rows m_columns x3_1)) (wc := [oX10 mo ma m_thrown m_textSize m_rows m_columns m_a m_b m_readRows m_readColumns m_at m_looks m_came m_draw m_turnedRows m_turnedColumns]) (As := [.int x3_1]) (rest := [.int x2_2]) (q0 := 0) X hK hP hD hS [0] rfl rfl rfl (KX10_isThere rfl _) (cwV 1 hts gX10_fill_X10_isThere rfl rfl rfl hdX10_isThere ⟨Nat.le_of_ble_eq_true rfl, Nat.le_of_ble_eq_true rfl⟩) rfl rfl rfl hl rfl (Nat.le_of_ble_eq_true rfl) dX10_fill_89 (Nat.zero_le _) (Nat.zero_le _) (fun H locs hP hS => ?_)
        refine qjoin1 hf (fun (s_1 : Int32) => ∀ (H : Heap) (locs : List Loc) (ls : Array Slot), ctW D A s ([oX10 mo ma m_thrown m_textSize m_rows m_columns m_a m_b m_readRows m_readColumns m_at m_looks m_came m_draw m_turnedRows m_turnedColumns, aZ cy (ma 1) 36 m_right, aZ cy (ma 2) 36 m_down, aZ cy (ma 10) 36 m_shut_1]) H locs → lv_has ls 4 [(0, .ref mo), (3, .int x3_1)] → W p l e rmX10_fill s m args below meth c H locs 0 0 Q (F0 m 109 ls [.int s_1, .int x2_2])) ?_ ?_
        · intro s_1 hf H locs ls ⟨hP, hD, hS⟩ hl
          refine lv_iadd hx hb dX10_fill_109 ?_
          refine lv_istore_n (lv' := [(2, .int (x2_2 + s_1)), (0, .ref mo), (3, .int x3_1)]) hx hb dX10_fill_110 rfl hl (by decide) rfl (fun ls hl => ?_)
          refine lv_iinc (v := (x3_1 + 1)) (lv' := [(3, .int (x3_1 + 1)), (2, .int (x2_2 + s_1)), (0, .ref mo)]) hx hb dX10_fill_111 hl (k := 2) rfl rfl (by decide) rfl (fun ls hl => ?_)
          refine lv_goto (tgt := 80) hx hb dX10_fill_114 (by decide) ?_
          exact hL2 (x2_2 + s_1) (x3_1 + 1) hf _ _ _ ⟨hP, hD, hS⟩ (lv_sub hl [2, 1, 0] rfl)
        · intro J4 hJ4 hf
          refine lv_if_eq (tgt := 108) hx hb dX10_fill_92 (by decide) (fun c5 => ?_) (fun c5 => ?_)
          · have hf := qob_t hf c5
            refine lv_iconst (v := 0) hx hb dX10_fill_108 (by decide) ?_
            exact hJ4 0 hf _ _ _ ⟨hP, hD, hS⟩ (lv_sub hl [0, 2] rfl)
          · have hf := qob_f hf c5
            refine lv_aload_n hx hb dX10_fill_95 rfl (lv_at hl 0 rfl) ?_
            refine va_get (D := D) (ci := 10) (v := .ref (ma 10)) (C := RX10) (T := TX10) (N := 34) hx hb hts inwX10_fill_X10 hown hK hP 0 rfl rfl 18 (by decide) (hts (.fieldLink RX10 49 "HedgeWaysModel" "shut" "[Z") (List.mem_of_getElem? (i := 1) rfl)) (fun _ h9 => h9) rfl dX10_fill_96 ?_
            refine lv_iload_n hx hb dX10_fill_99 rfl (lv_at hl 2 rfl) ?_
            obtain ⟨i6, hf⟩ := qob_gd hf
            refine va_zald hx hb hK hP 3 2 rfl rfl i6 dX10_fill_100 ?_
            refine lv_if_ne (tgt := 108) hx hb dX10_fill_101 (by decide) (fun c7 => ?_) (fun c7 => ?_)
            · have hf := qob_f hf c7
              refine lv_iconst (v := 0) hx hb dX10_fill_108 (by decide) ?_
              exact hJ4 0 hf _ _ _ ⟨hP, hD, hS⟩ (lv_sub hl [0, 2] rfl)
            · have hf := qob_t hf c7
              refine lv_iconst (v := 1) hx hb dX10_fill_104 (by decide) ?_
              refine lv_goto (tgt := 109) hx hb dX10_fill_105 (by decide) ?_
              exact hJ4 1 hf _ _ _ ⟨hP, hD, hS⟩ (lv_sub hl [0, 2] rfl)
  · intro J8 hJ8 hf
    refine qwalk2 (fun (x1_1 : Int32) (m_shut_2 : Nat → Int32) => ∀ (H : Heap) (locs : List Loc) (ls : Array Slot), ctW D A s ([oX10 mo ma m_thrown m_textSize m_rows m_columns m_a m_b m_readRows m_readColumns m_at m_looks m_came m_draw m_turnedRows m_turnedColumns, aZ cy (ma 1) 36 m_right, aZ cy (ma 2) 36 m_down, aZ cy (ma 10) 36 m_shut_2]) H locs → lv_has ls 4 [(0, .ref mo), (1, .int x1_1)] → W p l e rmX10_fill s m args below meth c H locs 0 0 Q (F0 m 2 ls [])) ?_ _ (1 : Int32) m_shut hf _ _ _ ⟨hP, hD, hS⟩ (lv_sub hl [1, 0] rfl)
    intro J9 hL9 x1_1 m_shut_2 hf H locs ls ⟨hP, hD, hS⟩ hl
    refine lv_iload_n hx hb dX10_fill_2 rfl (lv_at hl 1 rfl) ?_
    refine lv_if_eq (tgt := 76) hx hb dX10_fill_3 (by decide) (fun c10 => ?_) (fun c10 => ?_)
    · have hf := qob_t hf c10
      have hf := qob_esc hf
      exact hJ8 m_shut_2 hf _ _ _ ⟨hP, hD, hS⟩ (lv_sub hl [0] rfl)
    · have hf := qob_f hf c10
      refine lv_iconst (v := 0) hx hb dX10_fill_6 (by decide) ?_
      refine lv_istore_n (lv' := [(1, .int 0), (0, .ref mo)]) hx hb dX10_fill_7 rfl hl (by decide) rfl (fun ls hl => ?_)
      refine lv_iconst (v := 0) hx hb dX10_fill_8 (by decide) ?_
      refine lv_istore_n (lv' := [(2, .int 0), (1, .int 0), (0, .ref mo)]) hx hb dX10_fill_9 rfl hl (by decide) rfl (fun ls hl => ?_)
      refine qjoin2 hf (fun (x1_2 : Int32) (m_shut_3 : Nat → Int32) => ∀ (H : Heap) (locs : List Loc) (ls : Array Slot), ctW D A s ([oX10 mo ma m_thrown m_textSize m_rows m_columns m_a m_b m_readRows m_readColumns m_at m_looks m_came m_draw m_turnedRows m_turnedColumns, aZ cy (ma 1) 36 m_right, aZ cy (ma 2) 36 m_down, aZ cy (ma 10) 36 m_shut_3]) H locs → lv_has ls 4 [(0, .ref mo), (1, .int x1_2)] → W p l e rmX10_fill s m args below meth c H locs 0 0 Q (F0 m 73 ls [])) ?_ ?_
      · intro x1_2 m_shut_3 hf H locs ls ⟨hP, hD, hS⟩ hl
        refine lv_goto (tgt := 2) hx hb dX10_fill_73 (by decide) ?_
        exact hL9 x1_2 m_shut_3 hf _ _ _ ⟨hP, hD, hS⟩ hl
      · intro J11 hJ11 hf
        refine qwalk3 (fun (x1_3 : Int32) (x2_3 : Int32) (m_shut_4 : Nat → Int32) => ∀ (H : Heap) (locs : List Loc) (ls : Array Slot), ctW D A s ([oX10 mo ma m_thrown m_textSize m_rows m_columns m_a m_b m_readRows m_readColumns m_at m_looks m_came m_draw m_turnedRows m_turnedColumns, aZ cy (ma 1) 36 m_right, aZ cy (ma 2) 36 m_down, aZ cy (ma 10) 36 m_shut_4]) H locs → lv_has ls 4 [(0, .ref mo), (1, .int x1_3), (2, .int x2_3)] → W p l e rmX10_fill s m args below meth c H locs 0 0 Q (F0 m 10 ls [])) ?_ _ (0 : Int32) (0 : Int32) m_shut_2 hf _ _ _ ⟨hP, hD, hS⟩ (lv_sub hl [2, 1, 0] rfl)
        intro J12 hL12 x1_3 x2_3 m_shut_4 hf H locs ls ⟨hP, hD, hS⟩ hl
        refine lv_iload_n hx hb dX10_fill_10 rfl (lv_at hl 2 rfl) ?_
        refine lv_bipush (v := 36) hx hb dX10_fill_11 (by decide) ?_
        refine lv_icmp_ge (tgt := 73) hx hb dX10_fill_13 (by decide) (fun c13 => ?_) (fun c13 => ?_)
        · have hf := qob_t hf c13
          have hf := qob_esc hf
          exact hJ11 x1_3 m_shut_4 hf _ _ _ ⟨hP, hD, hS⟩ (lv_sub hl [0, 1] rfl)
        · have hf := qob_f hf c13
          refine lv_aload_n hx hb dX10_fill_16 rfl (lv_at hl 0 rfl) ?_
          refine lv_iload_n hx hb dX10_fill_17 rfl (lv_at hl 2 rfl) ?_
          refine ctV_i0 (r := (fX10_isThere m_rows m_columns x2_3)) (wc := [oX10 mo ma m_thrown m_textSize m_rows m_columns m_a m_b m_readRows m_readColumns m_at m_looks m_came m_draw m_turnedRows m_turnedColumns]) (As := [.int x2_3]) (rest := []) (q0 := 0) X hK hP hD hS [0] rfl rfl rfl (KX10_isThere rfl _) (cwV 1 hts gX10_fill_X10_isThere rfl rfl rfl hdX10_isThere ⟨Nat.le_of_ble_eq_true rfl, Nat.le_of_ble_eq_true rfl⟩) rfl rfl rfl hl rfl (Nat.le_of_ble_eq_true rfl) dX10_fill_18 (Nat.zero_le _) (Nat.zero_le _) (fun H locs hP hS => ?_)
          refine lv_if_eq (tgt := 67) hx hb dX10_fill_21 (by decide) (fun c14 => ?_) (fun c14 => ?_)
          · have hf := qob_t hf c14
            refine lv_iinc (v := (x2_3 + 1)) (lv' := [(2, .int (x2_3 + 1)), (0, .ref mo), (1, .int x1_3)]) hx hb dX10_fill_67 hl (k := 2) rfl rfl (by decide) rfl (fun ls hl => ?_)
            refine lv_goto (tgt := 10) hx hb dX10_fill_70 (by decide) ?_
            exact hL12 x1_3 (x2_3 + 1) m_shut_4 hf _ _ _ ⟨hP, hD, hS⟩ (lv_sub hl [1, 2, 0] rfl)
          · have hf := qob_f hf c14
            refine lv_aload_n hx hb dX10_fill_24 rfl (lv_at hl 0 rfl) ?_
            refine va_get (D := D) (ci := 10) (v := .ref (ma 10)) (C := RX10) (T := TX10) (N := 34) hx hb hts inwX10_fill_X10 hown hK hP 0 rfl rfl 18 (by decide) (hts (.fieldLink RX10 49 "HedgeWaysModel" "shut" "[Z") (List.mem_of_getElem? (i := 1) rfl)) (fun _ h9 => h9) rfl dX10_fill_25 ?_
            refine lv_iload_n hx hb dX10_fill_28 rfl (lv_at hl 2 rfl) ?_
            obtain ⟨i15, hf⟩ := qob_gd hf
            refine va_zald hx hb hK hP 3 2 rfl rfl i15 dX10_fill_29 ?_
            refine lv_if_ne (tgt := 67) hx hb dX10_fill_30 (by decide) (fun c16 => ?_) (fun c16 => ?_)
            · have hf := qob_f hf c16
              refine lv_iinc (v := (x2_3 + 1)) (lv' := [(2, .int (x2_3 + 1)), (0, .ref mo), (1, .int x1_3)]) hx hb dX10_fill_67 hl (k := 2) rfl rfl (by decide) rfl (fun ls hl => ?_)
              refine lv_goto (tgt := 10) hx hb dX10_fill_70 (by decide) ?_
              exact hL12 x1_3 (x2_3 + 1) m_shut_4 hf _ _ _ ⟨hP, hD, hS⟩ (lv_sub hl [1, 2, 0] rfl)
            · have hf := qob_t hf c16
              refine lv_iload_n hx hb dX10_fill_33 rfl (lv_at hl 2 rfl) ?_
              refine lv_aload_n hx hb dX10_fill_34 rfl (lv_at hl 0 rfl) ?_
              refine va_get (D := D) (ci := 10) (v := .int m_a) (C := RX10) (T := TX10) (N := 34) hx hb hts inwX10_fill_X10 hown hK hP 0 rfl rfl 7 (by decide) (hts (.fieldLink RX10 103 "HedgeWaysModel" "a" "I") (List.mem_of_getElem? (i := 2) rfl)) (fun _ h9 => h9) rfl dX10_fill_35 ?_
              refine lv_icmp_eq (tgt := 67) hx hb dX10_fill_38 (by decide) (fun c17 => ?_) (fun c17 => ?_)
              · have hf := qob_t hf c17
                refine lv_iinc (v := (x2_3 + 1)) (lv' := [(2, .int (x2_3 + 1)), (0, .ref mo), (1, .int x1_3)]) hx hb dX10_fill_67 hl (k := 2) rfl rfl (by decide) rfl (fun ls hl => ?_)
                refine lv_goto (tgt := 10) hx hb dX10_fill_70 (by decide) ?_
                exact hL12 x1_3 (x2_3 + 1) m_shut_4 hf _ _ _ ⟨hP, hD, hS⟩ (lv_sub hl [1, 2, 0] rfl)
              · have hf := qob_f hf c17
                refine lv_iload_n hx hb dX10_fill_41 rfl (lv_at hl 2 rfl) ?_
                refine lv_aload_n hx hb dX10_fill_42 rfl (lv_at hl 0 rfl) ?_
                refine va_get (D := D) (ci := 10) (v := .int m_b) (C := RX10) (T := TX10) (N := 34) hx hb hts inwX10_fill_X10 hown hK hP 0 rfl rfl 8 (by decide) (hts (.fieldLink RX10 106 "HedgeWaysModel" "b" "I") (List.mem_of_getElem? (i := 3) rfl)) (fun _ h9 => h9) rfl dX10_fill_43 ?_
                refine lv_icmp_eq (tgt := 67) hx hb dX10_fill_46 (by decide) (fun c18 => ?_) (fun c18 => ?_)
                · have hf := qob_t hf c18
                  refine lv_iinc (v := (x2_3 + 1)) (lv' := [(2, .int (x2_3 + 1)), (0, .ref mo), (1, .int x1_3)]) hx hb dX10_fill_67 hl (k := 2) rfl rfl (by decide) rfl (fun ls hl => ?_)
                  refine lv_goto (tgt := 10) hx hb dX10_fill_70 (by decide) ?_
                  exact hL12 x1_3 (x2_3 + 1) m_shut_4 hf _ _ _ ⟨hP, hD, hS⟩ (lv_sub hl [1, 2, 0] rfl)
                · have hf := qob_f hf c18
                  refine lv_aload_n hx hb dX10_fill_49 rfl (lv_at hl 0 rfl) ?_
                  refine lv_iload_n hx hb dX10_fill_50 rfl (lv_at hl 2 rfl) ?_
                  obtain ⟨r_1, q19, hf⟩ := qcall1 hf
                  refine ctV_i0 (r := r_1) (wc := [oX10 mo ma m_thrown m_textSize m_rows m_columns m_a m_b m_readRows m_readColumns m_at m_looks m_came m_draw m_turnedRows m_turnedColumns, aZ cy (ma 1) 36 m_right, aZ cy (ma 2) 36 m_down, aZ cy (ma 10) 36 m_shut_4]) (As := [.int x2_3]) (rest := []) (q0 := 0) X hK hP hD hS [0, 1, 2, 3] rfl rfl rfl (KX10_still q19 _) (cwV 1 hts gX10_fill_X10_still rfl rfl rfl hdX10_still ⟨Nat.le_of_ble_eq_true rfl, Nat.le_of_ble_eq_true rfl⟩) rfl rfl rfl hl rfl (Nat.le_of_ble_eq_true rfl) dX10_fill_51 (Nat.zero_le _) (Nat.zero_le _) (fun H locs hP hS => ?_)
                  refine lv_iconst (v := 2) hx hb dX10_fill_54 (by decide) ?_
                  refine lv_icmp_ge (tgt := 67) hx hb dX10_fill_55 (by decide) (fun c20 => ?_) (fun c20 => ?_)
                  · have hf := qob_t hf c20
                    refine lv_iinc (v := (x2_3 + 1)) (lv' := [(2, .int (x2_3 + 1)), (0, .ref mo), (1, .int x1_3)]) hx hb dX10_fill_67 hl (k := 2) rfl rfl (by decide) rfl (fun ls hl => ?_)
                    refine lv_goto (tgt := 10) hx hb dX10_fill_70 (by decide) ?_
                    exact hL12 x1_3 (x2_3 + 1) m_shut_4 hf _ _ _ ⟨hP, hD, hS⟩ (lv_sub hl [1, 2, 0] rfl)
                  · have hf := qob_f hf c20
                    refine lv_aload_n hx hb dX10_fill_58 rfl (lv_at hl 0 rfl) ?_
                    refine va_get (D := D) (ci := 10) (v := .ref (ma 10)) (C := RX10) (T := TX10) (N := 34) hx hb hts inwX10_fill_X10 hown hK hP 0 rfl rfl 18 (by decide) (hts (.fieldLink RX10 49 "HedgeWaysModel" "shut" "[Z") (List.mem_of_getElem? (i := 1) rfl)) (fun _ h9 => h9) rfl dX10_fill_59 ?_
                    refine lv_iload_n hx hb dX10_fill_62 rfl (lv_at hl 2 rfl) ?_
                    refine lv_iconst (v := 1) hx hb dX10_fill_63 (by decide) ?_
                    obtain ⟨i21, hf⟩ := qob_gd hf
                    refine va_zast hx hb hK hP hD hS 3 2 rfl rfl i21 dX10_fill_64 (fun H locs hP hD hS => ?_)
                    have hP : va_P D vwCl ([oX10 mo ma m_thrown m_textSize m_rows m_columns m_a m_b m_readRows m_readColumns m_at m_looks m_came m_draw m_turnedRows m_turnedColumns, aZ cy (ma 1) 36 m_right, aZ cy (ma 2) 36 m_down, aZ cy (ma 10) 36 (upd m_shut_4 x2_3.toNatClampNeg (qnb 1))]) H := hP
                    have hD : va_D A ([oX10 mo ma m_thrown m_textSize m_rows m_columns m_a m_b m_readRows m_readColumns m_at m_looks m_came m_draw m_turnedRows m_turnedColumns, aZ cy (ma 1) 36 m_right, aZ cy (ma 2) 36 m_down, aZ cy (ma 10) 36 (upd m_shut_4 x2_3.toNatClampNeg (qnb 1))]) := hD
                    refine lv_iconst (v := 1) hx hb dX10_fill_65 (by decide) ?_
                    refine lv_istore_n (lv' := [(1, .int 1), (0, .ref mo), (2, .int x2_3)]) hx hb dX10_fill_66 rfl hl (by decide) rfl (fun ls hl => ?_)
                    refine lv_iinc (v := (x2_3 + 1)) (lv' := [(2, .int (x2_3 + 1)), (1, .int 1), (0, .ref mo)]) hx hb dX10_fill_67 hl (k := 2) rfl rfl (by decide) rfl (fun ls hl => ?_)
                    refine lv_goto (tgt := 10) hx hb dX10_fill_70 (by decide) ?_
                    exact hL12 1 (x2_3 + 1) (upd m_shut_4 x2_3.toNatClampNeg (qnb 1)) hf _ _ _ ⟨hP, hD, hS⟩ (lv_sub hl [2, 1, 0] rfl)
theorem inwX10_clearShut_X10 : ∀ w ∈ wsX100, w ∈ wsX10_clearShut := fun _ h => List.mem_cons_of_mem _ (List.mem_append_right _ h)
abbrev rmX10_clearShut : Room := { frames := 0, cells := 0, slots := 0, locals := 0 }
theorem hdX10_clearShut : yX10_clearShut.cls = RX10 ∧ yX10_clearShut.cls ≠ "java/lang/invoke/MethodHandle" ∧ yX10_clearShut.cls ≠ "java/lang/invoke/VarHandle" ∧ (parseMethodDescriptor yX10_clearShut.desc).map (fun d => d.parameters.length) = some 0 := by decide +kernel
set_option maxHeartbeats 4000000 in
set_option maxRecDepth 100000 in
theorem KX10_clearShut {l : Launch} {D : va_G} {cy : Nat → ClassId} {mo : Nat} {ma : Nat → Nat} {m_thrown : Int32} {m_textSize : Int32} {m_rows : Int32} {m_columns : Int32} {m_a : Int32} {m_b : Int32} {m_readRows : Int32} {m_readColumns : Int32} {m_at : Int32} {m_looks : Int32} {m_came : Int32} {m_draw : Int64} {m_turnedRows : Int32} {m_turnedColumns : Int32} {m_shut : Nat → Int32}  {m_shut' : Nat → Int32} (hf : fX10_clearShut m_shut = some m_shut') : CtV l yX10_clearShut wsX10_clearShut rmX10_clearShut D cy [.ref mo] ([oX10 mo ma m_thrown m_textSize m_rows m_columns m_a m_b m_readRows m_readColumns m_at m_looks m_came m_draw m_turnedRows m_turnedColumns, aZ cy (ma 10) 36 m_shut]) ([oX10 mo ma m_thrown m_textSize m_rows m_columns m_a m_b m_readRows m_readColumns m_at m_looks m_came m_draw m_turnedRows m_turnedColumns, aZ cy (ma 10) 36 m_shut']) := by
  refine CtV.of (cc := cX10_clearShut) (maxL := 2) (ret := none) (own := RX10) (by decide) rfl rfl (Nat.le_of_ble_eq_true rfl) ?_
  intro p e s m args below meth c A Q X hQ hK hP hD hS ls hl
  obtain ⟨hx, hb, hml, hown, hts, hr, hlocks, hA, hZ⟩ := id X
  have hl : lv_has ls 2 [(0, .ref mo)] := hl
  unfold fX10_clearShut at hf
  have hf := qob_top hf
  refine lv_iconst (v := 0) hx hb dX10_clearShut_0 (by decide) ?_
  refine lv_istore_n (lv' := [(1, .int 0), (0, .ref mo)]) hx hb dX10_clearShut_1 rfl hl (by decide) rfl (fun ls hl => ?_)
  refine qjoin1 hf (fun (m_shut_1 : Nat → Int32) => ∀ (H : Heap) (locs : List Loc) (ls : Array Slot), ctW D A s ([oX10 mo ma m_thrown m_textSize m_rows m_columns m_a m_b m_readRows m_readColumns m_at m_looks m_came m_draw m_turnedRows m_turnedColumns, aZ cy (ma 10) 36 m_shut_1]) H locs → lv_has ls 2 [] → W p l e rmX10_clearShut s m args below meth c H locs 0 0 Q (F0 m 21 ls [])) ?_ ?_
  · intro m_shut_1 hf H locs ls ⟨hP, hD, hS⟩ hl
    cases qob_ret hf
    exact ct_vret X hQ hK hP hD hS dX10_clearShut_21
  · intro J1 hJ1 hf
    refine qwalk2 (fun (x1_1 : Int32) (m_shut_2 : Nat → Int32) => ∀ (H : Heap) (locs : List Loc) (ls : Array Slot), ctW D A s ([oX10 mo ma m_thrown m_textSize m_rows m_columns m_a m_b m_readRows m_readColumns m_at m_looks m_came m_draw m_turnedRows m_turnedColumns, aZ cy (ma 10) 36 m_shut_2]) H locs → lv_has ls 2 [(0, .ref mo), (1, .int x1_1)] → W p l e rmX10_clearShut s m args below meth c H locs 0 0 Q (F0 m 2 ls [])) ?_ _ (0 : Int32) m_shut hf _ _ _ ⟨hP, hD, hS⟩ (lv_sub hl [1, 0] rfl)
    intro J2 hL2 x1_1 m_shut_2 hf H locs ls ⟨hP, hD, hS⟩ hl
    refine lv_iload_n hx hb dX10_clearShut_2 rfl (lv_at hl 1 rfl) ?_
    refine lv_bipush (v := 36) hx hb dX10_clearShut_3 (by decide) ?_
    refine lv_icmp_ge (tgt := 21) hx hb dX10_clearShut_5 (by decide) (fun c3 => ?_) (fun c3 => ?_)
    · have hf := qob_t hf c3
      have hf := qob_esc hf
      exact hJ1 m_shut_2 hf _ _ _ ⟨hP, hD, hS⟩ (lv_sub hl [] rfl)
    · have hf := qob_f hf c3
      refine lv_aload_n hx hb dX10_clearShut_8 rfl (lv_at hl 0 rfl) ?_
      refine va_get (D := D) (ci := 10) (v := .ref (ma 10)) (C := RX10) (T := TX10) (N := 34) hx hb hts inwX10_clearShut_X10 hown hK hP 0 rfl rfl 18 (by decide) (hts (.fieldLink RX10 49 "HedgeWaysModel" "shut" "[Z") (List.mem_of_getElem? (i := 1) rfl)) (fun _ h9 => h9) rfl dX10_clearShut_9 ?_
      refine lv_iload_n hx hb dX10_clearShut_12 rfl (lv_at hl 1 rfl) ?_
      refine lv_iconst (v := 0) hx hb dX10_clearShut_13 (by decide) ?_
      obtain ⟨i4, hf⟩ := qob_gd hf
      refine va_zast hx hb hK hP hD hS 1 2 rfl rfl i4 dX10_clearShut_14 (fun H locs hP hD hS => ?_)
      have hP : va_P D vwCl ([oX10 mo ma m_thrown m_textSize m_rows m_columns m_a m_b m_readRows m_readColumns m_at m_looks m_came m_draw m_turnedRows m_turnedColumns, aZ cy (ma 10) 36 (upd m_shut_2 x1_1.toNatClampNeg (qnb 0))]) H := hP
      have hD : va_D A ([oX10 mo ma m_thrown m_textSize m_rows m_columns m_a m_b m_readRows m_readColumns m_at m_looks m_came m_draw m_turnedRows m_turnedColumns, aZ cy (ma 10) 36 (upd m_shut_2 x1_1.toNatClampNeg (qnb 0))]) := hD
      refine lv_iinc (v := (x1_1 + 1)) (lv' := [(1, .int (x1_1 + 1)), (0, .ref mo)]) hx hb dX10_clearShut_15 hl (k := 1) rfl rfl (by decide) rfl (fun ls hl => ?_)
      refine lv_goto (tgt := 2) hx hb dX10_clearShut_18 (by decide) ?_
      exact hL2 (x1_1 + 1) (upd m_shut_2 x1_1.toNatClampNeg (qnb 0)) hf _ _ _ ⟨hP, hD, hS⟩ (lv_sub hl [1, 0] rfl)
theorem inwX10_about_X10 : ∀ w ∈ wsX100, w ∈ wsX10_about := fun _ h => List.mem_cons_of_mem _ (List.mem_append_right _ h)
abbrev rmX10_about : Room := { frames := 6, cells := 0, slots := 0, locals := 143 }
theorem hdX10_about : yX10_about.cls = RX10 ∧ yX10_about.cls ≠ "java/lang/invoke/MethodHandle" ∧ yX10_about.cls ≠ "java/lang/invoke/VarHandle" ∧ (parseMethodDescriptor yX10_about.desc).map (fun d => d.parameters.length) = some 1 := by decide +kernel
set_option maxHeartbeats 4000000 in
set_option maxRecDepth 100000 in
theorem KX10_about {l : Launch} {D : va_G} {cy : Nat → ClassId} {mo : Nat} {ma : Nat → Nat} {m_thrown : Int32} {m_textSize : Int32} {m_rows : Int32} {m_columns : Int32} {m_a : Int32} {m_b : Int32} {m_readRows : Int32} {m_readColumns : Int32} {m_at : Int32} {m_looks : Int32} {m_came : Int32} {m_draw : Int64} {m_turnedRows : Int32} {m_turnedColumns : Int32} {m_right : Nat → Int32} {m_down : Nat → Int32} {m_dist : Nat → Int32} {m_queue : Nat → Int32} {m_shut : Nat → Int32} {m_parts : Nat → Int32} {p1 : Int32} {r : Int32} {m_thrown' : Int32} {m_right' : Nat → Int32} {m_down' : Nat → Int32} {m_dist' : Nat → Int32} {m_queue' : Nat → Int32} {m_shut' : Nat → Int32} {m_parts' : Nat → Int32} (hf : fX10_about m_thrown m_textSize m_rows m_columns m_a m_b m_right m_down m_dist m_queue m_shut m_parts p1 = some (r, m_thrown', m_right', m_down', m_dist', m_queue', m_shut', m_parts')) : CtI l yX10_about wsX10_about rmX10_about D cy [.ref mo, .int p1] ([oX10 mo ma m_thrown m_textSize m_rows m_columns m_a m_b m_readRows m_readColumns m_at m_looks m_came m_draw m_turnedRows m_turnedColumns, aZ cy (ma 1) 36 m_right, aZ cy (ma 2) 36 m_down, aI cy (ma 7) 36 m_dist, aI cy (ma 8) 36 m_queue, aZ cy (ma 10) 36 m_shut, aI cy (ma 11) 36 m_parts]) ([oX10 mo ma m_thrown' m_textSize m_rows m_columns m_a m_b m_readRows m_readColumns m_at m_looks m_came m_draw m_turnedRows m_turnedColumns, aZ cy (ma 1) 36 m_right', aZ cy (ma 2) 36 m_down', aI cy (ma 7) 36 m_dist', aI cy (ma 8) 36 m_queue', aZ cy (ma 10) 36 m_shut', aI cy (ma 11) 36 m_parts']) r := by
  refine CtI.of (cc := cX10_about) (maxL := 6) (ret := some .int) (own := RX10) (by decide) rfl rfl (Nat.le_of_ble_eq_true rfl) ?_
  intro p e s m args below meth c A Q X hQ hK hP hD hS ls hl
  obtain ⟨hx, hb, hml, hown, hts, hr, hlocks, hA, hZ⟩ := id X
  have hl : lv_has ls 6 [(0, .ref mo), (1, .int p1)] := hl
  unfold fX10_about at hf
  have hf := qob_top hf
  refine lv_aload_n hx hb dX10_about_0 rfl (lv_at hl 0 rfl) ?_
  refine lv_iconst (v := 0) hx hb dX10_about_1 (by decide) ?_
  refine va_put (D := D) (ci := 10) (v := .int 0) (ty := .int) (C := RX10) (T := TX10) (N := 34) hx hb hts inwX10_about_X10 tyX10 tyX10_ok nmX10 hown hK hP hD hS 0 rfl rfl 0 (by decide) (hts (.fieldLink RX10 79 "HedgeWaysModel" "thrown" "I") (List.mem_of_getElem? (i := 1) rfl)) (fun _ h9 => h9) rfl (tyX10_ok 0 (by decide)) rfl rfl (Nat.le_of_ble_eq_true rfl) dX10_about_2 (fun H locs hP hD hS => ?_)
  have hP : va_P D vwCl ([oX10 mo ma 0 m_textSize m_rows m_columns m_a m_b m_readRows m_readColumns m_at m_looks m_came m_draw m_turnedRows m_turnedColumns, aZ cy (ma 1) 36 m_right, aZ cy (ma 2) 36 m_down, aI cy (ma 7) 36 m_dist, aI cy (ma 8) 36 m_queue, aZ cy (ma 10) 36 m_shut, aI cy (ma 11) 36 m_parts]) H := hP
  have hD : va_D A ([oX10 mo ma 0 m_textSize m_rows m_columns m_a m_b m_readRows m_readColumns m_at m_looks m_came m_draw m_turnedRows m_turnedColumns, aZ cy (ma 1) 36 m_right, aZ cy (ma 2) 36 m_down, aI cy (ma 7) 36 m_dist, aI cy (ma 8) 36 m_queue, aZ cy (ma 10) 36 m_shut, aI cy (ma 11) 36 m_parts]) := hD
  refine lv_iconst (v := 0) hx hb dX10_about_5 (by decide) ?_
  refine lv_istore_n (lv' := [(2, .int 0), (0, .ref mo), (1, .int p1)]) hx hb dX10_about_6 rfl hl (by decide) rfl (fun ls hl => ?_)
  refine lv_iconst (v := 0) hx hb dX10_about_7 (by decide) ?_
  refine lv_istore_n (lv' := [(3, .int 0), (2, .int 0), (0, .ref mo), (1, .int p1)]) hx hb dX10_about_8 rfl hl (by decide) rfl (fun ls hl => ?_)
  refine lv_iconst (v := 0) hx hb dX10_about_9 (by decide) ?_
  refine lv_istore (lv' := [(4, .int 0), (3, .int 0), (2, .int 0), (0, .ref mo), (1, .int p1)]) hx hb dX10_about_10 hl (by decide) rfl (fun ls hl => ?_)
  refine lv_iconst (v := 0) hx hb dX10_about_12 (by decide) ?_
  refine lv_istore (lv' := [(5, .int 0), (4, .int 0), (3, .int 0), (2, .int 0), (0, .ref mo), (1, .int p1)]) hx hb dX10_about_13 hl (by decide) rfl (fun ls hl => ?_)
  refine qjoin2 hf (fun (x2_1 : Int32) (x3_1 : Int32) => ∀ (H : Heap) (locs : List Loc) (ls : Array Slot), ctW D A s ([oX10 mo ma 0 m_textSize m_rows m_columns m_a m_b m_readRows m_readColumns m_at m_looks m_came m_draw m_turnedRows m_turnedColumns, aZ cy (ma 1) 36 m_right, aZ cy (ma 2) 36 m_down, aI cy (ma 7) 36 m_dist, aI cy (ma 8) 36 m_queue, aZ cy (ma 10) 36 m_shut, aI cy (ma 11) 36 m_parts]) H locs → lv_has ls 6 [(0, .ref mo), (1, .int p1), (2, .int x2_1), (3, .int x3_1), (4, .int 0)] → W p l e rmX10_about s m args below meth c H locs 0 0 Q (F0 m 82 ls [])) ?_ ?_
  · intro x2_1 x3_1 hf H locs ls ⟨hP, hD, hS⟩ hl
    refine lv_iconst (v := 0) hx hb dX10_about_82 (by decide) ?_
    refine lv_istore (lv' := [(5, .int 0), (0, .ref mo), (1, .int p1), (2, .int x2_1), (3, .int x3_1), (4, .int 0)]) hx hb dX10_about_83 hl (by decide) rfl (fun ls hl => ?_)
    refine qjoin4 hf (fun (x4_1 : Int32) (m_dist_1 : Nat → Int32) (m_queue_1 : Nat → Int32) (m_shut_1 : Nat → Int32) => ∀ (H : Heap) (locs : List Loc) (ls : Array Slot), ctW D A s ([oX10 mo ma 0 m_textSize m_rows m_columns m_a m_b m_readRows m_readColumns m_at m_looks m_came m_draw m_turnedRows m_turnedColumns, aZ cy (ma 1) 36 m_right, aZ cy (ma 2) 36 m_down, aI cy (ma 7) 36 m_dist_1, aI cy (ma 8) 36 m_queue_1, aZ cy (ma 10) 36 m_shut_1, aI cy (ma 11) 36 m_parts]) H locs → lv_has ls 6 [(0, .ref mo), (1, .int p1), (2, .int x2_1), (3, .int x3_1), (4, .int x4_1)] → W p l e rmX10_about s m args below meth c H locs 0 0 Q (F0 m 132 ls [])) ?_ ?_
    · intro x4_1 m_dist_1 m_queue_1 m_shut_1 hf H locs ls ⟨hP, hD, hS⟩ hl
      refine lv_iload_n hx hb dX10_about_132 rfl (lv_at hl 1 rfl) ?_
      by_cases c1_0 : p1 = 0
      · have hf := qob_t hf c1_0
        refine lv_tableIn (off := 71) (tgt := 204) hx hb dX10_about_133 (by rw [c1_0]; decide) (by rw [c1_0]; decide) (by rw [c1_0]; rfl) (by decide) ?_
        refine lv_aload_n hx hb dX10_about_204 rfl (lv_at hl 0 rfl) ?_
        refine va_get (D := D) (ci := 10) (v := .int m_rows) (C := RX10) (T := TX10) (N := 34) hx hb hts inwX10_about_X10 hown hK hP 0 rfl rfl 3 (by decide) (hts (.fieldLink RX10 13 "HedgeWaysModel" "rows" "I") (List.mem_of_getElem? (i := 2) rfl)) (fun _ h9 => h9) rfl dX10_about_205 ?_
        refine lv_aload_n hx hb dX10_about_208 rfl (lv_at hl 0 rfl) ?_
        refine va_get (D := D) (ci := 10) (v := .int m_columns) (C := RX10) (T := TX10) (N := 34) hx hb hts inwX10_about_X10 hown hK hP 0 rfl rfl 4 (by decide) (hts (.fieldLink RX10 17 "HedgeWaysModel" "columns" "I") (List.mem_of_getElem? (i := 3) rfl)) (fun _ h9 => h9) rfl dX10_about_209 ?_
        refine lv_imul hx hb dX10_about_212 ?_
        cases qob_ret hf
        exact ct_iret X hQ hK hP hD hS rfl dX10_about_213
      · have hf := qob_f hf c1_0
        by_cases c1_1 : p1 = 1
        · have hf := qob_t hf c1_1
          refine lv_tableIn (off := 81) (tgt := 214) hx hb dX10_about_133 (by rw [c1_1]; decide) (by rw [c1_1]; decide) (by rw [c1_1]; rfl) (by decide) ?_
          refine lv_aload_n hx hb dX10_about_214 rfl (lv_at hl 0 rfl) ?_
          refine va_get (D := D) (ci := 10) (v := .int m_rows) (C := RX10) (T := TX10) (N := 34) hx hb hts inwX10_about_X10 hown hK hP 0 rfl rfl 3 (by decide) (hts (.fieldLink RX10 13 "HedgeWaysModel" "rows" "I") (List.mem_of_getElem? (i := 2) rfl)) (fun _ h9 => h9) rfl dX10_about_215 ?_
          cases qob_ret hf
          exact ct_iret X hQ hK hP hD hS rfl dX10_about_218
        · have hf := qob_f hf c1_1
          by_cases c1_2 : p1 = 2
          · have hf := qob_t hf c1_2
            refine lv_tableIn (off := 86) (tgt := 219) hx hb dX10_about_133 (by rw [c1_2]; decide) (by rw [c1_2]; decide) (by rw [c1_2]; rfl) (by decide) ?_
            refine lv_aload_n hx hb dX10_about_219 rfl (lv_at hl 0 rfl) ?_
            refine va_get (D := D) (ci := 10) (v := .int m_columns) (C := RX10) (T := TX10) (N := 34) hx hb hts inwX10_about_X10 hown hK hP 0 rfl rfl 4 (by decide) (hts (.fieldLink RX10 17 "HedgeWaysModel" "columns" "I") (List.mem_of_getElem? (i := 3) rfl)) (fun _ h9 => h9) rfl dX10_about_220 ?_
            cases qob_ret hf
            exact ct_iret X hQ hK hP hD hS rfl dX10_about_223
          · have hf := qob_f hf c1_2
            by_cases c1_3 : p1 = 3
            · have hf := qob_t hf c1_3
              refine lv_tableIn (off := 91) (tgt := 224) hx hb dX10_about_133 (by rw [c1_3]; decide) (by rw [c1_3]; decide) (by rw [c1_3]; rfl) (by decide) ?_
              refine lv_aload_n hx hb dX10_about_224 rfl (lv_at hl 0 rfl) ?_
              obtain ⟨r_1, q2, hf⟩ := qcall1 hf
              refine ctV_i0 (r := r_1) (wc := [oX10 mo ma 0 m_textSize m_rows m_columns m_a m_b m_readRows m_readColumns m_at m_looks m_came m_draw m_turnedRows m_turnedColumns, aZ cy (ma 1) 36 m_right, aZ cy (ma 2) 36 m_down]) (As := []) (rest := []) (q0 := 0) X hK hP hD hS [0, 1, 2] rfl rfl rfl (KX10_openings q2 _) (cwV 0 hts gX10_about_X10_openings rfl rfl rfl hdX10_openings ⟨Nat.le_of_ble_eq_true rfl, Nat.le_of_ble_eq_true rfl⟩) rfl rfl rfl hl rfl (Nat.le_of_ble_eq_true rfl) dX10_about_225 (Nat.zero_le _) (Nat.zero_le _) (fun H locs hP hS => ?_)
              cases qob_ret hf
              exact ct_iret X hQ hK hP hD hS rfl dX10_about_228
            · have hf := qob_f hf c1_3
              by_cases c1_4 : p1 = 4
              · have hf := qob_t hf c1_4
                refine lv_tableIn (off := 96) (tgt := 229) hx hb dX10_about_133 (by rw [c1_4]; decide) (by rw [c1_4]; decide) (by rw [c1_4]; rfl) (by decide) ?_
                refine lv_aload_n hx hb dX10_about_229 rfl (lv_at hl 0 rfl) ?_
                obtain ⟨r_2, m_dist_2, m_queue_2, m_parts_1, q3, hf⟩ := qcall4 hf
                refine ctV_i (r := r_2) (wc := [oX10 mo ma 0 m_textSize m_rows m_columns m_a m_b m_readRows m_readColumns m_at m_looks m_came m_draw m_turnedRows m_turnedColumns, aZ cy (ma 1) 36 m_right, aZ cy (ma 2) 36 m_down, aI cy (ma 7) 36 m_dist_1, aI cy (ma 8) 36 m_queue_1, aZ cy (ma 10) 36 m_shut_1, aI cy (ma 11) 36 m_parts]) (w1 := [oX10 mo ma 0 m_textSize m_rows m_columns m_a m_b m_readRows m_readColumns m_at m_looks m_came m_draw m_turnedRows m_turnedColumns, aZ cy (ma 1) 36 m_right, aZ cy (ma 2) 36 m_down, aI cy (ma 7) 36 m_dist_2, aI cy (ma 8) 36 m_queue_2, aZ cy (ma 10) 36 m_shut_1, aI cy (ma 11) 36 m_parts_1]) (wr := []) (wn := [oX10 mo ma 0 m_textSize m_rows m_columns m_a m_b m_readRows m_readColumns m_at m_looks m_came m_draw m_turnedRows m_turnedColumns, aZ cy (ma 1) 36 m_right, aZ cy (ma 2) 36 m_down, aI cy (ma 7) 36 m_dist_2, aI cy (ma 8) 36 m_queue_2, aZ cy (ma 10) 36 m_shut_1, aI cy (ma 11) 36 m_parts_1]) (As := []) (rest := []) (q0 := 0) X hK hP hD hS [0, 1, 2, 3, 4, 5, 6] [] [0, 1, 2, 3, 4, 5, 6] rfl rfl rfl rfl rfl (by decide) rfl rfl rfl (KX10_layParts q3 _) (cwV 0 hts gX10_about_X10_layParts rfl rfl rfl hdX10_layParts ⟨Nat.le_of_ble_eq_true rfl, Nat.le_of_ble_eq_true rfl⟩) rfl rfl rfl hl rfl (Nat.le_of_ble_eq_true rfl) dX10_about_230 (Nat.zero_le _) (Nat.zero_le _) (fun H locs hP hD hS => ?_)
                cases qob_ret hf
                exact ct_iret X hQ hK hP hD hS rfl dX10_about_233
              · have hf := qob_f hf c1_4
                by_cases c1_5 : p1 = 5
                · have hf := qob_t hf c1_5
                  refine lv_tableIn (off := 101) (tgt := 234) hx hb dX10_about_133 (by rw [c1_5]; decide) (by rw [c1_5]; decide) (by rw [c1_5]; rfl) (by decide) ?_
                  refine lv_aload_n hx hb dX10_about_234 rfl (lv_at hl 0 rfl) ?_
                  obtain ⟨r_3, q4, hf⟩ := qcall1 hf
                  refine ctV_i0 (r := r_3) (wc := [oX10 mo ma 0 m_textSize m_rows m_columns m_a m_b m_readRows m_readColumns m_at m_looks m_came m_draw m_turnedRows m_turnedColumns, aZ cy (ma 1) 36 m_right, aZ cy (ma 2) 36 m_down]) (As := []) (rest := []) (q0 := 0) X hK hP hD hS [0, 1, 2] rfl rfl rfl (KX10_openings q4 _) (cwV 0 hts gX10_about_X10_openings rfl rfl rfl hdX10_openings ⟨Nat.le_of_ble_eq_true rfl, Nat.le_of_ble_eq_true rfl⟩) rfl rfl rfl hl rfl (Nat.le_of_ble_eq_true rfl) dX10_about_235 (Nat.zero_le _) (Nat.zero_le _) (fun H locs hP hS => ?_)
                  refine lv_aload_n hx hb dX10_about_238 rfl (lv_at hl 0 rfl) ?_
                  refine va_get (D := D) (ci := 10) (v := .int m_rows) (C := RX10) (T := TX10) (N := 34) hx hb hts inwX10_about_X10 hown hK hP 0 rfl rfl 3 (by decide) (hts (.fieldLink RX10 13 "HedgeWaysModel" "rows" "I") (List.mem_of_getElem? (i := 2) rfl)) (fun _ h9 => h9) rfl dX10_about_239 ?_
                  refine lv_aload_n hx hb dX10_about_242 rfl (lv_at hl 0 rfl) ?_
                  refine va_get (D := D) (ci := 10) (v := .int m_columns) (C := RX10) (T := TX10) (N := 34) hx hb hts inwX10_about_X10 hown hK hP 0 rfl rfl 4 (by decide) (hts (.fieldLink RX10 17 "HedgeWaysModel" "columns" "I") (List.mem_of_getElem? (i := 3) rfl)) (fun _ h9 => h9) rfl dX10_about_243 ?_
                  refine lv_imul hx hb dX10_about_246 ?_
                  refine lv_isub hx hb dX10_about_247 ?_
                  refine lv_aload_n hx hb dX10_about_248 rfl (lv_at hl 0 rfl) ?_
                  obtain ⟨r_4, m_dist_3, m_queue_3, m_parts_2, q5, hf⟩ := qcall4 hf
                  refine ctV_i (r := r_4) (wc := [oX10 mo ma 0 m_textSize m_rows m_columns m_a m_b m_readRows m_readColumns m_at m_looks m_came m_draw m_turnedRows m_turnedColumns, aZ cy (ma 1) 36 m_right, aZ cy (ma 2) 36 m_down, aI cy (ma 7) 36 m_dist_1, aI cy (ma 8) 36 m_queue_1, aZ cy (ma 10) 36 m_shut_1, aI cy (ma 11) 36 m_parts]) (w1 := [oX10 mo ma 0 m_textSize m_rows m_columns m_a m_b m_readRows m_readColumns m_at m_looks m_came m_draw m_turnedRows m_turnedColumns, aZ cy (ma 1) 36 m_right, aZ cy (ma 2) 36 m_down, aI cy (ma 7) 36 m_dist_3, aI cy (ma 8) 36 m_queue_3, aZ cy (ma 10) 36 m_shut_1, aI cy (ma 11) 36 m_parts_2]) (wr := []) (wn := [oX10 mo ma 0 m_textSize m_rows m_columns m_a m_b m_readRows m_readColumns m_at m_looks m_came m_draw m_turnedRows m_turnedColumns, aZ cy (ma 1) 36 m_right, aZ cy (ma 2) 36 m_down, aI cy (ma 7) 36 m_dist_3, aI cy (ma 8) 36 m_queue_3, aZ cy (ma 10) 36 m_shut_1, aI cy (ma 11) 36 m_parts_2]) (As := []) (rest := [.int (r_3 - (m_rows * m_columns))]) (q0 := 0) X hK hP hD hS [0, 1, 2, 3, 4, 5, 6] [] [0, 1, 2, 3, 4, 5, 6] rfl rfl rfl rfl rfl (by decide) rfl rfl rfl (KX10_layParts q5 _) (cwV 0 hts gX10_about_X10_layParts rfl rfl rfl hdX10_layParts ⟨Nat.le_of_ble_eq_true rfl, Nat.le_of_ble_eq_true rfl⟩) rfl rfl rfl hl rfl (Nat.le_of_ble_eq_true rfl) dX10_about_249 (Nat.zero_le _) (Nat.zero_le _) (fun H locs hP hD hS => ?_)
                  refine lv_iadd hx hb dX10_about_252 ?_
                  cases qob_ret hf
                  exact ct_iret X hQ hK hP hD hS rfl dX10_about_253
                · have hf := qob_f hf c1_5
                  by_cases c1_6 : p1 = 6
                  · have hf := qob_t hf c1_6
                    refine lv_tableIn (off := 121) (tgt := 254) hx hb dX10_about_133 (by rw [c1_6]; decide) (by rw [c1_6]; decide) (by rw [c1_6]; rfl) (by decide) ?_
                    refine lv_iload_n hx hb dX10_about_254 rfl (lv_at hl 2 rfl) ?_
                    cases qob_ret hf
                    exact ct_iret X hQ hK hP hD hS rfl dX10_about_255
                  · have hf := qob_f hf c1_6
                    by_cases c1_7 : p1 = 7
                    · have hf := qob_t hf c1_7
                      refine lv_tableIn (off := 123) (tgt := 256) hx hb dX10_about_133 (by rw [c1_7]; decide) (by rw [c1_7]; decide) (by rw [c1_7]; rfl) (by decide) ?_
                      refine lv_iload_n hx hb dX10_about_256 rfl (lv_at hl 3 rfl) ?_
                      cases qob_ret hf
                      exact ct_iret X hQ hK hP hD hS rfl dX10_about_257
                    · have hf := qob_f hf c1_7
                      by_cases c1_8 : p1 = 8
                      · have hf := qob_t hf c1_8
                        refine lv_tableIn (off := 125) (tgt := 258) hx hb dX10_about_133 (by rw [c1_8]; decide) (by rw [c1_8]; decide) (by rw [c1_8]; rfl) (by decide) ?_
                        refine lv_aload_n hx hb dX10_about_258 rfl (lv_at hl 0 rfl) ?_
                        obtain ⟨r_5, m_right_1, m_down_1, m_dist_4, m_queue_4, q6, hf⟩ := qcall5 hf
                        refine ctV_i (r := r_5) (wc := [oX10 mo ma 0 m_textSize m_rows m_columns m_a m_b m_readRows m_readColumns m_at m_looks m_came m_draw m_turnedRows m_turnedColumns, aZ cy (ma 1) 36 m_right, aZ cy (ma 2) 36 m_down, aI cy (ma 7) 36 m_dist_1, aI cy (ma 8) 36 m_queue_1, aZ cy (ma 10) 36 m_shut_1]) (w1 := [oX10 mo ma 0 m_textSize m_rows m_columns m_a m_b m_readRows m_readColumns m_at m_looks m_came m_draw m_turnedRows m_turnedColumns, aZ cy (ma 1) 36 m_right_1, aZ cy (ma 2) 36 m_down_1, aI cy (ma 7) 36 m_dist_4, aI cy (ma 8) 36 m_queue_4, aZ cy (ma 10) 36 m_shut_1]) (wr := [aI cy (ma 11) 36 m_parts]) (wn := [oX10 mo ma 0 m_textSize m_rows m_columns m_a m_b m_readRows m_readColumns m_at m_looks m_came m_draw m_turnedRows m_turnedColumns, aZ cy (ma 1) 36 m_right_1, aZ cy (ma 2) 36 m_down_1, aI cy (ma 7) 36 m_dist_4, aI cy (ma 8) 36 m_queue_4, aZ cy (ma 10) 36 m_shut_1, aI cy (ma 11) 36 m_parts]) (As := []) (rest := []) (q0 := 0) X hK hP hD hS [0, 1, 2, 3, 4, 5] [6] [1, 2, 3, 4, 5, 6, 0] rfl rfl rfl rfl rfl (by decide) rfl rfl rfl (KX10_bridges q6 _) (cwV 0 hts gX10_about_X10_bridges rfl rfl rfl hdX10_bridges ⟨Nat.le_of_ble_eq_true rfl, Nat.le_of_ble_eq_true rfl⟩) rfl rfl rfl hl rfl (Nat.le_of_ble_eq_true rfl) dX10_about_259 (Nat.zero_le _) (Nat.zero_le _) (fun H locs hP hD hS => ?_)
                        cases qob_ret hf
                        exact ct_iret X hQ hK hP hD hS rfl dX10_about_262
                      · have hf := qob_f hf c1_8
                        by_cases c1_9 : p1 = 9
                        · have hf := qob_t hf c1_9
                          refine lv_tableIn (off := 130) (tgt := 263) hx hb dX10_about_133 (by rw [c1_9]; decide) (by rw [c1_9]; decide) (by rw [c1_9]; rfl) (by decide) ?_
                          refine lv_iload hx hb dX10_about_263 (lv_at hl 4 rfl) ?_
                          cases qob_ret hf
                          exact ct_iret X hQ hK hP hD hS rfl dX10_about_265
                        · have hf := qob_f hf c1_9
                          by_cases c1_10 : p1 = 10
                          · have hf := qob_t hf c1_10
                            refine lv_tableIn (off := 133) (tgt := 266) hx hb dX10_about_133 (by rw [c1_10]; decide) (by rw [c1_10]; decide) (by rw [c1_10]; rfl) (by decide) ?_
                            refine lv_aload_n hx hb dX10_about_266 rfl (lv_at hl 0 rfl) ?_
                            obtain ⟨r_6, m_shut_2, q7, hf⟩ := qcall2 hf
                            refine ctV_i (r := r_6) (wc := [oX10 mo ma 0 m_textSize m_rows m_columns m_a m_b m_readRows m_readColumns m_at m_looks m_came m_draw m_turnedRows m_turnedColumns, aZ cy (ma 1) 36 m_right, aZ cy (ma 2) 36 m_down, aZ cy (ma 10) 36 m_shut_1]) (w1 := [oX10 mo ma 0 m_textSize m_rows m_columns m_a m_b m_readRows m_readColumns m_at m_looks m_came m_draw m_turnedRows m_turnedColumns, aZ cy (ma 1) 36 m_right, aZ cy (ma 2) 36 m_down, aZ cy (ma 10) 36 m_shut_2]) (wr := [aI cy (ma 7) 36 m_dist_1, aI cy (ma 8) 36 m_queue_1, aI cy (ma 11) 36 m_parts]) (wn := [oX10 mo ma 0 m_textSize m_rows m_columns m_a m_b m_readRows m_readColumns m_at m_looks m_came m_draw m_turnedRows m_turnedColumns, aZ cy (ma 1) 36 m_right, aZ cy (ma 2) 36 m_down, aI cy (ma 7) 36 m_dist_1, aI cy (ma 8) 36 m_queue_1, aZ cy (ma 10) 36 m_shut_2, aI cy (ma 11) 36 m_parts]) (As := []) (rest := []) (q0 := 0) X hK hP hD hS [0, 1, 2, 5] [3, 4, 6] [3, 4, 5, 0, 1, 6, 2] rfl rfl rfl rfl rfl (by decide) rfl rfl rfl (KX10_fill q7 _) (cwV 0 hts gX10_about_X10_fill rfl rfl rfl hdX10_fill ⟨Nat.le_of_ble_eq_true rfl, Nat.le_of_ble_eq_true rfl⟩) rfl rfl rfl hl rfl (Nat.le_of_ble_eq_true rfl) dX10_about_267 (Nat.zero_le _) (Nat.zero_le _) (fun H locs hP hD hS => ?_)
                            refine lv_istore (lv' := [(5, .int r_6), (0, .ref mo), (1, .int p1), (2, .int x2_1), (3, .int x3_1), (4, .int x4_1)]) hx hb dX10_about_270 hl (by decide) rfl (fun ls hl => ?_)
                            refine lv_aload_n hx hb dX10_about_272 rfl (lv_at hl 1 rfl) ?_
                            obtain ⟨m_shut_3, q8, hf⟩ := qcall1 hf
                            refine ctV_v (wc := [oX10 mo ma 0 m_textSize m_rows m_columns m_a m_b m_readRows m_readColumns m_at m_looks m_came m_draw m_turnedRows m_turnedColumns, aZ cy (ma 10) 36 m_shut_2]) (w1 := [oX10 mo ma 0 m_textSize m_rows m_columns m_a m_b m_readRows m_readColumns m_at m_looks m_came m_draw m_turnedRows m_turnedColumns, aZ cy (ma 10) 36 m_shut_3]) (wr := [aZ cy (ma 1) 36 m_right, aZ cy (ma 2) 36 m_down, aI cy (ma 7) 36 m_dist_1, aI cy (ma 8) 36 m_queue_1, aI cy (ma 11) 36 m_parts]) (wn := [oX10 mo ma 0 m_textSize m_rows m_columns m_a m_b m_readRows m_readColumns m_at m_looks m_came m_draw m_turnedRows m_turnedColumns, aZ cy (ma 1) 36 m_right, aZ cy (ma 2) 36 m_down, aI cy (ma 7) 36 m_dist_1, aI cy (ma 8) 36 m_queue_1, aZ cy (ma 10) 36 m_shut_3, aI cy (ma 11) 36 m_parts]) (As := []) (rest := []) (q0 := 0) X hK hP hD hS [0, 5] [1, 2, 3, 4, 6] [5, 0, 1, 2, 3, 6, 4] rfl rfl rfl rfl rfl (by decide) rfl rfl rfl (KX10_clearShut q8 _) (cwV 0 hts gX10_about_X10_clearShut rfl rfl rfl hdX10_clearShut ⟨Nat.le_of_ble_eq_true rfl, Nat.le_of_ble_eq_true rfl⟩) rfl rfl rfl hl rfl (Nat.le_of_ble_eq_true rfl) dX10_about_273 (Nat.zero_le _) (Nat.zero_le _) (fun H locs hP hD hS => ?_)
                            refine lv_iload hx hb dX10_about_276 (lv_at hl 0 rfl) ?_
                            cases qob_ret hf
                            exact ct_iret X hQ hK hP hD hS rfl dX10_about_278
                          · have hf := qob_f hf c1_10
                            by_cases c1_11 : p1 = 11
                            · have hf := qob_t hf c1_11
                              refine lv_tableIn (off := 146) (tgt := 279) hx hb dX10_about_133 (by rw [c1_11]; decide) (by rw [c1_11]; decide) (by rw [c1_11]; rfl) (by decide) ?_
                              refine lv_aload_n hx hb dX10_about_279 rfl (lv_at hl 0 rfl) ?_
                              refine va_get (D := D) (ci := 10) (v := .int m_a) (C := RX10) (T := TX10) (N := 34) hx hb hts inwX10_about_X10 hown hK hP 0 rfl rfl 7 (by decide) (hts (.fieldLink RX10 103 "HedgeWaysModel" "a" "I") (List.mem_of_getElem? (i := 4) rfl)) (fun _ h9 => h9) rfl dX10_about_280 ?_
                              refine ctS_i0 (r := (fX10_code m_a)) (wc := []) (As := [.int m_a]) (rest := []) X hK hP hD hS [] rfl rfl rfl (KX10_code rfl _) (va_cwS 1 hts gX10_about_X10_code rfl rfl rfl hdX10_code ⟨Nat.le_of_ble_eq_true rfl, Nat.le_of_ble_eq_true rfl⟩) rfl hl rfl (Nat.le_of_ble_eq_true rfl) dX10_about_283 (Nat.zero_le _) (Nat.zero_le _) (fun H locs hP hS => ?_)
                              cases qob_ret hf
                              exact ct_iret X hQ hK hP hD hS rfl dX10_about_286
                            · have hf := qob_f hf c1_11
                              by_cases c1_12 : p1 = 12
                              · have hf := qob_t hf c1_12
                                refine lv_tableIn (off := 154) (tgt := 287) hx hb dX10_about_133 (by rw [c1_12]; decide) (by rw [c1_12]; decide) (by rw [c1_12]; rfl) (by decide) ?_
                                refine lv_aload_n hx hb dX10_about_287 rfl (lv_at hl 0 rfl) ?_
                                refine va_get (D := D) (ci := 10) (v := .int m_b) (C := RX10) (T := TX10) (N := 34) hx hb hts inwX10_about_X10 hown hK hP 0 rfl rfl 8 (by decide) (hts (.fieldLink RX10 106 "HedgeWaysModel" "b" "I") (List.mem_of_getElem? (i := 5) rfl)) (fun _ h9 => h9) rfl dX10_about_288 ?_
                                refine ctS_i0 (r := (fX10_code m_b)) (wc := []) (As := [.int m_b]) (rest := []) X hK hP hD hS [] rfl rfl rfl (KX10_code rfl _) (va_cwS 1 hts gX10_about_X10_code rfl rfl rfl hdX10_code ⟨Nat.le_of_ble_eq_true rfl, Nat.le_of_ble_eq_true rfl⟩) rfl hl rfl (Nat.le_of_ble_eq_true rfl) dX10_about_291 (Nat.zero_le _) (Nat.zero_le _) (fun H locs hP hS => ?_)
                                cases qob_ret hf
                                exact ct_iret X hQ hK hP hD hS rfl dX10_about_294
                              · have hf := qob_f hf c1_12
                                by_cases c1_13 : p1 = 13
                                · have hf := qob_t hf c1_13
                                  refine lv_tableIn (off := 162) (tgt := 295) hx hb dX10_about_133 (by rw [c1_13]; decide) (by rw [c1_13]; decide) (by rw [c1_13]; rfl) (by decide) ?_
                                  refine lv_aload_n hx hb dX10_about_295 rfl (lv_at hl 0 rfl) ?_
                                  refine va_get (D := D) (ci := 10) (v := .int m_textSize) (C := RX10) (T := TX10) (N := 34) hx hb hts inwX10_about_X10 hown hK hP 0 rfl rfl 2 (by decide) (hts (.fieldLink RX10 88 "HedgeWaysModel" "textSize" "I") (List.mem_of_getElem? (i := 6) rfl)) (fun _ h9 => h9) rfl dX10_about_296 ?_
                                  cases qob_ret hf
                                  exact ct_iret X hQ hK hP hD hS rfl dX10_about_299
                                · have hf := qob_f hf c1_13
                                  refine lv_tableOut (tgt := 300) hx hb dX10_about_133 (by have g0 := lv_neT c1_0 (a := 0) rfl; have g1 := lv_neT c1_1 (a := 1) rfl; have g2 := lv_neT c1_2 (a := 2) rfl; have g3 := lv_neT c1_3 (a := 3) rfl; have g4 := lv_neT c1_4 (a := 4) rfl; have g5 := lv_neT c1_5 (a := 5) rfl; have g6 := lv_neT c1_6 (a := 6) rfl; have g7 := lv_neT c1_7 (a := 7) rfl; have g8 := lv_neT c1_8 (a := 8) rfl; have g9 := lv_neT c1_9 (a := 9) rfl; have g10 := lv_neT c1_10 (a := 10) rfl; have g11 := lv_neT c1_11 (a := 11) rfl; have g12 := lv_neT c1_12 (a := 12) rfl; have g13 := lv_neT c1_13 (a := 13) rfl; omega) (by decide) ?_
                                  refine lv_bipush (v := (-2)) hx hb dX10_about_300 (by decide) ?_
                                  cases qob_ret hf
                                  exact ct_iret X hQ hK hP hD hS rfl dX10_about_302
    · intro J9 hJ9 hf
      refine qwalk5 (fun (x4_2 : Int32) (x5_1 : Int32) (m_dist_5 : Nat → Int32) (m_queue_5 : Nat → Int32) (m_shut_4 : Nat → Int32) => ∀ (H : Heap) (locs : List Loc) (ls : Array Slot), ctW D A s ([oX10 mo ma 0 m_textSize m_rows m_columns m_a m_b m_readRows m_readColumns m_at m_looks m_came m_draw m_turnedRows m_turnedColumns, aZ cy (ma 1) 36 m_right, aZ cy (ma 2) 36 m_down, aI cy (ma 7) 36 m_dist_5, aI cy (ma 8) 36 m_queue_5, aZ cy (ma 10) 36 m_shut_4, aI cy (ma 11) 36 m_parts]) H locs → lv_has ls 6 [(0, .ref mo), (1, .int p1), (2, .int x2_1), (3, .int x3_1), (4, .int x4_2), (5, .int x5_1)] → W p l e rmX10_about s m args below meth c H locs 0 0 Q (F0 m 85 ls [])) ?_ _ (0 : Int32) (0 : Int32) m_dist m_queue m_shut hf _ _ _ ⟨hP, hD, hS⟩ (lv_sub hl [1, 2, 3, 4, 5, 0] rfl)
      intro J10 hL10 x4_2 x5_1 m_dist_5 m_queue_5 m_shut_4 hf H locs ls ⟨hP, hD, hS⟩ hl
      refine lv_iload hx hb dX10_about_85 (lv_at hl 5 rfl) ?_
      refine lv_bipush (v := 36) hx hb dX10_about_87 (by decide) ?_
      refine lv_icmp_ge (tgt := 132) hx hb dX10_about_89 (by decide) (fun c11 => ?_) (fun c11 => ?_)
      · have hf := qob_t hf c11
        have hf := qob_esc hf
        exact hJ9 x4_2 m_dist_5 m_queue_5 m_shut_4 hf _ _ _ ⟨hP, hD, hS⟩ (lv_sub hl [0, 1, 2, 3, 4] rfl)
      · have hf := qob_f hf c11
        refine lv_iload_n hx hb dX10_about_92 rfl (lv_at hl 1 rfl) ?_
        refine lv_bipush (v := 9) hx hb dX10_about_93 (by decide) ?_
        refine lv_icmp_ne (tgt := 132) hx hb dX10_about_95 (by decide) (fun c12 => ?_) (fun c12 => ?_)
        · have hf := qob_f hf c12
          have hf := qob_esc hf
          exact hJ9 x4_2 m_dist_5 m_queue_5 m_shut_4 hf _ _ _ ⟨hP, hD, hS⟩ (lv_sub hl [0, 1, 2, 3, 4] rfl)
        · have hf := qob_t hf c12
          refine lv_iload hx hb dX10_about_98 (lv_at hl 4 rfl) ?_
          refine lv_aload_n hx hb dX10_about_100 rfl (lv_at hl 0 rfl) ?_
          refine lv_iload hx hb dX10_about_101 (lv_at hl 5 rfl) ?_
          refine ctV_i0 (r := (fX10_isThere m_rows m_columns x5_1)) (wc := [oX10 mo ma 0 m_textSize m_rows m_columns m_a m_b m_readRows m_readColumns m_at m_looks m_came m_draw m_turnedRows m_turnedColumns]) (As := [.int x5_1]) (rest := [.int x4_2]) (q0 := 0) X hK hP hD hS [0] rfl rfl rfl (KX10_isThere rfl _) (cwV 1 hts gX10_about_X10_isThere rfl rfl rfl hdX10_isThere ⟨Nat.le_of_ble_eq_true rfl, Nat.le_of_ble_eq_true rfl⟩) rfl rfl rfl hl rfl (Nat.le_of_ble_eq_true rfl) dX10_about_103 (Nat.zero_le _) (Nat.zero_le _) (fun H locs hP hS => ?_)
          refine qjoin4 hf (fun (s_1 : Int32) (m_dist_6 : Nat → Int32) (m_queue_6 : Nat → Int32) (m_shut_5 : Nat → Int32) => ∀ (H : Heap) (locs : List Loc) (ls : Array Slot), ctW D A s ([oX10 mo ma 0 m_textSize m_rows m_columns m_a m_b m_readRows m_readColumns m_at m_looks m_came m_draw m_turnedRows m_turnedColumns, aZ cy (ma 1) 36 m_right, aZ cy (ma 2) 36 m_down, aI cy (ma 7) 36 m_dist_6, aI cy (ma 8) 36 m_queue_6, aZ cy (ma 10) 36 m_shut_5, aI cy (ma 11) 36 m_parts]) H locs → lv_has ls 6 [(0, .ref mo), (1, .int p1), (2, .int x2_1), (3, .int x3_1), (5, .int x5_1)] → W p l e rmX10_about s m args below meth c H locs 0 0 Q (F0 m 123 ls [.int s_1, .int x4_2])) ?_ ?_
          · intro s_1 m_dist_6 m_queue_6 m_shut_5 hf H locs ls ⟨hP, hD, hS⟩ hl
            refine lv_iadd hx hb dX10_about_123 ?_
            refine lv_istore (lv' := [(4, .int (x4_2 + s_1)), (0, .ref mo), (1, .int p1), (2, .int x2_1), (3, .int x3_1), (5, .int x5_1)]) hx hb dX10_about_124 hl (by decide) rfl (fun ls hl => ?_)
            refine lv_iinc (v := (x5_1 + 1)) (lv' := [(5, .int (x5_1 + 1)), (4, .int (x4_2 + s_1)), (0, .ref mo), (1, .int p1), (2, .int x2_1), (3, .int x3_1)]) hx hb dX10_about_126 hl (k := 5) rfl rfl (by decide) rfl (fun ls hl => ?_)
            refine lv_goto (tgt := 85) hx hb dX10_about_129 (by decide) ?_
            exact hL10 (x4_2 + s_1) (x5_1 + 1) m_dist_6 m_queue_6 m_shut_5 hf _ _ _ ⟨hP, hD, hS⟩ (lv_sub hl [2, 3, 4, 5, 1, 0] rfl)
          · intro J13 hJ13 hf
            refine lv_if_eq (tgt := 122) hx hb dX10_about_106 (by decide) (fun c14 => ?_) (fun c14 => ?_)
            · have hf := qob_t hf c14
              refine lv_iconst (v := 0) hx hb dX10_about_122 (by decide) ?_
              exact hJ13 0 m_dist_5 m_queue_5 m_shut_4 hf _ _ _ ⟨hP, hD, hS⟩ (lv_sub hl [0, 1, 2, 3, 5] rfl)
            · have hf := qob_f hf c14
              refine lv_aload_n hx hb dX10_about_109 rfl (lv_at hl 0 rfl) ?_
              refine lv_iload hx hb dX10_about_110 (lv_at hl 5 rfl) ?_
              obtain ⟨r_7, m_dist_7, m_queue_7, m_shut_6, q15, hf⟩ := qcall4 hf
              refine ctV_i (r := r_7) (wc := [oX10 mo ma 0 m_textSize m_rows m_columns m_a m_b m_readRows m_readColumns m_at m_looks m_came m_draw m_turnedRows m_turnedColumns, aZ cy (ma 1) 36 m_right, aZ cy (ma 2) 36 m_down, aI cy (ma 7) 36 m_dist_5, aI cy (ma 8) 36 m_queue_5, aZ cy (ma 10) 36 m_shut_4]) (w1 := [oX10 mo ma 0 m_textSize m_rows m_columns m_a m_b m_readRows m_readColumns m_at m_looks m_came m_draw m_turnedRows m_turnedColumns, aZ cy (ma 1) 36 m_right, aZ cy (ma 2) 36 m_down, aI cy (ma 7) 36 m_dist_7, aI cy (ma 8) 36 m_queue_7, aZ cy (ma 10) 36 m_shut_6]) (wr := [aI cy (ma 11) 36 m_parts]) (wn := [oX10 mo ma 0 m_textSize m_rows m_columns m_a m_b m_readRows m_readColumns m_at m_looks m_came m_draw m_turnedRows m_turnedColumns, aZ cy (ma 1) 36 m_right, aZ cy (ma 2) 36 m_down, aI cy (ma 7) 36 m_dist_7, aI cy (ma 8) 36 m_queue_7, aZ cy (ma 10) 36 m_shut_6, aI cy (ma 11) 36 m_parts]) (As := [.int x5_1]) (rest := [.int x4_2]) (q0 := 0) X hK hP hD hS [0, 1, 2, 3, 4, 5] [6] [1, 2, 3, 4, 5, 6, 0] rfl rfl rfl rfl rfl (by decide) rfl rfl rfl (KX10_isMust q15 _) (cwV 1 hts gX10_about_X10_isMust rfl rfl rfl hdX10_isMust ⟨Nat.le_of_ble_eq_true rfl, Nat.le_of_ble_eq_true rfl⟩) rfl rfl rfl hl rfl (Nat.le_of_ble_eq_true rfl) dX10_about_112 (Nat.zero_le _) (Nat.zero_le _) (fun H locs hP hD hS => ?_)
              refine lv_if_eq (tgt := 122) hx hb dX10_about_115 (by decide) (fun c16 => ?_) (fun c16 => ?_)
              · have hf := qob_t hf c16
                refine lv_iconst (v := 0) hx hb dX10_about_122 (by decide) ?_
                exact hJ13 0 m_dist_7 m_queue_7 m_shut_6 hf _ _ _ ⟨hP, hD, hS⟩ (lv_sub hl [0, 1, 2, 3, 5] rfl)
              · have hf := qob_f hf c16
                refine lv_iconst (v := 1) hx hb dX10_about_118 (by decide) ?_
                refine lv_goto (tgt := 123) hx hb dX10_about_119 (by decide) ?_
                exact hJ13 1 m_dist_7 m_queue_7 m_shut_6 hf _ _ _ ⟨hP, hD, hS⟩ (lv_sub hl [0, 1, 2, 3, 5] rfl)
  · intro J17 hJ17 hf
    refine qwalk3 (fun (x2_2 : Int32) (x3_2 : Int32) (x5_2 : Int32) => ∀ (H : Heap) (locs : List Loc) (ls : Array Slot), ctW D A s ([oX10 mo ma 0 m_textSize m_rows m_columns m_a m_b m_readRows m_readColumns m_at m_looks m_came m_draw m_turnedRows m_turnedColumns, aZ cy (ma 1) 36 m_right, aZ cy (ma 2) 36 m_down, aI cy (ma 7) 36 m_dist, aI cy (ma 8) 36 m_queue, aZ cy (ma 10) 36 m_shut, aI cy (ma 11) 36 m_parts]) H locs → lv_has ls 6 [(0, .ref mo), (1, .int p1), (2, .int x2_2), (3, .int x3_2), (4, .int 0), (5, .int x5_2)] → W p l e rmX10_about s m args below meth c H locs 0 0 Q (F0 m 15 ls [])) ?_ _ (0 : Int32) (0 : Int32) (0 : Int32) hf _ _ _ ⟨hP, hD, hS⟩ (lv_sub hl [4, 5, 3, 2, 1, 0] rfl)
    intro J18 hL18 x2_2 x3_2 x5_2 hf H locs ls ⟨hP, hD, hS⟩ hl
    refine lv_iload hx hb dX10_about_15 (lv_at hl 5 rfl) ?_
    refine lv_bipush (v := 36) hx hb dX10_about_17 (by decide) ?_
    refine lv_icmp_ge (tgt := 82) hx hb dX10_about_19 (by decide) (fun c19 => ?_) (fun c19 => ?_)
    · have hf := qob_t hf c19
      have hf := qob_esc hf
      exact hJ17 x2_2 x3_2 hf _ _ _ ⟨hP, hD, hS⟩ (lv_sub hl [0, 1, 2, 3, 4] rfl)
    · have hf := qob_f hf c19
      refine lv_iload_n hx hb dX10_about_22 rfl (lv_at hl 2 rfl) ?_
      refine lv_aload_n hx hb dX10_about_23 rfl (lv_at hl 0 rfl) ?_
      refine lv_iload hx hb dX10_about_24 (lv_at hl 5 rfl) ?_
      refine ctV_i0 (r := (fX10_isThere m_rows m_columns x5_2)) (wc := [oX10 mo ma 0 m_textSize m_rows m_columns m_a m_b m_readRows m_readColumns m_at m_looks m_came m_draw m_turnedRows m_turnedColumns]) (As := [.int x5_2]) (rest := [.int x2_2]) (q0 := 0) X hK hP hD hS [0] rfl rfl rfl (KX10_isThere rfl _) (cwV 1 hts gX10_about_X10_isThere rfl rfl rfl hdX10_isThere ⟨Nat.le_of_ble_eq_true rfl, Nat.le_of_ble_eq_true rfl⟩) rfl rfl rfl hl rfl (Nat.le_of_ble_eq_true rfl) dX10_about_26 (Nat.zero_le _) (Nat.zero_le _) (fun H locs hP hS => ?_)
      refine qjoin1 hf (fun (s_2 : Int32) => ∀ (H : Heap) (locs : List Loc) (ls : Array Slot), ctW D A s ([oX10 mo ma 0 m_textSize m_rows m_columns m_a m_b m_readRows m_readColumns m_at m_looks m_came m_draw m_turnedRows m_turnedColumns, aZ cy (ma 1) 36 m_right, aZ cy (ma 2) 36 m_down, aI cy (ma 7) 36 m_dist, aI cy (ma 8) 36 m_queue, aZ cy (ma 10) 36 m_shut, aI cy (ma 11) 36 m_parts]) H locs → lv_has ls 6 [(0, .ref mo), (1, .int p1), (3, .int x3_2), (4, .int 0), (5, .int x5_2)] → W p l e rmX10_about s m args below meth c H locs 0 0 Q (F0 m 47 ls [.int s_2, .int x2_2])) ?_ ?_
      · intro s_2 hf H locs ls ⟨hP, hD, hS⟩ hl
        refine lv_iadd hx hb dX10_about_47 ?_
        refine lv_istore_n (lv' := [(2, .int (x2_2 + s_2)), (0, .ref mo), (1, .int p1), (3, .int x3_2), (4, .int 0), (5, .int x5_2)]) hx hb dX10_about_48 rfl hl (by decide) rfl (fun ls hl => ?_)
        refine lv_iload_n hx hb dX10_about_49 rfl (lv_at hl 3 rfl) ?_
        refine lv_aload_n hx hb dX10_about_50 rfl (lv_at hl 1 rfl) ?_
        refine lv_iload hx hb dX10_about_51 (lv_at hl 5 rfl) ?_
        refine ctV_i0 (r := (fX10_isThere m_rows m_columns x5_2)) (wc := [oX10 mo ma 0 m_textSize m_rows m_columns m_a m_b m_readRows m_readColumns m_at m_looks m_came m_draw m_turnedRows m_turnedColumns]) (As := [.int x5_2]) (rest := [.int x3_2]) (q0 := 0) X hK hP hD hS [0] rfl rfl rfl (KX10_isThere rfl _) (cwV 1 hts gX10_about_X10_isThere rfl rfl rfl hdX10_isThere ⟨Nat.le_of_ble_eq_true rfl, Nat.le_of_ble_eq_true rfl⟩) rfl rfl rfl hl rfl (Nat.le_of_ble_eq_true rfl) dX10_about_53 (Nat.zero_le _) (Nat.zero_le _) (fun H locs hP hS => ?_)
        refine qjoin1 hf (fun (s_3 : Int32) => ∀ (H : Heap) (locs : List Loc) (ls : Array Slot), ctW D A s ([oX10 mo ma 0 m_textSize m_rows m_columns m_a m_b m_readRows m_readColumns m_at m_looks m_came m_draw m_turnedRows m_turnedColumns, aZ cy (ma 1) 36 m_right, aZ cy (ma 2) 36 m_down, aI cy (ma 7) 36 m_dist, aI cy (ma 8) 36 m_queue, aZ cy (ma 10) 36 m_shut, aI cy (ma 11) 36 m_parts]) H locs → lv_has ls 6 [(0, .ref mo), (1, .int p1), (2, .int (x2_2 + s_2)), (4, .int 0), (5, .int x5_2)] → W p l e rmX10_about s m args below meth c H locs 0 0 Q (F0 m 74 ls [.int s_3, .int x3_2])) ?_ ?_
        · intro s_3 hf H locs ls ⟨hP, hD, hS⟩ hl
          refine lv_iadd hx hb dX10_about_74 ?_
          refine lv_istore_n (lv' := [(3, .int (x3_2 + s_3)), (0, .ref mo), (1, .int p1), (2, .int (x2_2 + s_2)), (4, .int 0), (5, .int x5_2)]) hx hb dX10_about_75 rfl hl (by decide) rfl (fun ls hl => ?_)
          refine lv_iinc (v := (x5_2 + 1)) (lv' := [(5, .int (x5_2 + 1)), (3, .int (x3_2 + s_3)), (0, .ref mo), (1, .int p1), (2, .int (x2_2 + s_2)), (4, .int 0)]) hx hb dX10_about_76 hl (k := 5) rfl rfl (by decide) rfl (fun ls hl => ?_)
          refine lv_goto (tgt := 15) hx hb dX10_about_79 (by decide) ?_
          exact hL18 (x2_2 + s_2) (x3_2 + s_3) (x5_2 + 1) hf _ _ _ ⟨hP, hD, hS⟩ (lv_sub hl [2, 3, 4, 1, 5, 0] rfl)
        · intro J20 hJ20 hf
          refine lv_if_eq (tgt := 73) hx hb dX10_about_56 (by decide) (fun c21 => ?_) (fun c21 => ?_)
          · have hf := qob_t hf c21
            refine lv_iconst (v := 0) hx hb dX10_about_73 (by decide) ?_
            exact hJ20 0 hf _ _ _ ⟨hP, hD, hS⟩ (lv_sub hl [1, 2, 0, 4, 5] rfl)
          · have hf := qob_f hf c21
            refine lv_aload_n hx hb dX10_about_59 rfl (lv_at hl 1 rfl) ?_
            refine lv_iload hx hb dX10_about_60 (lv_at hl 5 rfl) ?_
            obtain ⟨r_8, q22, hf⟩ := qcall1 hf
            refine ctV_i0 (r := r_8) (wc := [oX10 mo ma 0 m_textSize m_rows m_columns m_a m_b m_readRows m_readColumns m_at m_looks m_came m_draw m_turnedRows m_turnedColumns, aZ cy (ma 1) 36 m_right, aZ cy (ma 2) 36 m_down]) (As := [.int x5_2]) (rest := [.int x3_2]) (q0 := 0) X hK hP hD hS [0, 1, 2] rfl rfl rfl (KX10_neighbours q22 _) (cwV 1 hts gX10_about_X10_neighbours rfl rfl rfl hdX10_neighbours ⟨Nat.le_of_ble_eq_true rfl, Nat.le_of_ble_eq_true rfl⟩) rfl rfl rfl hl rfl (Nat.le_of_ble_eq_true rfl) dX10_about_62 (Nat.zero_le _) (Nat.zero_le _) (fun H locs hP hS => ?_)
            refine lv_iconst (v := 2) hx hb dX10_about_65 (by decide) ?_
            refine lv_icmp_le (tgt := 73) hx hb dX10_about_66 (by decide) (fun c23 => ?_) (fun c23 => ?_)
            · have hf := qob_t hf c23
              refine lv_iconst (v := 0) hx hb dX10_about_73 (by decide) ?_
              exact hJ20 0 hf _ _ _ ⟨hP, hD, hS⟩ (lv_sub hl [1, 2, 0, 4, 5] rfl)
            · have hf := qob_f hf c23
              refine lv_iconst (v := 1) hx hb dX10_about_69 (by decide) ?_
              refine lv_goto (tgt := 74) hx hb dX10_about_70 (by decide) ?_
              exact hJ20 1 hf _ _ _ ⟨hP, hD, hS⟩ (lv_sub hl [1, 2, 0, 4, 5] rfl)
      · intro J24 hJ24 hf
        refine lv_if_eq (tgt := 46) hx hb dX10_about_29 (by decide) (fun c25 => ?_) (fun c25 => ?_)
        · have hf := qob_t hf c25
          refine lv_iconst (v := 0) hx hb dX10_about_46 (by decide) ?_
          exact hJ24 0 hf _ _ _ ⟨hP, hD, hS⟩ (lv_sub hl [0, 1, 3, 4, 5] rfl)
        · have hf := qob_f hf c25
          refine lv_aload_n hx hb dX10_about_32 rfl (lv_at hl 0 rfl) ?_
          refine lv_iload hx hb dX10_about_33 (lv_at hl 5 rfl) ?_
          obtain ⟨r_9, q26, hf⟩ := qcall1 hf
          refine ctV_i0 (r := r_9) (wc := [oX10 mo ma 0 m_textSize m_rows m_columns m_a m_b m_readRows m_readColumns m_at m_looks m_came m_draw m_turnedRows m_turnedColumns, aZ cy (ma 1) 36 m_right, aZ cy (ma 2) 36 m_down]) (As := [.int x5_2]) (rest := [.int x2_2]) (q0 := 0) X hK hP hD hS [0, 1, 2] rfl rfl rfl (KX10_neighbours q26 _) (cwV 1 hts gX10_about_X10_neighbours rfl rfl rfl hdX10_neighbours ⟨Nat.le_of_ble_eq_true rfl, Nat.le_of_ble_eq_true rfl⟩) rfl rfl rfl hl rfl (Nat.le_of_ble_eq_true rfl) dX10_about_35 (Nat.zero_le _) (Nat.zero_le _) (fun H locs hP hS => ?_)
          refine lv_iconst (v := 1) hx hb dX10_about_38 (by decide) ?_
          refine lv_icmp_ne (tgt := 46) hx hb dX10_about_39 (by decide) (fun c27 => ?_) (fun c27 => ?_)
          · have hf := qob_f hf c27
            refine lv_iconst (v := 0) hx hb dX10_about_46 (by decide) ?_
            exact hJ24 0 hf _ _ _ ⟨hP, hD, hS⟩ (lv_sub hl [0, 1, 3, 4, 5] rfl)
          · have hf := qob_t hf c27
            refine lv_iconst (v := 1) hx hb dX10_about_42 (by decide) ?_
            refine lv_goto (tgt := 47) hx hb dX10_about_43 (by decide) ?_
            exact hJ24 1 hf _ _ _ ⟨hP, hD, hS⟩ (lv_sub hl [0, 1, 3, 4, 5] rfl)

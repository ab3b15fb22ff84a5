theorem inwX10_reduce_X10 : ∀ w ∈ wsX100, w ∈ wsX10_reduce := fun _ h => List.mem_cons_of_mem _ (List.mem_append_right _ h)
abbrev rmX10_reduce : Room := { frames := 0, cells := 0, slots := 0, locals := 0 }
theorem hdX10_reduce : yX10_reduce.cls = RX10 ∧ yX10_reduce.cls ≠ "java/lang/invoke/MethodHandle" ∧ yX10_reduce.cls ≠ "java/lang/invoke/VarHandle" ∧ (parseMethodDescriptor yX10_reduce.desc).map (fun d => d.parameters.length) = some 1 := by decide +kernel
set_option maxHeartbeats 4000000 in
set_option maxRecDepth 100000 in
theorem KX10_reduce {l : Launch} {D : va_G} {cy : Nat → ClassId} {mo : Nat} {ma : Nat → Nat} {m_thrown : Int32} {m_textSize : Int32} {m_rows : Int32} {m_columns : Int32} {m_a : Int32} {m_b : Int32} {m_readRows : Int32} {m_readColumns : Int32} {m_at : Int32} {m_looks : Int32} {m_came : Int32} {m_draw : Int64} {m_turnedRows : Int32} {m_turnedColumns : Int32} {m_matrix : Nat → Int64} {p1 : Int32} {m_matrix' : Nat → Int64} (hf : fX10_reduce m_matrix p1 = some m_matrix') : CtV l yX10_reduce wsX10_reduce rmX10_reduce D cy [.ref mo, .int p1] ([oX10 mo ma m_thrown m_textSize m_rows m_columns m_a m_b m_readRows m_readColumns m_at m_looks m_came m_draw m_turnedRows m_turnedColumns, aJ cy (ma 14) 256 m_matrix]) ([oX10 mo ma m_thrown m_textSize m_rows m_columns m_a m_b m_readRows m_readColumns m_at m_looks m_came m_draw m_turnedRows m_turnedColumns, aJ cy (ma 14) 256 m_matrix']) := by
  refine CtV.of (cc := cX10_reduce) (maxL := 7) (ret := none) (own := RX10) (by decide) rfl rfl (Nat.le_of_ble_eq_true rfl) ?_
  intro p e s m args below meth c A Q X hQ hK hP hD hS ls hl
  obtain ⟨hx, hb, hml, hown, hts, hr, hlocks, hA, hZ⟩ := id X
  have hl : lv_has ls 7 [(0, .ref mo), (1, .int p1)] := hl
  unfold fX10_reduce at hf
  have hf := qob_top hf
  refine lv_lconst (v := 1) hx hb dX10_reduce_0 (by decide) ?_
  refine lv_lstore_n (lv' := [(2, .long 1), (0, .ref mo), (1, .int p1)]) hx hb dX10_reduce_1 rfl hl (by decide) rfl (fun ls hl => ?_)
  refine lv_iconst (v := 0) hx hb dX10_reduce_2 (by decide) ?_
  refine lv_istore (lv' := [(4, .int 0), (2, .long 1), (0, .ref mo), (1, .int p1)]) hx hb dX10_reduce_3 hl (by decide) rfl (fun ls hl => ?_)
  refine qjoin1 hf (fun (m_matrix_1 : Nat → Int64) => ∀ (H : Heap) (locs : List Loc) (ls : Array Slot), ctW D A s ([oX10 mo ma m_thrown m_textSize m_rows m_columns m_a m_b m_readRows m_readColumns m_at m_looks m_came m_draw m_turnedRows m_turnedColumns, aJ cy (ma 14) 256 m_matrix_1]) H locs → lv_has ls 7 [] → W p l e rmX10_reduce s m args below meth c H locs 0 0 Q (F0 m 146 ls [])) ?_ ?_
  · intro m_matrix_1 hf H locs ls ⟨hP, hD, hS⟩ hl
    cases qob_ret hf
    exact ct_vret X hQ hK hP hD hS dX10_reduce_146
  · intro J1 hJ1 hf
    refine qwalk3 (fun (x2_1 : Int64) (x4_1 : Int32) (m_matrix_2 : Nat → Int64) => ∀ (H : Heap) (locs : List Loc) (ls : Array Slot), ctW D A s ([oX10 mo ma m_thrown m_textSize m_rows m_columns m_a m_b m_readRows m_readColumns m_at m_looks m_came m_draw m_turnedRows m_turnedColumns, aJ cy (ma 14) 256 m_matrix_2]) H locs → lv_has ls 7 [(0, .ref mo), (1, .int p1), (2, .long x2_1), (4, .int x4_1)] → W p l e rmX10_reduce s m args below meth c H locs 0 0 Q (F0 m 5 ls [])) ?_ _ (1 : Int64) (0 : Int32) m_matrix hf _ _ _ ⟨hP, hD, hS⟩ (lv_sub hl [2, 3, 1, 0] rfl)
    intro J2 hL2 x2_1 x4_1 m_matrix_2 hf H locs ls ⟨hP, hD, hS⟩ hl
    refine lv_iload hx hb dX10_reduce_5 (lv_at hl 3 rfl) ?_
    refine lv_iload_n hx hb dX10_reduce_7 rfl (lv_at hl 1 rfl) ?_
    refine lv_iconst (v := 1) hx hb dX10_reduce_8 (by decide) ?_
    refine lv_isub hx hb dX10_reduce_9 ?_
    refine lv_icmp_ge (tgt := 146) hx hb dX10_reduce_10 (by decide) (fun c3 => ?_) (fun c3 => ?_)
    · have hf := qob_t hf c3
      have hf := qob_esc hf
      exact hJ1 m_matrix_2 hf _ _ _ ⟨hP, hD, hS⟩ (lv_sub hl [] rfl)
    · have hf := qob_f hf c3
      refine lv_iload hx hb dX10_reduce_13 (lv_at hl 3 rfl) ?_
      refine lv_iconst (v := 1) hx hb dX10_reduce_15 (by decide) ?_
      refine lv_iadd hx hb dX10_reduce_16 ?_
      refine lv_istore (lv' := [(5, .int (x4_1 + 1)), (0, .ref mo), (1, .int p1), (2, .long x2_1), (4, .int x4_1)]) hx hb dX10_reduce_17 hl (by decide) rfl (fun ls hl => ?_)
      refine qjoin1 hf (fun (m_matrix_3 : Nat → Int64) => ∀ (H : Heap) (locs : List Loc) (ls : Array Slot), ctW D A s ([oX10 mo ma m_thrown m_textSize m_rows m_columns m_a m_b m_readRows m_readColumns m_at m_looks m_came m_draw m_turnedRows m_turnedColumns, aJ cy (ma 14) 256 m_matrix_3]) H locs → lv_has ls 7 [(0, .ref mo), (1, .int p1), (4, .int x4_1)] → W p l e rmX10_reduce s m args below meth c H locs 0 0 Q (F0 m 126 ls [])) ?_ ?_
      · intro m_matrix_3 hf H locs ls ⟨hP, hD, hS⟩ hl
        refine lv_aload_n hx hb dX10_reduce_126 rfl (lv_at hl 0 rfl) ?_
        refine va_get (D := D) (ci := 10) (v := .ref (ma 14)) (C := RX10) (T := TX10) (N := 34) hx hb hts inwX10_reduce_X10 hown hK hP 0 rfl rfl 25 (by decide) (hts (.fieldLink RX10 61 "HedgeWaysModel" "matrix" "[J") (List.mem_of_getElem? (i := 1) rfl)) (fun _ h9 => h9) rfl dX10_reduce_127 ?_
        refine lv_bipush (v := 16) hx hb dX10_reduce_130 (by decide) ?_
        refine lv_iload hx hb dX10_reduce_132 (lv_at hl 2 rfl) ?_
        refine lv_imul hx hb dX10_reduce_134 ?_
        refine lv_iload hx hb dX10_reduce_135 (lv_at hl 2 rfl) ?_
        refine lv_iadd hx hb dX10_reduce_137 ?_
        obtain ⟨i4, hf⟩ := qob_gd hf
        refine va_lald hx hb hK hP 1 1 rfl rfl i4 dX10_reduce_138 ?_
        refine lv_topl (fun x2_2 e5 => ?_)
        have hf := qob_bd hf e5
        refine lv_lstore_n (lv' := [(2, .long x2_2), (0, .ref mo), (1, .int p1), (4, .int x4_1)]) hx hb dX10_reduce_139 rfl hl (by decide) rfl (fun ls hl => ?_)
        refine lv_iinc (v := (x4_1 + 1)) (lv' := [(4, .int (x4_1 + 1)), (2, .long x2_2), (0, .ref mo), (1, .int p1)]) hx hb dX10_reduce_140 hl (k := 3) rfl rfl (by decide) rfl (fun ls hl => ?_)
        refine lv_goto (tgt := 5) hx hb dX10_reduce_143 (by decide) ?_
        exact hL2 x2_2 (x4_1 + 1) m_matrix_3 hf _ _ _ ⟨hP, hD, hS⟩ (lv_sub hl [2, 3, 1, 0] rfl)
      · intro J6 hJ6 hf
        refine qwalk2 (fun (x5_1 : Int32) (m_matrix_4 : Nat → Int64) => ∀ (H : Heap) (locs : List Loc) (ls : Array Slot), ctW D A s ([oX10 mo ma m_thrown m_textSize m_rows m_columns m_a m_b m_readRows m_readColumns m_at m_looks m_came m_draw m_turnedRows m_turnedColumns, aJ cy (ma 14) 256 m_matrix_4]) H locs → lv_has ls 7 [(0, .ref mo), (1, .int p1), (2, .long x2_1), (4, .int x4_1), (5, .int x5_1)] → W p l e rmX10_reduce s m args below meth c H locs 0 0 Q (F0 m 19 ls [])) ?_ _ (x4_1 + 1) m_matrix_2 hf _ _ _ ⟨hP, hD, hS⟩ (lv_sub hl [1, 2, 3, 4, 0] rfl)
        intro J7 hL7 x5_1 m_matrix_4 hf H locs ls ⟨hP, hD, hS⟩ hl
        refine lv_iload hx hb dX10_reduce_19 (lv_at hl 4 rfl) ?_
        refine lv_iload_n hx hb dX10_reduce_21 rfl (lv_at hl 1 rfl) ?_
        refine lv_icmp_ge (tgt := 126) hx hb dX10_reduce_22 (by decide) (fun c8 => ?_) (fun c8 => ?_)
        · have hf := qob_t hf c8
          have hf := qob_esc hf
          exact hJ6 m_matrix_4 hf _ _ _ ⟨hP, hD, hS⟩ (lv_sub hl [0, 1, 3] rfl)
        · have hf := qob_f hf c8
          refine lv_iload hx hb dX10_reduce_25 (lv_at hl 3 rfl) ?_
          refine lv_iconst (v := 1) hx hb dX10_reduce_27 (by decide) ?_
          refine lv_iadd hx hb dX10_reduce_28 ?_
          refine lv_istore (lv' := [(6, .int (x4_1 + 1)), (0, .ref mo), (1, .int p1), (2, .long x2_1), (4, .int x4_1), (5, .int x5_1)]) hx hb dX10_reduce_29 hl (by decide) rfl (fun ls hl => ?_)
          refine qjoin1 hf (fun (m_matrix_5 : Nat → Int64) => ∀ (H : Heap) (locs : List Loc) (ls : Array Slot), ctW D A s ([oX10 mo ma m_thrown m_textSize m_rows m_columns m_a m_b m_readRows m_readColumns m_at m_looks m_came m_draw m_turnedRows m_turnedColumns, aJ cy (ma 14) 256 m_matrix_5]) H locs → lv_has ls 7 [(0, .ref mo), (1, .int p1), (2, .long x2_1), (4, .int x4_1), (5, .int x5_1)] → W p l e rmX10_reduce s m args below meth c H locs 0 0 Q (F0 m 120 ls [])) ?_ ?_
          · intro m_matrix_5 hf H locs ls ⟨hP, hD, hS⟩ hl
            refine lv_iinc (v := (x5_1 + 1)) (lv' := [(5, .int (x5_1 + 1)), (0, .ref mo), (1, .int p1), (2, .long x2_1), (4, .int x4_1)]) hx hb dX10_reduce_120 hl (k := 4) rfl rfl (by decide) rfl (fun ls hl => ?_)
            refine lv_goto (tgt := 19) hx hb dX10_reduce_123 (by decide) ?_
            exact hL7 (x5_1 + 1) m_matrix_5 hf _ _ _ ⟨hP, hD, hS⟩ (lv_sub hl [1, 2, 3, 4, 0] rfl)
          · intro J9 hJ9 hf
            refine qwalk2 (fun (x6_1 : Int32) (m_matrix_6 : Nat → Int64) => ∀ (H : Heap) (locs : List Loc) (ls : Array Slot), ctW D A s ([oX10 mo ma m_thrown m_textSize m_rows m_columns m_a m_b m_readRows m_readColumns m_at m_looks m_came m_draw m_turnedRows m_turnedColumns, aJ cy (ma 14) 256 m_matrix_6]) H locs → lv_has ls 7 [(0, .ref mo), (1, .int p1), (2, .long x2_1), (4, .int x4_1), (5, .int x5_1), (6, .int x6_1)] → W p l e rmX10_reduce s m args below meth c H locs 0 0 Q (F0 m 31 ls [])) ?_ _ (x4_1 + 1) m_matrix_4 hf _ _ _ ⟨hP, hD, hS⟩ (lv_sub hl [1, 2, 3, 4, 5, 0] rfl)
            intro J10 hL10 x6_1 m_matrix_6 hf H locs ls ⟨hP, hD, hS⟩ hl
            refine lv_iload hx hb dX10_reduce_31 (lv_at hl 5 rfl) ?_
            refine lv_iload_n hx hb dX10_reduce_33 rfl (lv_at hl 1 rfl) ?_
            refine lv_icmp_gt (tgt := 120) hx hb dX10_reduce_34 (by decide) (fun c11 => ?_) (fun c11 => ?_)
            · have hf := qob_t hf c11
              have hf := qob_esc hf
              exact hJ9 m_matrix_6 hf _ _ _ ⟨hP, hD, hS⟩ (lv_sub hl [0, 1, 2, 3, 4] rfl)
            · have hf := qob_f hf c11
              refine lv_iload hx hb dX10_reduce_37 (lv_at hl 5 rfl) ?_
              refine lv_bipush (v := 16) hx hb dX10_reduce_39 (by decide) ?_
              refine lv_icmp_ge (tgt := 120) hx hb dX10_reduce_41 (by decide) (fun c12 => ?_) (fun c12 => ?_)
              · have hf := qob_t hf c12
                have hf := qob_esc hf
                exact hJ9 m_matrix_6 hf _ _ _ ⟨hP, hD, hS⟩ (lv_sub hl [0, 1, 2, 3, 4] rfl)
              · have hf := qob_f hf c12
                refine lv_aload_n hx hb dX10_reduce_44 rfl (lv_at hl 0 rfl) ?_
                refine va_get (D := D) (ci := 10) (v := .ref (ma 14)) (C := RX10) (T := TX10) (N := 34) hx hb hts inwX10_reduce_X10 hown hK hP 0 rfl rfl 25 (by decide) (hts (.fieldLink RX10 61 "HedgeWaysModel" "matrix" "[J") (List.mem_of_getElem? (i := 1) rfl)) (fun _ h9 => h9) rfl dX10_reduce_45 ?_
                refine lv_bipush (v := 16) hx hb dX10_reduce_48 (by decide) ?_
                refine lv_iload hx hb dX10_reduce_50 (lv_at hl 4 rfl) ?_
                refine lv_imul hx hb dX10_reduce_52 ?_
                refine lv_iload hx hb dX10_reduce_53 (lv_at hl 5 rfl) ?_
                refine lv_iadd hx hb dX10_reduce_55 ?_
                refine lv_aload_n hx hb dX10_reduce_56 rfl (lv_at hl 0 rfl) ?_
                refine va_get (D := D) (ci := 10) (v := .ref (ma 14)) (C := RX10) (T := TX10) (N := 34) hx hb hts inwX10_reduce_X10 hown hK hP 0 rfl rfl 25 (by decide) (hts (.fieldLink RX10 61 "HedgeWaysModel" "matrix" "[J") (List.mem_of_getElem? (i := 1) rfl)) (fun _ h9 => h9) rfl dX10_reduce_57 ?_
                refine lv_bipush (v := 16) hx hb dX10_reduce_60 (by decide) ?_
                refine lv_iload hx hb dX10_reduce_62 (lv_at hl 3 rfl) ?_
                refine lv_imul hx hb dX10_reduce_64 ?_
                refine lv_iload hx hb dX10_reduce_65 (lv_at hl 3 rfl) ?_
                refine lv_iadd hx hb dX10_reduce_67 ?_
                obtain ⟨i13, hf⟩ := qob_gd hf
                refine va_lald hx hb hK hP 1 1 rfl rfl i13 dX10_reduce_68 ?_
                refine lv_aload_n hx hb dX10_reduce_69 rfl (lv_at hl 0 rfl) ?_
                refine va_get (D := D) (ci := 10) (v := .ref (ma 14)) (C := RX10) (T := TX10) (N := 34) hx hb hts inwX10_reduce_X10 hown hK hP 0 rfl rfl 25 (by decide) (hts (.fieldLink RX10 61 "HedgeWaysModel" "matrix" "[J") (List.mem_of_getElem? (i := 1) rfl)) (fun _ h9 => h9) rfl dX10_reduce_70 ?_
                refine lv_bipush (v := 16) hx hb dX10_reduce_73 (by decide) ?_
                refine lv_iload hx hb dX10_reduce_75 (lv_at hl 4 rfl) ?_
                refine lv_imul hx hb dX10_reduce_77 ?_
                refine lv_iload hx hb dX10_reduce_78 (lv_at hl 5 rfl) ?_
                refine lv_iadd hx hb dX10_reduce_80 ?_
                obtain ⟨i14, hf⟩ := qob_gd hf
                refine va_lald hx hb hK hP 1 1 rfl rfl i14 dX10_reduce_81 ?_
                refine lv_lmul hx hb dX10_reduce_82 ?_
                refine lv_aload_n hx hb dX10_reduce_83 rfl (lv_at hl 0 rfl) ?_
                refine va_get (D := D) (ci := 10) (v := .ref (ma 14)) (C := RX10) (T := TX10) (N := 34) hx hb hts inwX10_reduce_X10 hown hK hP 0 rfl rfl 25 (by decide) (hts (.fieldLink RX10 61 "HedgeWaysModel" "matrix" "[J") (List.mem_of_getElem? (i := 1) rfl)) (fun _ h9 => h9) rfl dX10_reduce_84 ?_
                refine lv_bipush (v := 16) hx hb dX10_reduce_87 (by decide) ?_
                refine lv_iload hx hb dX10_reduce_89 (lv_at hl 4 rfl) ?_
                refine lv_imul hx hb dX10_reduce_91 ?_
                refine lv_iload hx hb dX10_reduce_92 (lv_at hl 3 rfl) ?_
                refine lv_iadd hx hb dX10_reduce_94 ?_
                obtain ⟨i15, hf⟩ := qob_gd hf
                refine va_lald hx hb hK hP 1 1 rfl rfl i15 dX10_reduce_95 ?_
                refine lv_aload_n hx hb dX10_reduce_96 rfl (lv_at hl 0 rfl) ?_
                refine va_get (D := D) (ci := 10) (v := .ref (ma 14)) (C := RX10) (T := TX10) (N := 34) hx hb hts inwX10_reduce_X10 hown hK hP 0 rfl rfl 25 (by decide) (hts (.fieldLink RX10 61 "HedgeWaysModel" "matrix" "[J") (List.mem_of_getElem? (i := 1) rfl)) (fun _ h9 => h9) rfl dX10_reduce_97 ?_
                refine lv_bipush (v := 16) hx hb dX10_reduce_100 (by decide) ?_
                refine lv_iload hx hb dX10_reduce_102 (lv_at hl 3 rfl) ?_
                refine lv_imul hx hb dX10_reduce_104 ?_
                refine lv_iload hx hb dX10_reduce_105 (lv_at hl 5 rfl) ?_
                refine lv_iadd hx hb dX10_reduce_107 ?_
                obtain ⟨i16, hf⟩ := qob_gd hf
                refine va_lald hx hb hK hP 1 1 rfl rfl i16 dX10_reduce_108 ?_
                refine lv_lmul hx hb dX10_reduce_109 ?_
                refine lv_lsub hx hb dX10_reduce_110 ?_
                refine lv_lload_n hx hb dX10_reduce_111 rfl (lv_at hl 2 rfl) ?_
                obtain ⟨z17, hf⟩ := qob_gl hf
                refine lv_ldiv hx hb dX10_reduce_112 z17 ?_
                obtain ⟨i18, hf⟩ := qob_gd hf
                obtain ⟨m_matrix_7, e19⟩ : ∃ z, z = (vp_updL m_matrix_6 (((16 * x5_1) + x6_1)).toNatClampNeg ((((m_matrix_6 (((16 * x4_1) + x4_1)).toNatClampNeg) * (m_matrix_6 (((16 * x5_1) + x6_1)).toNatClampNeg)) - ((m_matrix_6 (((16 * x5_1) + x4_1)).toNatClampNeg) * (m_matrix_6 (((16 * x4_1) + x6_1)).toNatClampNeg))) / x2_1)) := ⟨_, rfl⟩
                have hf := qob_bd hf e19
                refine va_last hx hb hK hP hD hS 1 1 rfl rfl i18 dX10_reduce_113 (fun H locs hP hD hS => ?_)
                have hP : va_P D vwCl ([oX10 mo ma m_thrown m_textSize m_rows m_columns m_a m_b m_readRows m_readColumns m_at m_looks m_came m_draw m_turnedRows m_turnedColumns, aJ cy (ma 14) 256 m_matrix_7]) H := by rw [e19]; exact hP
                have hD : va_D A ([oX10 mo ma m_thrown m_textSize m_rows m_columns m_a m_b m_readRows m_readColumns m_at m_looks m_came m_draw m_turnedRows m_turnedColumns, aJ cy (ma 14) 256 m_matrix_7]) := by rw [e19]; exact hD
                refine lv_iinc (v := (x6_1 + 1)) (lv' := [(6, .int (x6_1 + 1)), (0, .ref mo), (1, .int p1), (2, .long x2_1), (4, .int x4_1), (5, .int x5_1)]) hx hb dX10_reduce_114 hl (k := 5) rfl rfl (by decide) rfl (fun ls hl => ?_)
                refine lv_goto (tgt := 31) hx hb dX10_reduce_117 (by decide) ?_
                exact hL10 (x6_1 + 1) m_matrix_7 hf _ _ _ ⟨hP, hD, hS⟩ (lv_sub hl [1, 2, 3, 4, 5, 0] rfl)
theorem inwX10_lost_X10 : ∀ w ∈ wsX100, w ∈ wsX10_lost := fun _ h => List.mem_cons_of_mem _ (List.mem_append_right _ h)
abbrev rmX10_lost : Room := { frames := 6, cells := 0, slots := 0, locals := 146 }
theorem hdX10_lost : yX10_lost.cls = RX10 ∧ yX10_lost.cls ≠ "java/lang/invoke/MethodHandle" ∧ yX10_lost.cls ≠ "java/lang/invoke/VarHandle" ∧ (parseMethodDescriptor yX10_lost.desc).map (fun d => d.parameters.length) = some 3 := by decide +kernel
set_option maxHeartbeats 4000000 in
set_option maxRecDepth 100000 in
theorem KX10_lost {l : Launch} {D : va_G} {cy : Nat → ClassId} {mo : Nat} {ma : Nat → Nat} {m_thrown : Int32} {m_textSize : Int32} {m_rows : Int32} {m_columns : Int32} {m_a : Int32} {m_b : Int32} {m_readRows : Int32} {m_readColumns : Int32} {m_at : Int32} {m_looks : Int32} {m_came : Int32} {m_draw : Int64} {m_turnedRows : Int32} {m_turnedColumns : Int32} {m_right : Nat → Int32} {m_down : Nat → Int32} {m_dist : Nat → Int32} {m_queue : Nat → Int32} {m_shut : Nat → Int32} {m_parts : Nat → Int32} {m_matrix : Nat → Int64} {m_member : Nat → Int32} {m_place : Nat → Int32} {p1 : Int32} {p2 : Int32} {p3 : Int32} {r : Int64} {m_thrown' : Int32} {m_dist' : Nat → Int32} {m_queue' : Nat → Int32} {m_parts' : Nat → Int32} {m_matrix' : Nat → Int64} {m_member' : Nat → Int32} {m_place' : Nat → Int32} (hf : fX10_lost m_thrown m_rows m_columns m_right m_down m_dist m_queue m_shut m_parts m_matrix m_member m_place p1 p2 p3 = some (r, m_thrown', m_dist', m_queue', m_parts', m_matrix', m_member', m_place')) : CtL l yX10_lost wsX10_lost rmX10_lost D cy [.ref mo, .int p1, .int p2, .int p3] ([oX10 mo ma m_thrown m_textSize m_rows m_columns m_a m_b m_readRows m_readColumns m_at m_looks m_came m_draw m_turnedRows m_turnedColumns, aZ cy (ma 1) 36 m_right, aZ cy (ma 2) 36 m_down, aI cy (ma 7) 36 m_dist, aI cy (ma 8) 36 m_queue, aZ cy (ma 10) 36 m_shut, aI cy (ma 11) 36 m_parts, aJ cy (ma 14) 256 m_matrix, aI cy (ma 15) 36 m_member, aI cy (ma 16) 36 m_place]) ([oX10 mo ma m_thrown' m_textSize m_rows m_columns m_a m_b m_readRows m_readColumns m_at m_looks m_came m_draw m_turnedRows m_turnedColumns, aZ cy (ma 1) 36 m_right, aZ cy (ma 2) 36 m_down, aI cy (ma 7) 36 m_dist', aI cy (ma 8) 36 m_queue', aZ cy (ma 10) 36 m_shut, aI cy (ma 11) 36 m_parts', aJ cy (ma 14) 256 m_matrix', aI cy (ma 15) 36 m_member', aI cy (ma 16) 36 m_place']) r := by
  refine CtL.of (cc := cX10_lost) (maxL := 17) (ret := some .long) (own := RX10) (by decide) rfl rfl (Nat.le_of_ble_eq_true rfl) ?_
  intro p e s m args below meth c A Q X hQ hK hP hD hS ls hl
  obtain ⟨hx, hb, hml, hown, hts, hr, hlocks, hA, hZ⟩ := id X
  have hl : lv_has ls 17 [(0, .ref mo), (1, .int p1), (2, .int p2), (3, .int p3)] := hl
  unfold fX10_lost at hf
  have hf := qob_top hf
  refine lv_aload_n hx hb dX10_lost_0 rfl (lv_at hl 0 rfl) ?_
  refine lv_iconst (v := 0) hx hb dX10_lost_1 (by decide) ?_
  refine va_put (D := D) (ci := 10) (v := .int 0) (ty := .int) (C := RX10) (T := TX10) (N := 34) hx hb hts inwX10_lost_X10 tyX10 tyX10_ok nmX10 hown hK hP hD hS 0 rfl rfl 0 (by decide) (hts (.fieldLink RX10 79 "HedgeWaysModel" "thrown" "I") (List.mem_of_getElem? (i := 1) rfl)) (fun _ h9 => h9) rfl (tyX10_ok 0 (by decide)) rfl rfl (Nat.le_of_ble_eq_true rfl) dX10_lost_2 (fun H locs hP hD hS => ?_)
  have hP : va_P D vwCl ([oX10 mo ma 0 m_textSize m_rows m_columns m_a m_b m_readRows m_readColumns m_at m_looks m_came m_draw m_turnedRows m_turnedColumns, aZ cy (ma 1) 36 m_right, aZ cy (ma 2) 36 m_down, aI cy (ma 7) 36 m_dist, aI cy (ma 8) 36 m_queue, aZ cy (ma 10) 36 m_shut, aI cy (ma 11) 36 m_parts, aJ cy (ma 14) 256 m_matrix, aI cy (ma 15) 36 m_member, aI cy (ma 16) 36 m_place]) H := hP
  have hD : va_D A ([oX10 mo ma 0 m_textSize m_rows m_columns m_a m_b m_readRows m_readColumns m_at m_looks m_came m_draw m_turnedRows m_turnedColumns, aZ cy (ma 1) 36 m_right, aZ cy (ma 2) 36 m_down, aI cy (ma 7) 36 m_dist, aI cy (ma 8) 36 m_queue, aZ cy (ma 10) 36 m_shut, aI cy (ma 11) 36 m_parts, aJ cy (ma 14) 256 m_matrix, aI cy (ma 15) 36 m_member, aI cy (ma 16) 36 m_place]) := hD
  refine lv_aload_n hx hb dX10_lost_5 rfl (lv_at hl 0 rfl) ?_
  refine lv_iload_n hx hb dX10_lost_6 rfl (lv_at hl 1 rfl) ?_
  refine ctV_i0 (r := (fX10_isCell m_rows m_columns p1)) (wc := [oX10 mo ma 0 m_textSize m_rows m_columns m_a m_b m_readRows m_readColumns m_at m_looks m_came m_draw m_turnedRows m_turnedColumns]) (As := [.int p1]) (rest := []) (q0 := 0) X hK hP hD hS [0] rfl rfl rfl (KX10_isCell rfl _) (cwV 1 hts gX10_lost_X10_isCell rfl rfl rfl hdX10_isCell ⟨Nat.le_of_ble_eq_true rfl, Nat.le_of_ble_eq_true rfl⟩) rfl rfl rfl hl rfl (Nat.le_of_ble_eq_true rfl) dX10_lost_7 (Nat.zero_le _) (Nat.zero_le _) (fun H locs hP hS => ?_)
  refine lv_if_eq (tgt := 21) hx hb dX10_lost_10 (by decide) (fun c1 => ?_) (fun c1 => ?_)
  · have hf := qob_t hf c1
    refine lv_ldc2 hx hb hown (hts (.constantLong RX10 201 (-1)) (List.mem_of_getElem? (i := 2) rfl)) dX10_lost_21 ?_
    cases qob_ret hf
    exact ct_lret X hQ hK hP hD hS rfl dX10_lost_24
  · have hf := qob_f hf c1
    refine lv_aload_n hx hb dX10_lost_13 rfl (lv_at hl 0 rfl) ?_
    refine lv_iload_n hx hb dX10_lost_14 rfl (lv_at hl 2 rfl) ?_
    refine ctV_i0 (r := (fX10_isCell m_rows m_columns p2)) (wc := [oX10 mo ma 0 m_textSize m_rows m_columns m_a m_b m_readRows m_readColumns m_at m_looks m_came m_draw m_turnedRows m_turnedColumns]) (As := [.int p2]) (rest := []) (q0 := 0) X hK hP hD hS [0] rfl rfl rfl (KX10_isCell rfl _) (cwV 1 hts gX10_lost_X10_isCell rfl rfl rfl hdX10_isCell ⟨Nat.le_of_ble_eq_true rfl, Nat.le_of_ble_eq_true rfl⟩) rfl rfl rfl hl rfl (Nat.le_of_ble_eq_true rfl) dX10_lost_15 (Nat.zero_le _) (Nat.zero_le _) (fun H locs hP hS => ?_)
    refine lv_if_ne (tgt := 25) hx hb dX10_lost_18 (by decide) (fun c2 => ?_) (fun c2 => ?_)
    · have hf := qob_f hf c2
      refine lv_aload_n hx hb dX10_lost_25 rfl (lv_at hl 0 rfl) ?_
      refine lv_iload_n hx hb dX10_lost_26 rfl (lv_at hl 1 rfl) ?_
      refine ctS_i0 (r := (fX10_index p1)) (wc := []) (As := [.int p1]) (rest := [.ref mo]) X hK hP hD hS [] rfl rfl rfl (KX10_index rfl _) (va_cwS 1 hts gX10_lost_X10_index rfl rfl rfl hdX10_index ⟨Nat.le_of_ble_eq_true rfl, Nat.le_of_ble_eq_true rfl⟩) rfl hl rfl (Nat.le_of_ble_eq_true rfl) dX10_lost_27 (Nat.zero_le _) (Nat.zero_le _) (fun H locs hP hS => ?_)
      refine lv_bipush (v := (-9)) hx hb dX10_lost_30 (by decide) ?_
      obtain ⟨r_1, m_dist_1, m_queue_1, m_parts_1, m_member_1, m_place_1, q3, hf⟩ := qcall6 hf
      refine ctV_i (r := r_1) (wc := [oX10 mo ma 0 m_textSize m_rows m_columns m_a m_b m_readRows m_readColumns m_at m_looks m_came m_draw m_turnedRows m_turnedColumns, aZ cy (ma 1) 36 m_right, aZ cy (ma 2) 36 m_down, aI cy (ma 7) 36 m_dist, aI cy (ma 8) 36 m_queue, aZ cy (ma 10) 36 m_shut, aI cy (ma 11) 36 m_parts, aI cy (ma 15) 36 m_member, aI cy (ma 16) 36 m_place]) (w1 := [oX10 mo ma 0 m_textSize m_rows m_columns m_a m_b m_readRows m_readColumns m_at m_looks m_came m_draw m_turnedRows m_turnedColumns, aZ cy (ma 1) 36 m_right, aZ cy (ma 2) 36 m_down, aI cy (ma 7) 36 m_dist_1, aI cy (ma 8) 36 m_queue_1, aZ cy (ma 10) 36 m_shut, aI cy (ma 11) 36 m_parts_1, aI cy (ma 15) 36 m_member_1, aI cy (ma 16) 36 m_place_1]) (wr := [aJ cy (ma 14) 256 m_matrix]) (wn := [oX10 mo ma 0 m_textSize m_rows m_columns m_a m_b m_readRows m_readColumns m_at m_looks m_came m_draw m_turnedRows m_turnedColumns, aZ cy (ma 1) 36 m_right, aZ cy (ma 2) 36 m_down, aI cy (ma 7) 36 m_dist_1, aI cy (ma 8) 36 m_queue_1, aZ cy (ma 10) 36 m_shut, aI cy (ma 11) 36 m_parts_1, aJ cy (ma 14) 256 m_matrix, aI cy (ma 15) 36 m_member_1, aI cy (ma 16) 36 m_place_1]) (As := [.int (fX10_index p1), .int (-9)]) (rest := []) (q0 := 0) X hK hP hD hS [0, 1, 2, 3, 4, 5, 6, 8, 9] [7] [1, 2, 3, 4, 5, 6, 7, 0, 8, 9] rfl rfl rfl rfl rfl (by decide) rfl rfl rfl (KX10_layMembers q3 _) (cwV 2 hts gX10_lost_X10_layMembers rfl rfl rfl hdX10_layMembers ⟨Nat.le_of_ble_eq_true rfl, Nat.le_of_ble_eq_true rfl⟩) rfl rfl rfl hl rfl (Nat.le_of_ble_eq_true rfl) dX10_lost_32 (Nat.zero_le _) (Nat.zero_le _) (fun H locs hP hD hS => ?_)
      refine lv_istore (lv' := [(4, .int r_1), (0, .ref mo), (1, .int p1), (2, .int p2), (3, .int p3)]) hx hb dX10_lost_35 hl (by decide) rfl (fun ls hl => ?_)
      refine lv_aload_n hx hb dX10_lost_37 rfl (lv_at hl 1 rfl) ?_
      refine va_get (D := D) (ci := 10) (v := .ref (ma 11)) (C := RX10) (T := TX10) (N := 34) hx hb hts inwX10_lost_X10 hown hK hP 0 rfl rfl 19 (by decide) (hts (.fieldLink RX10 52 "HedgeWaysModel" "parts" "[I") (List.mem_of_getElem? (i := 3) rfl)) (fun _ h9 => h9) rfl dX10_lost_38 ?_
      refine lv_iload_n hx hb dX10_lost_41 rfl (lv_at hl 2 rfl) ?_
      refine ctS_i0 (r := (fX10_index p1)) (wc := []) (As := [.int p1]) (rest := [.ref (ma 11)]) X hK hP hD hS [] rfl rfl rfl (KX10_index rfl _) (va_cwS 1 hts gX10_lost_X10_index rfl rfl rfl hdX10_index ⟨Nat.le_of_ble_eq_true rfl, Nat.le_of_ble_eq_true rfl⟩) rfl hl rfl (Nat.le_of_ble_eq_true rfl) dX10_lost_42 (Nat.zero_le _) (Nat.zero_le _) (fun H locs hP hS => ?_)
      obtain ⟨i4, hf⟩ := qob_gd hf
      refine va_iald hx hb hK hP 6 0 rfl rfl i4 dX10_lost_45 ?_
      refine lv_aload_n hx hb dX10_lost_46 rfl (lv_at hl 1 rfl) ?_
      refine va_get (D := D) (ci := 10) (v := .ref (ma 11)) (C := RX10) (T := TX10) (N := 34) hx hb hts inwX10_lost_X10 hown hK hP 0 rfl rfl 19 (by decide) (hts (.fieldLink RX10 52 "HedgeWaysModel" "parts" "[I") (List.mem_of_getElem? (i := 3) rfl)) (fun _ h9 => h9) rfl dX10_lost_47 ?_
      refine lv_iload_n hx hb dX10_lost_50 rfl (lv_at hl 3 rfl) ?_
      refine ctS_i0 (r := (fX10_index p2)) (wc := []) (As := [.int p2]) (rest := [.ref (ma 11), .int (m_parts_1 ((fX10_index p1)).toNatClampNeg)]) X hK hP hD hS [] rfl rfl rfl (KX10_index rfl _) (va_cwS 1 hts gX10_lost_X10_index rfl rfl rfl hdX10_index ⟨Nat.le_of_ble_eq_true rfl, Nat.le_of_ble_eq_true rfl⟩) rfl hl rfl (Nat.le_of_ble_eq_true rfl) dX10_lost_51 (Nat.zero_le _) (Nat.zero_le _) (fun H locs hP hS => ?_)
      obtain ⟨i5, hf⟩ := qob_gd hf
      refine va_iald hx hb hK hP 6 0 rfl rfl i5 dX10_lost_54 ?_
      refine lv_icmp_ne (tgt := 65) hx hb dX10_lost_55 (by decide) (fun c6 => ?_) (fun c6 => ?_)
      · have hf := qob_f hf c6
        refine lv_ldc2 hx hb hown (hts (.constantLong RX10 224 (-3)) (List.mem_of_getElem? (i := 4) rfl)) dX10_lost_65 ?_
        cases qob_ret hf
        exact ct_lret X hQ hK hP hD hS rfl dX10_lost_68
      · have hf := qob_t hf c6
        refine lv_iload hx hb dX10_lost_58 (lv_at hl 0 rfl) ?_
        refine lv_bipush (v := 10) hx hb dX10_lost_60 (by decide) ?_
        refine lv_icmp_le (tgt := 69) hx hb dX10_lost_62 (by decide) (fun c7 => ?_) (fun c7 => ?_)
        · have hf := qob_t hf c7
          refine lv_iload_n hx hb dX10_lost_69 rfl (lv_at hl 2 rfl) ?_
          refine lv_iload_n hx hb dX10_lost_70 rfl (lv_at hl 3 rfl) ?_
          refine lv_icmp_ne (tgt := 84) hx hb dX10_lost_71 (by decide) (fun c8 => ?_) (fun c8 => ?_)
          · have hf := qob_f hf c8
            refine lv_aload_n hx hb dX10_lost_84 rfl (lv_at hl 1 rfl) ?_
            refine lv_iload_n hx hb dX10_lost_85 rfl (lv_at hl 2 rfl) ?_
            refine ctS_i0 (r := (fX10_index p1)) (wc := []) (As := [.int p1]) (rest := [.ref mo]) X hK hP hD hS [] rfl rfl rfl (KX10_index rfl _) (va_cwS 1 hts gX10_lost_X10_index rfl rfl rfl hdX10_index ⟨Nat.le_of_ble_eq_true rfl, Nat.le_of_ble_eq_true rfl⟩) rfl hl rfl (Nat.le_of_ble_eq_true rfl) dX10_lost_86 (Nat.zero_le _) (Nat.zero_le _) (fun H locs hP hS => ?_)
            refine lv_iload_n hx hb dX10_lost_89 rfl (lv_at hl 3 rfl) ?_
            refine ctS_i0 (r := (fX10_index p2)) (wc := []) (As := [.int p2]) (rest := [.int (fX10_index p1), .ref mo]) X hK hP hD hS [] rfl rfl rfl (KX10_index rfl _) (va_cwS 1 hts gX10_lost_X10_index rfl rfl rfl hdX10_index ⟨Nat.le_of_ble_eq_true rfl, Nat.le_of_ble_eq_true rfl⟩) rfl hl rfl (Nat.le_of_ble_eq_true rfl) dX10_lost_90 (Nat.zero_le _) (Nat.zero_le _) (fun H locs hP hS => ?_)
            obtain ⟨r_2, m_dist_2, m_queue_2, m_parts_2, m_member_2, m_place_2, q9, hf⟩ := qcall6 hf
            refine ctV_i (r := r_2) (wc := [oX10 mo ma 0 m_textSize m_rows m_columns m_a m_b m_readRows m_readColumns m_at m_looks m_came m_draw m_turnedRows m_turnedColumns, aZ cy (ma 1) 36 m_right, aZ cy (ma 2) 36 m_down, aI cy (ma 7) 36 m_dist_1, aI cy (ma 8) 36 m_queue_1, aZ cy (ma 10) 36 m_shut, aI cy (ma 11) 36 m_parts_1, aI cy (ma 15) 36 m_member_1, aI cy (ma 16) 36 m_place_1]) (w1 := [oX10 mo ma 0 m_textSize m_rows m_columns m_a m_b m_readRows m_readColumns m_at m_looks m_came m_draw m_turnedRows m_turnedColumns, aZ cy (ma 1) 36 m_right, aZ cy (ma 2) 36 m_down, aI cy (ma 7) 36 m_dist_2, aI cy (ma 8) 36 m_queue_2, aZ cy (ma 10) 36 m_shut, aI cy (ma 11) 36 m_parts_2, aI cy (ma 15) 36 m_member_2, aI cy (ma 16) 36 m_place_2]) (wr := [aJ cy (ma 14) 256 m_matrix]) (wn := [oX10 mo ma 0 m_textSize m_rows m_columns m_a m_b m_readRows m_readColumns m_at m_looks m_came m_draw m_turnedRows m_turnedColumns, aZ cy (ma 1) 36 m_right, aZ cy (ma 2) 36 m_down, aI cy (ma 7) 36 m_dist_2, aI cy (ma 8) 36 m_queue_2, aZ cy (ma 10) 36 m_shut, aI cy (ma 11) 36 m_parts_2, aJ cy (ma 14) 256 m_matrix, aI cy (ma 15) 36 m_member_2, aI cy (ma 16) 36 m_place_2]) (As := [.int (fX10_index p1), .int (fX10_index p2)]) (rest := []) (q0 := 0) X hK hP hD hS [0, 1, 2, 3, 4, 5, 6, 8, 9] [7] [1, 2, 3, 4, 5, 6, 7, 0, 8, 9] rfl rfl rfl rfl rfl (by decide) rfl rfl rfl (KX10_layMembers q9 _) (cwV 2 hts gX10_lost_X10_layMembers rfl rfl rfl hdX10_layMembers ⟨Nat.le_of_ble_eq_true rfl, Nat.le_of_ble_eq_true rfl⟩) rfl rfl rfl hl rfl (Nat.le_of_ble_eq_true rfl) dX10_lost_93 (Nat.zero_le _) (Nat.zero_le _) (fun H locs hP hD hS => ?_)
            refine lv_istore (lv' := [(4, .int r_2), (0, .ref mo), (1, .int p1), (2, .int p2), (3, .int p3)]) hx hb dX10_lost_96 hl (by decide) rfl (fun ls hl => ?_)
            refine lv_aload_n hx hb dX10_lost_98 rfl (lv_at hl 1 rfl) ?_
            refine va_get (D := D) (ci := 10) (v := .ref (ma 15)) (C := RX10) (T := TX10) (N := 34) hx hb hts inwX10_lost_X10 hown hK hP 0 rfl rfl 26 (by decide) (hts (.fieldLink RX10 64 "HedgeWaysModel" "member" "[I") (List.mem_of_getElem? (i := 5) rfl)) (fun _ h9 => h9) rfl dX10_lost_99 ?_
            refine lv_iload hx hb dX10_lost_102 (lv_at hl 0 rfl) ?_
            refine lv_iconst (v := 1) hx hb dX10_lost_104 (by decide) ?_
            refine lv_isub hx hb dX10_lost_105 ?_
            obtain ⟨i10, hf⟩ := qob_gd hf
            refine va_iald hx hb hK hP 8 0 rfl rfl i10 dX10_lost_106 ?_
            refine lv_istore (lv' := [(5, .int (m_member_2 ((r_2 - 1)).toNatClampNeg)), (4, .int r_2), (0, .ref mo), (1, .int p1), (2, .int p2), (3, .int p3)]) hx hb dX10_lost_107 hl (by decide) rfl (fun ls hl => ?_)
            refine lv_aload_n hx hb dX10_lost_109 rfl (lv_at hl 2 rfl) ?_
            refine va_get (D := D) (ci := 10) (v := .ref (ma 16)) (C := RX10) (T := TX10) (N := 34) hx hb hts inwX10_lost_X10 hown hK hP 0 rfl rfl 27 (by decide) (hts (.fieldLink RX10 67 "HedgeWaysModel" "place" "[I") (List.mem_of_getElem? (i := 6) rfl)) (fun _ h9 => h9) rfl dX10_lost_110 ?_
            refine lv_iload_n hx hb dX10_lost_113 rfl (lv_at hl 3 rfl) ?_
            refine ctS_i0 (r := (fX10_index p1)) (wc := []) (As := [.int p1]) (rest := [.ref (ma 16)]) X hK hP hD hS [] rfl rfl rfl (KX10_index rfl _) (va_cwS 1 hts gX10_lost_X10_index rfl rfl rfl hdX10_index ⟨Nat.le_of_ble_eq_true rfl, Nat.le_of_ble_eq_true rfl⟩) rfl hl rfl (Nat.le_of_ble_eq_true rfl) dX10_lost_114 (Nat.zero_le _) (Nat.zero_le _) (fun H locs hP hS => ?_)
            obtain ⟨i11, hf⟩ := qob_gd hf
            refine va_iald hx hb hK hP 9 0 rfl rfl i11 dX10_lost_117 ?_
            refine lv_istore (lv' := [(6, .int (m_place_2 ((fX10_index p1)).toNatClampNeg)), (5, .int (m_member_2 ((r_2 - 1)).toNatClampNeg)), (4, .int r_2), (0, .ref mo), (1, .int p1), (2, .int p2), (3, .int p3)]) hx hb dX10_lost_118 hl (by decide) rfl (fun ls hl => ?_)
            refine lv_aload_n hx hb dX10_lost_120 rfl (lv_at hl 3 rfl) ?_
            refine va_get (D := D) (ci := 10) (v := .ref (ma 15)) (C := RX10) (T := TX10) (N := 34) hx hb hts inwX10_lost_X10 hown hK hP 0 rfl rfl 26 (by decide) (hts (.fieldLink RX10 64 "HedgeWaysModel" "member" "[I") (List.mem_of_getElem? (i := 5) rfl)) (fun _ h9 => h9) rfl dX10_lost_121 ?_
            refine lv_iload hx hb dX10_lost_124 (lv_at hl 2 rfl) ?_
            refine lv_iconst (v := 1) hx hb dX10_lost_126 (by decide) ?_
            refine lv_isub hx hb dX10_lost_127 ?_
            refine lv_iload_n hx hb dX10_lost_128 rfl (lv_at hl 4 rfl) ?_
            refine ctS_i0 (r := (fX10_index p1)) (wc := []) (As := [.int p1]) (rest := [.int (r_2 - 1), .ref (ma 15)]) X hK hP hD hS [] rfl rfl rfl (KX10_index rfl _) (va_cwS 1 hts gX10_lost_X10_index rfl rfl rfl hdX10_index ⟨Nat.le_of_ble_eq_true rfl, Nat.le_of_ble_eq_true rfl⟩) rfl hl rfl (Nat.le_of_ble_eq_true rfl) dX10_lost_129 (Nat.zero_le _) (Nat.zero_le _) (fun H locs hP hS => ?_)
            obtain ⟨i12, hf⟩ := qob_gd hf
            refine va_iast hx hb hK hP hD hS 8 0 rfl rfl i12 dX10_lost_132 (fun H locs hP hD hS => ?_)
            have hP : va_P D vwCl ([oX10 mo ma 0 m_textSize m_rows m_columns m_a m_b m_readRows m_readColumns m_at m_looks m_came m_draw m_turnedRows m_turnedColumns, aZ cy (ma 1) 36 m_right, aZ cy (ma 2) 36 m_down, aI cy (ma 7) 36 m_dist_2, aI cy (ma 8) 36 m_queue_2, aZ cy (ma 10) 36 m_shut, aI cy (ma 11) 36 m_parts_2, aJ cy (ma 14) 256 m_matrix, aI cy (ma 15) 36 (upd m_member_2 ((r_2 - 1)).toNatClampNeg (fX10_index p1)), aI cy (ma 16) 36 m_place_2]) H := hP
            have hD : va_D A ([oX10 mo ma 0 m_textSize m_rows m_columns m_a m_b m_readRows m_readColumns m_at m_looks m_came m_draw m_turnedRows m_turnedColumns, aZ cy (ma 1) 36 m_right, aZ cy (ma 2) 36 m_down, aI cy (ma 7) 36 m_dist_2, aI cy (ma 8) 36 m_queue_2, aZ cy (ma 10) 36 m_shut, aI cy (ma 11) 36 m_parts_2, aJ cy (ma 14) 256 m_matrix, aI cy (ma 15) 36 (upd m_member_2 ((r_2 - 1)).toNatClampNeg (fX10_index p1)), aI cy (ma 16) 36 m_place_2]) := hD
            refine lv_aload_n hx hb dX10_lost_133 rfl (lv_at hl 3 rfl) ?_
            refine va_get (D := D) (ci := 10) (v := .ref (ma 15)) (C := RX10) (T := TX10) (N := 34) hx hb hts inwX10_lost_X10 hown hK hP 0 rfl rfl 26 (by decide) (hts (.fieldLink RX10 64 "HedgeWaysModel" "member" "[I") (List.mem_of_getElem? (i := 5) rfl)) (fun _ h9 => h9) rfl dX10_lost_134 ?_
            refine lv_iload hx hb dX10_lost_137 (lv_at hl 0 rfl) ?_
            refine lv_iload hx hb dX10_lost_139 (lv_at hl 1 rfl) ?_
            obtain ⟨i13, hf⟩ := qob_gd hf
            obtain ⟨m_member_3, e14⟩ : ∃ z, z = (upd (upd m_member_2 ((r_2 - 1)).toNatClampNeg (fX10_index p1)) ((m_place_2 ((fX10_index p1)).toNatClampNeg)).toNatClampNeg (m_member_2 ((r_2 - 1)).toNatClampNeg)) := ⟨_, rfl⟩
            have hf := qob_bd hf e14
            refine va_iast hx hb hK hP hD hS 8 0 rfl rfl i13 dX10_lost_141 (fun H locs hP hD hS => ?_)
            have hP : va_P D vwCl ([oX10 mo ma 0 m_textSize m_rows m_columns m_a m_b m_readRows m_readColumns m_at m_looks m_came m_draw m_turnedRows m_turnedColumns, aZ cy (ma 1) 36 m_right, aZ cy (ma 2) 36 m_down, aI cy (ma 7) 36 m_dist_2, aI cy (ma 8) 36 m_queue_2, aZ cy (ma 10) 36 m_shut, aI cy (ma 11) 36 m_parts_2, aJ cy (ma 14) 256 m_matrix, aI cy (ma 15) 36 m_member_3, aI cy (ma 16) 36 m_place_2]) H := by rw [e14]; exact hP
            have hD : va_D A ([oX10 mo ma 0 m_textSize m_rows m_columns m_a m_b m_readRows m_readColumns m_at m_looks m_came m_draw m_turnedRows m_turnedColumns, aZ cy (ma 1) 36 m_right, aZ cy (ma 2) 36 m_down, aI cy (ma 7) 36 m_dist_2, aI cy (ma 8) 36 m_queue_2, aZ cy (ma 10) 36 m_shut, aI cy (ma 11) 36 m_parts_2, aJ cy (ma 14) 256 m_matrix, aI cy (ma 15) 36 m_member_3, aI cy (ma 16) 36 m_place_2]) := by rw [e14]; exact hD
            refine lv_aload_n hx hb dX10_lost_142 rfl (lv_at hl 3 rfl) ?_
            refine va_get (D := D) (ci := 10) (v := .ref (ma 16)) (C := RX10) (T := TX10) (N := 34) hx hb hts inwX10_lost_X10 hown hK hP 0 rfl rfl 27 (by decide) (hts (.fieldLink RX10 67 "HedgeWaysModel" "place" "[I") (List.mem_of_getElem? (i := 6) rfl)) (fun _ h9 => h9) rfl dX10_lost_143 ?_
            refine lv_iload hx hb dX10_lost_146 (lv_at hl 1 rfl) ?_
            refine lv_iload hx hb dX10_lost_148 (lv_at hl 0 rfl) ?_
            obtain ⟨i15, hf⟩ := qob_gd hf
            obtain ⟨m_place_3, e16⟩ : ∃ z, z = (upd m_place_2 ((m_member_2 ((r_2 - 1)).toNatClampNeg)).toNatClampNeg (m_place_2 ((fX10_index p1)).toNatClampNeg)) := ⟨_, rfl⟩
            have hf := qob_bd hf e16
            refine va_iast hx hb hK hP hD hS 9 0 rfl rfl i15 dX10_lost_150 (fun H locs hP hD hS => ?_)
            have hP : va_P D vwCl ([oX10 mo ma 0 m_textSize m_rows m_columns m_a m_b m_readRows m_readColumns m_at m_looks m_came m_draw m_turnedRows m_turnedColumns, aZ cy (ma 1) 36 m_right, aZ cy (ma 2) 36 m_down, aI cy (ma 7) 36 m_dist_2, aI cy (ma 8) 36 m_queue_2, aZ cy (ma 10) 36 m_shut, aI cy (ma 11) 36 m_parts_2, aJ cy (ma 14) 256 m_matrix, aI cy (ma 15) 36 m_member_3, aI cy (ma 16) 36 m_place_3]) H := by rw [e16]; exact hP
            have hD : va_D A ([oX10 mo ma 0 m_textSize m_rows m_columns m_a m_b m_readRows m_readColumns m_at m_looks m_came m_draw m_turnedRows m_turnedColumns, aZ cy (ma 1) 36 m_right, aZ cy (ma 2) 36 m_down, aI cy (ma 7) 36 m_dist_2, aI cy (ma 8) 36 m_queue_2, aZ cy (ma 10) 36 m_shut, aI cy (ma 11) 36 m_parts_2, aJ cy (ma 14) 256 m_matrix, aI cy (ma 15) 36 m_member_3, aI cy (ma 16) 36 m_place_3]) := by rw [e16]; exact hD
            refine lv_aload_n hx hb dX10_lost_151 rfl (lv_at hl 3 rfl) ?_
            refine va_get (D := D) (ci := 10) (v := .ref (ma 16)) (C := RX10) (T := TX10) (N := 34) hx hb hts inwX10_lost_X10 hown hK hP 0 rfl rfl 27 (by decide) (hts (.fieldLink RX10 67 "HedgeWaysModel" "place" "[I") (List.mem_of_getElem? (i := 6) rfl)) (fun _ h9 => h9) rfl dX10_lost_152 ?_
            refine lv_iload_n hx hb dX10_lost_155 rfl (lv_at hl 4 rfl) ?_
            refine ctS_i0 (r := (fX10_index p1)) (wc := []) (As := [.int p1]) (rest := [.ref (ma 16)]) X hK hP hD hS [] rfl rfl rfl (KX10_index rfl _) (va_cwS 1 hts gX10_lost_X10_index rfl rfl rfl hdX10_index ⟨Nat.le_of_ble_eq_true rfl, Nat.le_of_ble_eq_true rfl⟩) rfl hl rfl (Nat.le_of_ble_eq_true rfl) dX10_lost_156 (Nat.zero_le _) (Nat.zero_le _) (fun H locs hP hS => ?_)
            refine lv_iload hx hb dX10_lost_159 (lv_at hl 2 rfl) ?_
            refine lv_iconst (v := 1) hx hb dX10_lost_161 (by decide) ?_
            refine lv_isub hx hb dX10_lost_162 ?_
            obtain ⟨i17, hf⟩ := qob_gd hf
            refine va_iast hx hb hK hP hD hS 9 0 rfl rfl i17 dX10_lost_163 (fun H locs hP hD hS => ?_)
            have hP : va_P D vwCl ([oX10 mo ma 0 m_textSize m_rows m_columns m_a m_b m_readRows m_readColumns m_at m_looks m_came m_draw m_turnedRows m_turnedColumns, aZ cy (ma 1) 36 m_right, aZ cy (ma 2) 36 m_down, aI cy (ma 7) 36 m_dist_2, aI cy (ma 8) 36 m_queue_2, aZ cy (ma 10) 36 m_shut, aI cy (ma 11) 36 m_parts_2, aJ cy (ma 14) 256 m_matrix, aI cy (ma 15) 36 m_member_3, aI cy (ma 16) 36 (upd m_place_3 ((fX10_index p1)).toNatClampNeg (r_2 - 1))]) H := hP
            have hD : va_D A ([oX10 mo ma 0 m_textSize m_rows m_columns m_a m_b m_readRows m_readColumns m_at m_looks m_came m_draw m_turnedRows m_turnedColumns, aZ cy (ma 1) 36 m_right, aZ cy (ma 2) 36 m_down, aI cy (ma 7) 36 m_dist_2, aI cy (ma 8) 36 m_queue_2, aZ cy (ma 10) 36 m_shut, aI cy (ma 11) 36 m_parts_2, aJ cy (ma 14) 256 m_matrix, aI cy (ma 15) 36 m_member_3, aI cy (ma 16) 36 (upd m_place_3 ((fX10_index p1)).toNatClampNeg (r_2 - 1))]) := hD
            refine lv_aload_n hx hb dX10_lost_164 rfl (lv_at hl 3 rfl) ?_
            refine lv_iload hx hb dX10_lost_165 (lv_at hl 2 rfl) ?_
            obtain ⟨m_matrix_1, q18, hf⟩ := qcall1 hf
            refine ctV_v (wc := [oX10 mo ma 0 m_textSize m_rows m_columns m_a m_b m_readRows m_readColumns m_at m_looks m_came m_draw m_turnedRows m_turnedColumns, aZ cy (ma 1) 36 m_right, aZ cy (ma 2) 36 m_down, aJ cy (ma 14) 256 m_matrix, aI cy (ma 15) 36 m_member_3, aI cy (ma 16) 36 (upd m_place_3 ((fX10_index p1)).toNatClampNeg (r_2 - 1))]) (w1 := [oX10 mo ma 0 m_textSize m_rows m_columns m_a m_b m_readRows m_readColumns m_at m_looks m_came m_draw m_turnedRows m_turnedColumns, aZ cy (ma 1) 36 m_right, aZ cy (ma 2) 36 m_down, aJ cy (ma 14) 256 m_matrix_1, aI cy (ma 15) 36 m_member_3, aI cy (ma 16) 36 (upd m_place_3 ((fX10_index p1)).toNatClampNeg (r_2 - 1))]) (wr := [aI cy (ma 7) 36 m_dist_2, aI cy (ma 8) 36 m_queue_2, aZ cy (ma 10) 36 m_shut, aI cy (ma 11) 36 m_parts_2]) (wn := [oX10 mo ma 0 m_textSize m_rows m_columns m_a m_b m_readRows m_readColumns m_at m_looks m_came m_draw m_turnedRows m_turnedColumns, aZ cy (ma 1) 36 m_right, aZ cy (ma 2) 36 m_down, aI cy (ma 7) 36 m_dist_2, aI cy (ma 8) 36 m_queue_2, aZ cy (ma 10) 36 m_shut, aI cy (ma 11) 36 m_parts_2, aJ cy (ma 14) 256 m_matrix_1, aI cy (ma 15) 36 m_member_3, aI cy (ma 16) 36 (upd m_place_3 ((fX10_index p1)).toNatClampNeg (r_2 - 1))]) (As := [.int r_2]) (rest := []) (q0 := 0) X hK hP hD hS [0, 1, 2, 7, 8, 9] [3, 4, 5, 6] [4, 5, 6, 0, 1, 2, 3, 7, 8, 9] rfl rfl rfl rfl rfl (by decide) rfl rfl rfl (KX10_layMatrix q18 _) (cwV 1 hts gX10_lost_X10_layMatrix rfl rfl rfl hdX10_layMatrix ⟨Nat.le_of_ble_eq_true rfl, Nat.le_of_ble_eq_true rfl⟩) rfl rfl rfl hl rfl (Nat.le_of_ble_eq_true rfl) dX10_lost_167 (Nat.zero_le _) (Nat.zero_le _) (fun H locs hP hD hS => ?_)
            refine lv_aload_n hx hb dX10_lost_170 rfl (lv_at hl 3 rfl) ?_
            refine lv_iload hx hb dX10_lost_171 (lv_at hl 2 rfl) ?_
            obtain ⟨m_matrix_2, q19, hf⟩ := qcall1 hf
            refine ctV_v (wc := [oX10 mo ma 0 m_textSize m_rows m_columns m_a m_b m_readRows m_readColumns m_at m_looks m_came m_draw m_turnedRows m_turnedColumns, aJ cy (ma 14) 256 m_matrix_1]) (w1 := [oX10 mo ma 0 m_textSize m_rows m_columns m_a m_b m_readRows m_readColumns m_at m_looks m_came m_draw m_turnedRows m_turnedColumns, aJ cy (ma 14) 256 m_matrix_2]) (wr := [aZ cy (ma 1) 36 m_right, aZ cy (ma 2) 36 m_down, aI cy (ma 7) 36 m_dist_2, aI cy (ma 8) 36 m_queue_2, aZ cy (ma 10) 36 m_shut, aI cy (ma 11) 36 m_parts_2, aI cy (ma 15) 36 m_member_3, aI cy (ma 16) 36 (upd m_place_3 ((fX10_index p1)).toNatClampNeg (r_2 - 1))]) (wn := [oX10 mo ma 0 m_textSize m_rows m_columns m_a m_b m_readRows m_readColumns m_at m_looks m_came m_draw m_turnedRows m_turnedColumns, aZ cy (ma 1) 36 m_right, aZ cy (ma 2) 36 m_down, aI cy (ma 7) 36 m_dist_2, aI cy (ma 8) 36 m_queue_2, aZ cy (ma 10) 36 m_shut, aI cy (ma 11) 36 m_parts_2, aJ cy (ma 14) 256 m_matrix_2, aI cy (ma 15) 36 m_member_3, aI cy (ma 16) 36 (upd m_place_3 ((fX10_index p1)).toNatClampNeg (r_2 - 1))]) (As := [.int r_2]) (rest := []) (q0 := 0) X hK hP hD hS [0, 7] [1, 2, 3, 4, 5, 6, 8, 9] [8, 0, 1, 2, 3, 4, 5, 9, 6, 7] rfl rfl rfl rfl rfl (by decide) rfl rfl rfl (KX10_reduce q19 _) (cwV 1 hts gX10_lost_X10_reduce rfl rfl rfl hdX10_reduce ⟨Nat.le_of_ble_eq_true rfl, Nat.le_of_ble_eq_true rfl⟩) rfl rfl rfl hl rfl (Nat.le_of_ble_eq_true rfl) dX10_lost_173 (Nat.zero_le _) (Nat.zero_le _) (fun H locs hP hD hS => ?_)
            refine lv_aload_n hx hb dX10_lost_176 rfl (lv_at hl 3 rfl) ?_
            refine va_get (D := D) (ci := 10) (v := .ref (ma 14)) (C := RX10) (T := TX10) (N := 34) hx hb hts inwX10_lost_X10 hown hK hP 0 rfl rfl 25 (by decide) (hts (.fieldLink RX10 61 "HedgeWaysModel" "matrix" "[J") (List.mem_of_getElem? (i := 7) rfl)) (fun _ h9 => h9) rfl dX10_lost_177 ?_
            refine lv_bipush (v := 16) hx hb dX10_lost_180 (by decide) ?_
            refine lv_iload hx hb dX10_lost_182 (lv_at hl 2 rfl) ?_
            refine lv_iconst (v := 1) hx hb dX10_lost_184 (by decide) ?_
            refine lv_isub hx hb dX10_lost_185 ?_
            refine lv_imul hx hb dX10_lost_186 ?_
            refine lv_iload hx hb dX10_lost_187 (lv_at hl 2 rfl) ?_
            refine lv_iadd hx hb dX10_lost_189 ?_
            obtain ⟨i20, hf⟩ := qob_gd hf
            refine va_lald hx hb hK hP 7 1 rfl rfl i20 dX10_lost_190 ?_
            refine lv_topl (fun x7_1 e21 => ?_)
            have hf := qob_bd hf e21
            refine lv_lstore (lv' := [(7, .long x7_1), (6, .int (m_place_2 ((fX10_index p1)).toNatClampNeg)), (5, .int (m_member_2 ((r_2 - 1)).toNatClampNeg)), (4, .int r_2), (0, .ref mo), (1, .int p1), (2, .int p2), (3, .int p3)]) hx hb dX10_lost_191 hl (by decide) rfl (fun ls hl => ?_)
            refine lv_aload_n hx hb dX10_lost_193 rfl (lv_at hl 4 rfl) ?_
            refine va_get (D := D) (ci := 10) (v := .ref (ma 14)) (C := RX10) (T := TX10) (N := 34) hx hb hts inwX10_lost_X10 hown hK hP 0 rfl rfl 25 (by decide) (hts (.fieldLink RX10 61 "HedgeWaysModel" "matrix" "[J") (List.mem_of_getElem? (i := 7) rfl)) (fun _ h9 => h9) rfl dX10_lost_194 ?_
            refine lv_bipush (v := 16) hx hb dX10_lost_197 (by decide) ?_
            refine lv_iload hx hb dX10_lost_199 (lv_at hl 3 rfl) ?_
            refine lv_iconst (v := 1) hx hb dX10_lost_201 (by decide) ?_
            refine lv_isub hx hb dX10_lost_202 ?_
            refine lv_imul hx hb dX10_lost_203 ?_
            refine lv_iload hx hb dX10_lost_204 (lv_at hl 3 rfl) ?_
            refine lv_iadd hx hb dX10_lost_206 ?_
            refine lv_iconst (v := 1) hx hb dX10_lost_207 (by decide) ?_
            refine lv_isub hx hb dX10_lost_208 ?_
            obtain ⟨i22, hf⟩ := qob_gd hf
            refine va_lald hx hb hK hP 7 1 rfl rfl i22 dX10_lost_209 ?_
            refine lv_topl (fun x9_1 e23 => ?_)
            have hf := qob_bd hf e23
            refine lv_lstore (lv' := [(9, .long x9_1), (7, .long x7_1), (6, .int (m_place_2 ((fX10_index p1)).toNatClampNeg)), (5, .int (m_member_2 ((r_2 - 1)).toNatClampNeg)), (4, .int r_2), (0, .ref mo), (1, .int p1), (2, .int p2), (3, .int p3)]) hx hb dX10_lost_210 hl (by decide) rfl (fun ls hl => ?_)
            refine lv_lload hx hb dX10_lost_212 (lv_at hl 1 rfl) ?_
            refine lv_lstore (lv' := [(11, .long x7_1), (9, .long x9_1), (7, .long x7_1), (6, .int (m_place_2 ((fX10_index p1)).toNatClampNeg)), (5, .int (m_member_2 ((r_2 - 1)).toNatClampNeg)), (4, .int r_2), (0, .ref mo), (1, .int p1), (2, .int p2), (3, .int p3)]) hx hb dX10_lost_214 hl (by decide) rfl (fun ls hl => ?_)
            refine lv_lload hx hb dX10_lost_216 (lv_at hl 1 rfl) ?_
            refine lv_lstore (lv' := [(13, .long x9_1), (11, .long x7_1), (9, .long x9_1), (7, .long x7_1), (6, .int (m_place_2 ((fX10_index p1)).toNatClampNeg)), (5, .int (m_member_2 ((r_2 - 1)).toNatClampNeg)), (4, .int r_2), (0, .ref mo), (1, .int p1), (2, .int p2), (3, .int p3)]) hx hb dX10_lost_218 hl (by decide) rfl (fun ls hl => ?_)
            refine qjoin1 hf (fun (x11_1 : Int64) => ∀ (H : Heap) (locs : List Loc) (ls : Array Slot), ctW D A s ([oX10 mo ma 0 m_textSize m_rows m_columns m_a m_b m_readRows m_readColumns m_at m_looks m_came m_draw m_turnedRows m_turnedColumns, aZ cy (ma 1) 36 m_right, aZ cy (ma 2) 36 m_down, aI cy (ma 7) 36 m_dist_2, aI cy (ma 8) 36 m_queue_2, aZ cy (ma 10) 36 m_shut, aI cy (ma 11) 36 m_parts_2, aJ cy (ma 14) 256 m_matrix_2, aI cy (ma 15) 36 m_member_3, aI cy (ma 16) 36 (upd m_place_3 ((fX10_index p1)).toNatClampNeg (r_2 - 1))]) H locs → lv_has ls 17 [(3, .int p3), (7, .long x7_1), (9, .long x9_1), (11, .long x11_1)] → W p l e rmX10_lost s m args below meth c H locs 0 0 Q (F0 m 245 ls [])) ?_ ?_
            · intro x11_1 hf H locs ls ⟨hP, hD, hS⟩ hl
              refine lv_lload hx hb dX10_lost_245 (lv_at hl 3 rfl) ?_
              refine lv_lconst (v := 0) hx hb dX10_lost_247 (by decide) ?_
              refine W.lcmp hx hb dX10_lost_248 ?_
              refine qjoin1 hf (fun (s_1 : Int64) => ∀ (H : Heap) (locs : List Loc) (ls : Array Slot), ctW D A s ([oX10 mo ma 0 m_textSize m_rows m_columns m_a m_b m_readRows m_readColumns m_at m_looks m_came m_draw m_turnedRows m_turnedColumns, aZ cy (ma 1) 36 m_right, aZ cy (ma 2) 36 m_down, aI cy (ma 7) 36 m_dist_2, aI cy (ma 8) 36 m_queue_2, aZ cy (ma 10) 36 m_shut, aI cy (ma 11) 36 m_parts_2, aJ cy (ma 14) 256 m_matrix_2, aI cy (ma 15) 36 m_member_3, aI cy (ma 16) 36 (upd m_place_3 ((fX10_index p1)).toNatClampNeg (r_2 - 1))]) H locs → lv_has ls 17 [(3, .int p3), (7, .long x7_1), (9, .long x9_1)] → W p l e rmX10_lost s m args below meth c H locs 0 0 Q (F0 m 260 ls [.long s_1])) ?_ ?_
              · intro s_1 hf H locs ls ⟨hP, hD, hS⟩ hl
                refine lv_lstore (lv' := [(11, .long s_1), (3, .int p3), (7, .long x7_1), (9, .long x9_1)]) hx hb dX10_lost_260 hl (by decide) rfl (fun ls hl => ?_)
                refine lv_iload_n hx hb dX10_lost_262 rfl (lv_at hl 1 rfl) ?_
                refine lv_if_eq (tgt := 274) hx hb dX10_lost_263 (by decide) (fun c24 => ?_) (fun c24 => ?_)
                · have hf := qob_t hf c24
                  refine lv_lload hx hb dX10_lost_274 (lv_at hl 3 rfl) ?_
                  refine lv_lload hx hb dX10_lost_276 (lv_at hl 0 rfl) ?_
                  obtain ⟨z25, hf⟩ := qob_gl hf
                  refine lv_ldiv hx hb dX10_lost_278 z25 ?_
                  cases qob_ret hf
                  exact ct_lret X hQ hK hP hD hS rfl dX10_lost_279
                · have hf := qob_f hf c24
                  refine lv_lload hx hb dX10_lost_266 (lv_at hl 2 rfl) ?_
                  refine lv_lload hx hb dX10_lost_268 (lv_at hl 0 rfl) ?_
                  obtain ⟨z26, hf⟩ := qob_gl hf
                  refine lv_ldiv hx hb dX10_lost_270 z26 ?_
                  refine lv_goto (tgt := 279) hx hb dX10_lost_271 (by decide) ?_
                  cases qob_ret hf
                  exact ct_lret X hQ hK hP hD hS rfl dX10_lost_279
              · intro J27 hJ27 hf
                refine lv_if_ge (tgt := 258) hx hb dX10_lost_249 (by decide) (fun c28 => ?_) (fun c28 => ?_)
                · have hf := qob_t hf c28
                  refine lv_lload hx hb dX10_lost_258 (lv_at hl 3 rfl) ?_
                  exact hJ27 x11_1 hf _ _ _ ⟨hP, hD, hS⟩ (lv_sub hl [0, 1, 2] rfl)
                · have hf := qob_f hf c28
                  refine lv_lload hx hb dX10_lost_252 (lv_at hl 3 rfl) ?_
                  refine lv_lneg hx hb dX10_lost_254 ?_
                  refine lv_goto (tgt := 260) hx hb dX10_lost_255 (by decide) ?_
                  exact hJ27 (-x11_1) hf _ _ _ ⟨hP, hD, hS⟩ (lv_sub hl [0, 1, 2] rfl)
            · intro J29 hJ29 hf
              refine qwalk2 (fun (x11_2 : Int64) (x13_1 : Int64) => ∀ (H : Heap) (locs : List Loc) (ls : Array Slot), ctW D A s ([oX10 mo ma 0 m_textSize m_rows m_columns m_a m_b m_readRows m_readColumns m_at m_looks m_came m_draw m_turnedRows m_turnedColumns, aZ cy (ma 1) 36 m_right, aZ cy (ma 2) 36 m_down, aI cy (ma 7) 36 m_dist_2, aI cy (ma 8) 36 m_queue_2, aZ cy (ma 10) 36 m_shut, aI cy (ma 11) 36 m_parts_2, aJ cy (ma 14) 256 m_matrix_2, aI cy (ma 15) 36 m_member_3, aI cy (ma 16) 36 (upd m_place_3 ((fX10_index p1)).toNatClampNeg (r_2 - 1))]) H locs → lv_has ls 17 [(3, .int p3), (7, .long x7_1), (9, .long x9_1), (11, .long x11_2), (13, .long x13_1)] → W p l e rmX10_lost s m args below meth c H locs 0 0 Q (F0 m 220 ls [])) ?_ _ x7_1 x9_1 hf _ _ _ ⟨hP, hD, hS⟩ (lv_sub hl [10, 3, 2, 1, 0] rfl)
              intro J30 hL30 x11_2 x13_1 hf H locs ls ⟨hP, hD, hS⟩ hl
              refine lv_lload hx hb dX10_lost_220 (lv_at hl 4 rfl) ?_
              refine lv_lconst (v := 0) hx hb dX10_lost_222 (by decide) ?_
              refine W.lcmp hx hb dX10_lost_223 ?_
              refine lv_if_eq (tgt := 245) hx hb dX10_lost_224 (by decide) (fun c31 => ?_) (fun c31 => ?_)
              · have hf := qob_t hf c31
                have hf := qob_esc hf
                exact hJ29 x11_2 hf _ _ _ ⟨hP, hD, hS⟩ (lv_sub hl [0, 1, 2, 3] rfl)
              · have hf := qob_f hf c31
                refine lv_lload hx hb dX10_lost_227 (lv_at hl 3 rfl) ?_
                refine lv_lload hx hb dX10_lost_229 (lv_at hl 4 rfl) ?_
                obtain ⟨z32, hf⟩ := qob_gl hf
                refine lv_lrem hx hb dX10_lost_231 z32 ?_
                refine lv_lstore (lv' := [(15, .long (qreml x11_2 x13_1)), (3, .int p3), (7, .long x7_1), (9, .long x9_1), (11, .long x11_2), (13, .long x13_1)]) hx hb dX10_lost_232 hl (by decide) rfl (fun ls hl => ?_)
                refine lv_lload hx hb dX10_lost_234 (lv_at hl 5 rfl) ?_
                refine lv_lstore (lv' := [(11, .long x13_1), (15, .long (qreml x11_2 x13_1)), (3, .int p3), (7, .long x7_1), (9, .long x9_1), (13, .long x13_1)]) hx hb dX10_lost_236 hl (by decide) rfl (fun ls hl => ?_)
                refine lv_lload hx hb dX10_lost_238 (lv_at hl 1 rfl) ?_
                refine lv_lstore (lv' := [(13, .long (qreml x11_2 x13_1)), (11, .long x13_1), (15, .long (qreml x11_2 x13_1)), (3, .int p3), (7, .long x7_1), (9, .long x9_1)]) hx hb dX10_lost_240 hl (by decide) rfl (fun ls hl => ?_)
                refine lv_goto (tgt := 220) hx hb dX10_lost_242 (by decide) ?_
                exact hL30 x13_1 (qreml x11_2 x13_1) hf _ _ _ ⟨hP, hD, hS⟩ (lv_sub hl [3, 4, 5, 1, 0] rfl)
          · have hf := qob_t hf c8
            refine lv_iload_n hx hb dX10_lost_74 rfl (lv_at hl 4 rfl) ?_
            refine lv_if_eq (tgt := 82) hx hb dX10_lost_75 (by decide) (fun c33 => ?_) (fun c33 => ?_)
            · have hf := qob_t hf c33
              refine lv_lconst (v := 1) hx hb dX10_lost_82 (by decide) ?_
              cases qob_ret hf
              exact ct_lret X hQ hK hP hD hS rfl dX10_lost_83
            · have hf := qob_f hf c33
              refine lv_lconst (v := 0) hx hb dX10_lost_78 (by decide) ?_
              refine lv_goto (tgt := 83) hx hb dX10_lost_79 (by decide) ?_
              cases qob_ret hf
              exact ct_lret X hQ hK hP hD hS rfl dX10_lost_83
        · have hf := qob_f hf c7
          refine lv_ldc2 hx hb hown (hts (.constantLong RX10 224 (-3)) (List.mem_of_getElem? (i := 4) rfl)) dX10_lost_65 ?_
          cases qob_ret hf
          exact ct_lret X hQ hK hP hD hS rfl dX10_lost_68
    · have hf := qob_t hf c2
      refine lv_ldc2 hx hb hown (hts (.constantLong RX10 201 (-1)) (List.mem_of_getElem? (i := 2) rfl)) dX10_lost_21 ?_
      cases qob_ret hf
      exact ct_lret X hQ hK hP hD hS rfl dX10_lost_24
theorem inwX10_trees_X10 : ∀ w ∈ wsX100, w ∈ wsX10_trees := fun _ h => List.mem_cons_of_mem _ (List.mem_append_right _ h)
abbrev rmX10_trees : Room := { frames := 6, cells := 0, slots := 0, locals := 146 }
theorem hdX10_trees : yX10_trees.cls = RX10 ∧ yX10_trees.cls ≠ "java/lang/invoke/MethodHandle" ∧ yX10_trees.cls ≠ "java/lang/invoke/VarHandle" ∧ (parseMethodDescriptor yX10_trees.desc).map (fun d => d.parameters.length) = some 1 := by decide +kernel
set_option maxHeartbeats 4000000 in
set_option maxRecDepth 100000 in
theorem KX10_trees {l : Launch} {D : va_G} {cy : Nat → ClassId} {mo : Nat} {ma : Nat → Nat} {m_thrown : Int32} {m_textSize : Int32} {m_rows : Int32} {m_columns : Int32} {m_a : Int32} {m_b : Int32} {m_readRows : Int32} {m_readColumns : Int32} {m_at : Int32} {m_looks : Int32} {m_came : Int32} {m_draw : Int64} {m_turnedRows : Int32} {m_turnedColumns : Int32} {m_right : Nat → Int32} {m_down : Nat → Int32} {m_dist : Nat → Int32} {m_queue : Nat → Int32} {m_shut : Nat → Int32} {m_parts : Nat → Int32} {m_matrix : Nat → Int64} {m_member : Nat → Int32} {m_place : Nat → Int32} {p1 : Int32} {r : Int64} {m_thrown' : Int32} {m_dist' : Nat → Int32} {m_queue' : Nat → Int32} {m_parts' : Nat → Int32} {m_matrix' : Nat → Int64} {m_member' : Nat → Int32} {m_place' : Nat → Int32} (hf : fX10_trees m_thrown m_rows m_columns m_right m_down m_dist m_queue m_shut m_parts m_matrix m_member m_place p1 = some (r, m_thrown', m_dist', m_queue', m_parts', m_matrix', m_member', m_place')) : CtL l yX10_trees wsX10_trees rmX10_trees D cy [.ref mo, .int p1] ([oX10 mo ma m_thrown m_textSize m_rows m_columns m_a m_b m_readRows m_readColumns m_at m_looks m_came m_draw m_turnedRows m_turnedColumns, aZ cy (ma 1) 36 m_right, aZ cy (ma 2) 36 m_down, aI cy (ma 7) 36 m_dist, aI cy (ma 8) 36 m_queue, aZ cy (ma 10) 36 m_shut, aI cy (ma 11) 36 m_parts, aJ cy (ma 14) 256 m_matrix, aI cy (ma 15) 36 m_member, aI cy (ma 16) 36 m_place]) ([oX10 mo ma m_thrown' m_textSize m_rows m_columns m_a m_b m_readRows m_readColumns m_at m_looks m_came m_draw m_turnedRows m_turnedColumns, aZ cy (ma 1) 36 m_right, aZ cy (ma 2) 36 m_down, aI cy (ma 7) 36 m_dist', aI cy (ma 8) 36 m_queue', aZ cy (ma 10) 36 m_shut, aI cy (ma 11) 36 m_parts', aJ cy (ma 14) 256 m_matrix', aI cy (ma 15) 36 m_member', aI cy (ma 16) 36 m_place']) r := by
  refine CtL.of (cc := cX10_trees) (maxL := 3) (ret := some .long) (own := RX10) (by decide) rfl rfl (Nat.le_of_ble_eq_true rfl) ?_
  intro p e s m args below meth c A Q X hQ hK hP hD hS ls hl
  obtain ⟨hx, hb, hml, hown, hts, hr, hlocks, hA, hZ⟩ := id X
  have hl : lv_has ls 3 [(0, .ref mo), (1, .int p1)] := hl
  unfold fX10_trees at hf
  have hf := qob_top hf
  refine lv_aload_n hx hb dX10_trees_0 rfl (lv_at hl 0 rfl) ?_
  refine lv_iconst (v := 0) hx hb dX10_trees_1 (by decide) ?_
  refine va_put (D := D) (ci := 10) (v := .int 0) (ty := .int) (C := RX10) (T := TX10) (N := 34) hx hb hts inwX10_trees_X10 tyX10 tyX10_ok nmX10 hown hK hP hD hS 0 rfl rfl 0 (by decide) (hts (.fieldLink RX10 79 "HedgeWaysModel" "thrown" "I") (List.mem_of_getElem? (i := 1) rfl)) (fun _ h9 => h9) rfl (tyX10_ok 0 (by decide)) rfl rfl (Nat.le_of_ble_eq_true rfl) dX10_trees_2 (fun H locs hP hD hS => ?_)
  have hP : va_P D vwCl ([oX10 mo ma 0 m_textSize m_rows m_columns m_a m_b m_readRows m_readColumns m_at m_looks m_came m_draw m_turnedRows m_turnedColumns, aZ cy (ma 1) 36 m_right, aZ cy (ma 2) 36 m_down, aI cy (ma 7) 36 m_dist, aI cy (ma 8) 36 m_queue, aZ cy (ma 10) 36 m_shut, aI cy (ma 11) 36 m_parts, aJ cy (ma 14) 256 m_matrix, aI cy (ma 15) 36 m_member, aI cy (ma 16) 36 m_place]) H := hP
  have hD : va_D A ([oX10 mo ma 0 m_textSize m_rows m_columns m_a m_b m_readRows m_readColumns m_at m_looks m_came m_draw m_turnedRows m_turnedColumns, aZ cy (ma 1) 36 m_right, aZ cy (ma 2) 36 m_down, aI cy (ma 7) 36 m_dist, aI cy (ma 8) 36 m_queue, aZ cy (ma 10) 36 m_shut, aI cy (ma 11) 36 m_parts, aJ cy (ma 14) 256 m_matrix, aI cy (ma 15) 36 m_member, aI cy (ma 16) 36 m_place]) := hD
  refine lv_aload_n hx hb dX10_trees_5 rfl (lv_at hl 0 rfl) ?_
  refine lv_iload_n hx hb dX10_trees_6 rfl (lv_at hl 1 rfl) ?_
  refine ctV_i0 (r := (fX10_isCell m_rows m_columns p1)) (wc := [oX10 mo ma 0 m_textSize m_rows m_columns m_a m_b m_readRows m_readColumns m_at m_looks m_came m_draw m_turnedRows m_turnedColumns]) (As := [.int p1]) (rest := []) (q0 := 0) X hK hP hD hS [0] rfl rfl rfl (KX10_isCell rfl _) (cwV 1 hts gX10_trees_X10_isCell rfl rfl rfl hdX10_isCell ⟨Nat.le_of_ble_eq_true rfl, Nat.le_of_ble_eq_true rfl⟩) rfl rfl rfl hl rfl (Nat.le_of_ble_eq_true rfl) dX10_trees_7 (Nat.zero_le _) (Nat.zero_le _) (fun H locs hP hS => ?_)
  refine lv_if_ne (tgt := 17) hx hb dX10_trees_10 (by decide) (fun c1 => ?_) (fun c1 => ?_)
  · have hf := qob_f hf c1
    refine lv_aload_n hx hb dX10_trees_17 rfl (lv_at hl 0 rfl) ?_
    refine lv_iload_n hx hb dX10_trees_18 rfl (lv_at hl 1 rfl) ?_
    refine ctS_i0 (r := (fX10_index p1)) (wc := []) (As := [.int p1]) (rest := [.ref mo]) X hK hP hD hS [] rfl rfl rfl (KX10_index rfl _) (va_cwS 1 hts gX10_trees_X10_index rfl rfl rfl hdX10_index ⟨Nat.le_of_ble_eq_true rfl, Nat.le_of_ble_eq_true rfl⟩) rfl hl rfl (Nat.le_of_ble_eq_true rfl) dX10_trees_19 (Nat.zero_le _) (Nat.zero_le _) (fun H locs hP hS => ?_)
    refine lv_bipush (v := (-9)) hx hb dX10_trees_22 (by decide) ?_
    obtain ⟨r_1, m_dist_1, m_queue_1, m_parts_1, m_member_1, m_place_1, q2, hf⟩ := qcall6 hf
    refine ctV_i (r := r_1) (wc := [oX10 mo ma 0 m_textSize m_rows m_columns m_a m_b m_readRows m_readColumns m_at m_looks m_came m_draw m_turnedRows m_turnedColumns, aZ cy (ma 1) 36 m_right, aZ cy (ma 2) 36 m_down, aI cy (ma 7) 36 m_dist, aI cy (ma 8) 36 m_queue, aZ cy (ma 10) 36 m_shut, aI cy (ma 11) 36 m_parts, aI cy (ma 15) 36 m_member, aI cy (ma 16) 36 m_place]) (w1 := [oX10 mo ma 0 m_textSize m_rows m_columns m_a m_b m_readRows m_readColumns m_at m_looks m_came m_draw m_turnedRows m_turnedColumns, aZ cy (ma 1) 36 m_right, aZ cy (ma 2) 36 m_down, aI cy (ma 7) 36 m_dist_1, aI cy (ma 8) 36 m_queue_1, aZ cy (ma 10) 36 m_shut, aI cy (ma 11) 36 m_parts_1, aI cy (ma 15) 36 m_member_1, aI cy (ma 16) 36 m_place_1]) (wr := [aJ cy (ma 14) 256 m_matrix]) (wn := [oX10 mo ma 0 m_textSize m_rows m_columns m_a m_b m_readRows m_readColumns m_at m_looks m_came m_draw m_turnedRows m_turnedColumns, aZ cy (ma 1) 36 m_right, aZ cy (ma 2) 36 m_down, aI cy (ma 7) 36 m_dist_1, aI cy (ma 8) 36 m_queue_1, aZ cy (ma 10) 36 m_shut, aI cy (ma 11) 36 m_parts_1, aJ cy (ma 14) 256 m_matrix, aI cy (ma 15) 36 m_member_1, aI cy (ma 16) 36 m_place_1]) (As := [.int (fX10_index p1), .int (-9)]) (rest := []) (q0 := 0) X hK hP hD hS [0, 1, 2, 3, 4, 5, 6, 8, 9] [7] [1, 2, 3, 4, 5, 6, 7, 0, 8, 9] rfl rfl rfl rfl rfl (by decide) rfl rfl rfl (KX10_layMembers q2 _) (cwV 2 hts gX10_trees_X10_layMembers rfl rfl rfl hdX10_layMembers ⟨Nat.le_of_ble_eq_true rfl, Nat.le_of_ble_eq_true rfl⟩) rfl rfl rfl hl rfl (Nat.le_of_ble_eq_true rfl) dX10_trees_24 (Nat.zero_le _) (Nat.zero_le _) (fun H locs hP hD hS => ?_)
    refine lv_istore_n (lv' := [(2, .int r_1), (0, .ref mo), (1, .int p1)]) hx hb dX10_trees_27 rfl hl (by decide) rfl (fun ls hl => ?_)
    refine lv_iload_n hx hb dX10_trees_28 rfl (lv_at hl 0 rfl) ?_
    refine lv_bipush (v := 16) hx hb dX10_trees_29 (by decide) ?_
    refine lv_icmp_le (tgt := 38) hx hb dX10_trees_31 (by decide) (fun c3 => ?_) (fun c3 => ?_)
    · have hf := qob_t hf c3
      refine lv_iload_n hx hb dX10_trees_38 rfl (lv_at hl 0 rfl) ?_
      refine lv_iconst (v := 1) hx hb dX10_trees_39 (by decide) ?_
      refine lv_icmp_ne (tgt := 45) hx hb dX10_trees_40 (by decide) (fun c4 => ?_) (fun c4 => ?_)
      · have hf := qob_f hf c4
        refine lv_aload_n hx hb dX10_trees_45 rfl (lv_at hl 1 rfl) ?_
        refine lv_iload_n hx hb dX10_trees_46 rfl (lv_at hl 2 rfl) ?_
        refine ctS_i0 (r := (fX10_index p1)) (wc := []) (As := [.int p1]) (rest := [.ref mo]) X hK hP hD hS [] rfl rfl rfl (KX10_index rfl _) (va_cwS 1 hts gX10_trees_X10_index rfl rfl rfl hdX10_index ⟨Nat.le_of_ble_eq_true rfl, Nat.le_of_ble_eq_true rfl⟩) rfl hl rfl (Nat.le_of_ble_eq_true rfl) dX10_trees_47 (Nat.zero_le _) (Nat.zero_le _) (fun H locs hP hS => ?_)
        refine lv_iload_n hx hb dX10_trees_50 rfl (lv_at hl 2 rfl) ?_
        refine ctS_i0 (r := (fX10_index p1)) (wc := []) (As := [.int p1]) (rest := [.int (fX10_index p1), .ref mo]) X hK hP hD hS [] rfl rfl rfl (KX10_index rfl _) (va_cwS 1 hts gX10_trees_X10_index rfl rfl rfl hdX10_index ⟨Nat.le_of_ble_eq_true rfl, Nat.le_of_ble_eq_true rfl⟩) rfl hl rfl (Nat.le_of_ble_eq_true rfl) dX10_trees_51 (Nat.zero_le _) (Nat.zero_le _) (fun H locs hP hS => ?_)
        obtain ⟨r_2, m_dist_2, m_queue_2, m_parts_2, m_member_2, m_place_2, q5, hf⟩ := qcall6 hf
        refine ctV_i (r := r_2) (wc := [oX10 mo ma 0 m_textSize m_rows m_columns m_a m_b m_readRows m_readColumns m_at m_looks m_came m_draw m_turnedRows m_turnedColumns, aZ cy (ma 1) 36 m_right, aZ cy (ma 2) 36 m_down, aI cy (ma 7) 36 m_dist_1, aI cy (ma 8) 36 m_queue_1, aZ cy (ma 10) 36 m_shut, aI cy (ma 11) 36 m_parts_1, aI cy (ma 15) 36 m_member_1, aI cy (ma 16) 36 m_place_1]) (w1 := [oX10 mo ma 0 m_textSize m_rows m_columns m_a m_b m_readRows m_readColumns m_at m_looks m_came m_draw m_turnedRows m_turnedColumns, aZ cy (ma 1) 36 m_right, aZ cy (ma 2) 36 m_down, aI cy (ma 7) 36 m_dist_2, aI cy (ma 8) 36 m_queue_2, aZ cy (ma 10) 36 m_shut, aI cy (ma 11) 36 m_parts_2, aI cy (ma 15) 36 m_member_2, aI cy (ma 16) 36 m_place_2]) (wr := [aJ cy (ma 14) 256 m_matrix]) (wn := [oX10 mo ma 0 m_textSize m_rows m_columns m_a m_b m_readRows m_readColumns m_at m_looks m_came m_draw m_turnedRows m_turnedColumns, aZ cy (ma 1) 36 m_right, aZ cy (ma 2) 36 m_down, aI cy (ma 7) 36 m_dist_2, aI cy (ma 8) 36 m_queue_2, aZ cy (ma 10) 36 m_shut, aI cy (ma 11) 36 m_parts_2, aJ cy (ma 14) 256 m_matrix, aI cy (ma 15) 36 m_member_2, aI cy (ma 16) 36 m_place_2]) (As := [.int (fX10_index p1), .int (fX10_index p1)]) (rest := []) (q0 := 0) X hK hP hD hS [0, 1, 2, 3, 4, 5, 6, 8, 9] [7] [1, 2, 3, 4, 5, 6, 7, 0, 8, 9] rfl rfl rfl rfl rfl (by decide) rfl rfl rfl (KX10_layMembers q5 _) (cwV 2 hts gX10_trees_X10_layMembers rfl rfl rfl hdX10_layMembers ⟨Nat.le_of_ble_eq_true rfl, Nat.le_of_ble_eq_true rfl⟩) rfl rfl rfl hl rfl (Nat.le_of_ble_eq_true rfl) dX10_trees_54 (Nat.zero_le _) (Nat.zero_le _) (fun H locs hP hD hS => ?_)
        refine lv_istore_n (lv' := [(2, .int r_2), (0, .ref mo), (1, .int p1)]) hx hb dX10_trees_57 rfl hl (by decide) rfl (fun ls hl => ?_)
        refine lv_aload_n hx hb dX10_trees_58 rfl (lv_at hl 1 rfl) ?_
        refine lv_iload_n hx hb dX10_trees_59 rfl (lv_at hl 0 rfl) ?_
        obtain ⟨m_matrix_1, q6, hf⟩ := qcall1 hf
        refine ctV_v (wc := [oX10 mo ma 0 m_textSize m_rows m_columns m_a m_b m_readRows m_readColumns m_at m_looks m_came m_draw m_turnedRows m_turnedColumns, aZ cy (ma 1) 36 m_right, aZ cy (ma 2) 36 m_down, aJ cy (ma 14) 256 m_matrix, aI cy (ma 15) 36 m_member_2, aI cy (ma 16) 36 m_place_2]) (w1 := [oX10 mo ma 0 m_textSize m_rows m_columns m_a m_b m_readRows m_readColumns m_at m_looks m_came m_draw m_turnedRows m_turnedColumns, aZ cy (ma 1) 36 m_right, aZ cy (ma 2) 36 m_down, aJ cy (ma 14) 256 m_matrix_1, aI cy (ma 15) 36 m_member_2, aI cy (ma 16) 36 m_place_2]) (wr := [aI cy (ma 7) 36 m_dist_2, aI cy (ma 8) 36 m_queue_2, aZ cy (ma 10) 36 m_shut, aI cy (ma 11) 36 m_parts_2]) (wn := [oX10 mo ma 0 m_textSize m_rows m_columns m_a m_b m_readRows m_readColumns m_at m_looks m_came m_draw m_turnedRows m_turnedColumns, aZ cy (ma 1) 36 m_right, aZ cy (ma 2) 36 m_down, aI cy (ma 7) 36 m_dist_2, aI cy (ma 8) 36 m_queue_2, aZ cy (ma 10) 36 m_shut, aI cy (ma 11) 36 m_parts_2, aJ cy (ma 14) 256 m_matrix_1, aI cy (ma 15) 36 m_member_2, aI cy (ma 16) 36 m_place_2]) (As := [.int r_2]) (rest := []) (q0 := 0) X hK hP hD hS [0, 1, 2, 7, 8, 9] [3, 4, 5, 6] [4, 5, 6, 0, 1, 2, 3, 7, 8, 9] rfl rfl rfl rfl rfl (by decide) rfl rfl rfl (KX10_layMatrix q6 _) (cwV 1 hts gX10_trees_X10_layMatrix rfl rfl rfl hdX10_layMatrix ⟨Nat.le_of_ble_eq_true rfl, Nat.le_of_ble_eq_true rfl⟩) rfl rfl rfl hl rfl (Nat.le_of_ble_eq_true rfl) dX10_trees_60 (Nat.zero_le _) (Nat.zero_le _) (fun H locs hP hD hS => ?_)
        refine lv_aload_n hx hb dX10_trees_63 rfl (lv_at hl 1 rfl) ?_
        refine lv_iload_n hx hb dX10_trees_64 rfl (lv_at hl 0 rfl) ?_
        obtain ⟨m_matrix_2, q7, hf⟩ := qcall1 hf
        refine ctV_v (wc := [oX10 mo ma 0 m_textSize m_rows m_columns m_a m_b m_readRows m_readColumns m_at m_looks m_came m_draw m_turnedRows m_turnedColumns, aJ cy (ma 14) 256 m_matrix_1]) (w1 := [oX10 mo ma 0 m_textSize m_rows m_columns m_a m_b m_readRows m_readColumns m_at m_looks m_came m_draw m_turnedRows m_turnedColumns, aJ cy (ma 14) 256 m_matrix_2]) (wr := [aZ cy (ma 1) 36 m_right, aZ cy (ma 2) 36 m_down, aI cy (ma 7) 36 m_dist_2, aI cy (ma 8) 36 m_queue_2, aZ cy (ma 10) 36 m_shut, aI cy (ma 11) 36 m_parts_2, aI cy (ma 15) 36 m_member_2, aI cy (ma 16) 36 m_place_2]) (wn := [oX10 mo ma 0 m_textSize m_rows m_columns m_a m_b m_readRows m_readColumns m_at m_looks m_came m_draw m_turnedRows m_turnedColumns, aZ cy (ma 1) 36 m_right, aZ cy (ma 2) 36 m_down, aI cy (ma 7) 36 m_dist_2, aI cy (ma 8) 36 m_queue_2, aZ cy (ma 10) 36 m_shut, aI cy (ma 11) 36 m_parts_2, aJ cy (ma 14) 256 m_matrix_2, aI cy (ma 15) 36 m_member_2, aI cy (ma 16) 36 m_place_2]) (As := [.int r_2]) (rest := []) (q0 := 0) X hK hP hD hS [0, 7] [1, 2, 3, 4, 5, 6, 8, 9] [8, 0, 1, 2, 3, 4, 5, 9, 6, 7] rfl rfl rfl rfl rfl (by decide) rfl rfl rfl (KX10_reduce q7 _) (cwV 1 hts gX10_trees_X10_reduce rfl rfl rfl hdX10_reduce ⟨Nat.le_of_ble_eq_true rfl, Nat.le_of_ble_eq_true rfl⟩) rfl rfl rfl hl rfl (Nat.le_of_ble_eq_true rfl) dX10_trees_65 (Nat.zero_le _) (Nat.zero_le _) (fun H locs hP hD hS => ?_)
        refine lv_aload_n hx hb dX10_trees_68 rfl (lv_at hl 1 rfl) ?_
        refine va_get (D := D) (ci := 10) (v := .ref (ma 14)) (C := RX10) (T := TX10) (N := 34) hx hb hts inwX10_trees_X10 hown hK hP 0 rfl rfl 25 (by decide) (hts (.fieldLink RX10 61 "HedgeWaysModel" "matrix" "[J") (List.mem_of_getElem? (i := 4) rfl)) (fun _ h9 => h9) rfl dX10_trees_69 ?_
        refine lv_bipush (v := 16) hx hb dX10_trees_72 (by decide) ?_
        refine lv_iload_n hx hb dX10_trees_74 rfl (lv_at hl 0 rfl) ?_
        refine lv_iconst (v := 1) hx hb dX10_trees_75 (by decide) ?_
        refine lv_isub hx hb dX10_trees_76 ?_
        refine lv_imul hx hb dX10_trees_77 ?_
        refine lv_iload_n hx hb dX10_trees_78 rfl (lv_at hl 0 rfl) ?_
        refine lv_iadd hx hb dX10_trees_79 ?_
        refine lv_iconst (v := 1) hx hb dX10_trees_80 (by decide) ?_
        refine lv_isub hx hb dX10_trees_81 ?_
        obtain ⟨i8, hf⟩ := qob_gd hf
        refine va_lald hx hb hK hP 7 1 rfl rfl i8 dX10_trees_82 ?_
        cases qob_ret hf
        exact ct_lret X hQ hK hP hD hS rfl dX10_trees_83
      · have hf := qob_t hf c4
        refine lv_lconst (v := 1) hx hb dX10_trees_43 (by decide) ?_
        cases qob_ret hf
        exact ct_lret X hQ hK hP hD hS rfl dX10_trees_44
    · have hf := qob_f hf c3
      refine lv_ldc2 hx hb hown (hts (.constantLong RX10 224 (-3)) (List.mem_of_getElem? (i := 3) rfl)) dX10_trees_34 ?_
      cases qob_ret hf
      exact ct_lret X hQ hK hP hD hS rfl dX10_trees_37
  · have hf := qob_t hf c1
    refine lv_ldc2 hx hb hown (hts (.constantLong RX10 201 (-1)) (List.mem_of_getElem? (i := 2) rfl)) dX10_trees_13 ?_
    cases qob_ret hf
    exact ct_lret X hQ hK hP hD hS rfl dX10_trees_16
theorem inwX10_breaks_X10 : ∀ w ∈ wsX100, w ∈ wsX10_breaks := fun _ h => List.mem_cons_of_mem _ (List.mem_append_right _ h)
abbrev rmX10_breaks : Room := { frames := 3, cells := 0, slots := 0, locals := 72 }
theorem hdX10_breaks : yX10_breaks.cls = RX10 ∧ yX10_breaks.cls ≠ "java/lang/invoke/MethodHandle" ∧ yX10_breaks.cls ≠ "java/lang/invoke/VarHandle" ∧ (parseMethodDescriptor yX10_breaks.desc).map (fun d => d.parameters.length) = some 2 := by decide +kernel
set_option maxHeartbeats 4000000 in
set_option maxRecDepth 100000 in
theorem KX10_breaks {l : Launch} {D : va_G} {cy : Nat → ClassId} {mo : Nat} {ma : Nat → Nat} {m_thrown : Int32} {m_textSize : Int32} {m_rows : Int32} {m_columns : Int32} {m_a : Int32} {m_b : Int32} {m_readRows : Int32} {m_readColumns : Int32} {m_at : Int32} {m_looks : Int32} {m_came : Int32} {m_draw : Int64} {m_turnedRows : Int32} {m_turnedColumns : Int32} {m_right : Nat → Int32} {m_down : Nat → Int32} {m_dist : Nat → Int32} {p1 : Int32} {p2 : Int32} {r : Int32} {m_thrown' : Int32} {m_dist' : Nat → Int32} (hf : fX10_breaks m_thrown m_rows m_columns m_right m_down m_dist p1 p2 = some (r, m_thrown', m_dist')) : CtI l yX10_breaks wsX10_breaks rmX10_breaks D cy [.ref mo, .int p1, .int p2] ([oX10 mo ma m_thrown m_textSize m_rows m_columns m_a m_b m_readRows m_readColumns m_at m_looks m_came m_draw m_turnedRows m_turnedColumns, aZ cy (ma 1) 36 m_right, aZ cy (ma 2) 36 m_down, aI cy (ma 7) 36 m_dist]) ([oX10 mo ma m_thrown' m_textSize m_rows m_columns m_a m_b m_readRows m_readColumns m_at m_looks m_came m_draw m_turnedRows m_turnedColumns, aZ cy (ma 1) 36 m_right, aZ cy (ma 2) 36 m_down, aI cy (ma 7) 36 m_dist']) r := by
  refine CtI.of (cc := cX10_breaks) (maxL := 8) (ret := some .int) (own := RX10) (by decide) rfl rfl (Nat.le_of_ble_eq_true rfl) ?_
  intro p e s m args below meth c A Q X hQ hK hP hD hS ls hl
  obtain ⟨hx, hb, hml, hown, hts, hr, hlocks, hA, hZ⟩ := id X
  have hl : lv_has ls 8 [(0, .ref mo), (1, .int p1), (2, .int p2)] := hl
  unfold fX10_breaks at hf
  have hf := qob_top hf
  refine lv_aload_n hx hb dX10_breaks_0 rfl (lv_at hl 0 rfl) ?_
  refine lv_iconst (v := 0) hx hb dX10_breaks_1 (by decide) ?_
  refine va_put (D := D) (ci := 10) (v := .int 0) (ty := .int) (C := RX10) (T := TX10) (N := 34) hx hb hts inwX10_breaks_X10 tyX10 tyX10_ok nmX10 hown hK hP hD hS 0 rfl rfl 0 (by decide) (hts (.fieldLink RX10 79 "HedgeWaysModel" "thrown" "I") (List.mem_of_getElem? (i := 1) rfl)) (fun _ h9 => h9) rfl (tyX10_ok 0 (by decide)) rfl rfl (Nat.le_of_ble_eq_true rfl) dX10_breaks_2 (fun H locs hP hD hS => ?_)
  have hP : va_P D vwCl ([oX10 mo ma 0 m_textSize m_rows m_columns m_a m_b m_readRows m_readColumns m_at m_looks m_came m_draw m_turnedRows m_turnedColumns, aZ cy (ma 1) 36 m_right, aZ cy (ma 2) 36 m_down, aI cy (ma 7) 36 m_dist]) H := hP
  have hD : va_D A ([oX10 mo ma 0 m_textSize m_rows m_columns m_a m_b m_readRows m_readColumns m_at m_looks m_came m_draw m_turnedRows m_turnedColumns, aZ cy (ma 1) 36 m_right, aZ cy (ma 2) 36 m_down, aI cy (ma 7) 36 m_dist]) := hD
  refine lv_aload_n hx hb dX10_breaks_5 rfl (lv_at hl 0 rfl) ?_
  refine lv_iload_n hx hb dX10_breaks_6 rfl (lv_at hl 1 rfl) ?_
  refine ctV_i0 (r := (fX10_isCell m_rows m_columns p1)) (wc := [oX10 mo ma 0 m_textSize m_rows m_columns m_a m_b m_readRows m_readColumns m_at m_looks m_came m_draw m_turnedRows m_turnedColumns]) (As := [.int p1]) (rest := []) (q0 := 0) X hK hP hD hS [0] rfl rfl rfl (KX10_isCell rfl _) (cwV 1 hts gX10_breaks_X10_isCell rfl rfl rfl hdX10_isCell ⟨Nat.le_of_ble_eq_true rfl, Nat.le_of_ble_eq_true rfl⟩) rfl rfl rfl hl rfl (Nat.le_of_ble_eq_true rfl) dX10_breaks_7 (Nat.zero_le _) (Nat.zero_le _) (fun H locs hP hS => ?_)
  refine lv_if_eq (tgt := 21) hx hb dX10_breaks_10 (by decide) (fun c1 => ?_) (fun c1 => ?_)
  · have hf := qob_t hf c1
    refine lv_iconst (v := (-1)) hx hb dX10_breaks_21 (by decide) ?_
    cases qob_ret hf
    exact ct_iret X hQ hK hP hD hS rfl dX10_breaks_22
  · have hf := qob_f hf c1
    refine lv_aload_n hx hb dX10_breaks_13 rfl (lv_at hl 0 rfl) ?_
    refine lv_iload_n hx hb dX10_breaks_14 rfl (lv_at hl 2 rfl) ?_
    refine ctV_i0 (r := (fX10_isCell m_rows m_columns p2)) (wc := [oX10 mo ma 0 m_textSize m_rows m_columns m_a m_b m_readRows m_readColumns m_at m_looks m_came m_draw m_turnedRows m_turnedColumns]) (As := [.int p2]) (rest := []) (q0 := 0) X hK hP hD hS [0] rfl rfl rfl (KX10_isCell rfl _) (cwV 1 hts gX10_breaks_X10_isCell rfl rfl rfl hdX10_isCell ⟨Nat.le_of_ble_eq_true rfl, Nat.le_of_ble_eq_true rfl⟩) rfl rfl rfl hl rfl (Nat.le_of_ble_eq_true rfl) dX10_breaks_15 (Nat.zero_le _) (Nat.zero_le _) (fun H locs hP hS => ?_)
    refine lv_if_ne (tgt := 23) hx hb dX10_breaks_18 (by decide) (fun c2 => ?_) (fun c2 => ?_)
    · have hf := qob_f hf c2
      refine lv_iconst (v := 0) hx hb dX10_breaks_23 (by decide) ?_
      refine lv_istore_n (lv' := [(3, .int 0), (0, .ref mo), (1, .int p1), (2, .int p2)]) hx hb dX10_breaks_24 rfl hl (by decide) rfl (fun ls hl => ?_)
      refine qjoin1 hf (fun (m_dist_1 : Nat → Int32) => ∀ (H : Heap) (locs : List Loc) (ls : Array Slot), ctW D A s ([oX10 mo ma 0 m_textSize m_rows m_columns m_a m_b m_readRows m_readColumns m_at m_looks m_came m_draw m_turnedRows m_turnedColumns, aZ cy (ma 1) 36 m_right, aZ cy (ma 2) 36 m_down, aI cy (ma 7) 36 m_dist_1]) H locs → lv_has ls 8 [(0, .ref mo), (2, .int p2)] → W p l e rmX10_breaks s m args below meth c H locs 0 0 Q (F0 m 58 ls [])) ?_ ?_
      · intro m_dist_1 hf H locs ls ⟨hP, hD, hS⟩ hl
        refine lv_iconst (v := 0) hx hb dX10_breaks_58 (by decide) ?_
        refine lv_istore_n (lv' := [(3, .int 0), (0, .ref mo), (2, .int p2)]) hx hb dX10_breaks_59 rfl hl (by decide) rfl (fun ls hl => ?_)
        refine qjoin1 hf (fun (m_dist_2 : Nat → Int32) => ∀ (H : Heap) (locs : List Loc) (ls : Array Slot), ctW D A s ([oX10 mo ma 0 m_textSize m_rows m_columns m_a m_b m_readRows m_readColumns m_at m_looks m_came m_draw m_turnedRows m_turnedColumns, aZ cy (ma 1) 36 m_right, aZ cy (ma 2) 36 m_down, aI cy (ma 7) 36 m_dist_2]) H locs → lv_has ls 8 [(0, .ref mo), (2, .int p2)] → W p l e rmX10_breaks s m args below meth c H locs 0 0 Q (F0 m 189 ls [])) ?_ ?_
        · intro m_dist_2 hf H locs ls ⟨hP, hD, hS⟩ hl
          refine lv_aload_n hx hb dX10_breaks_189 rfl (lv_at hl 0 rfl) ?_
          refine va_get (D := D) (ci := 10) (v := .ref (ma 7)) (C := RX10) (T := TX10) (N := 34) hx hb hts inwX10_breaks_X10 hown hK hP 0 rfl rfl 15 (by decide) (hts (.fieldLink RX10 39 "HedgeWaysModel" "dist" "[I") (List.mem_of_getElem? (i := 2) rfl)) (fun _ h9 => h9) rfl dX10_breaks_190 ?_
          refine lv_iload_n hx hb dX10_breaks_193 rfl (lv_at hl 1 rfl) ?_
          refine ctS_i0 (r := (fX10_index p2)) (wc := []) (As := [.int p2]) (rest := [.ref (ma 7)]) X hK hP hD hS [] rfl rfl rfl (KX10_index rfl _) (va_cwS 1 hts gX10_breaks_X10_index rfl rfl rfl hdX10_index ⟨Nat.le_of_ble_eq_true rfl, Nat.le_of_ble_eq_true rfl⟩) rfl hl rfl (Nat.le_of_ble_eq_true rfl) dX10_breaks_194 (Nat.zero_le _) (Nat.zero_le _) (fun H locs hP hS => ?_)
          obtain ⟨i3, hf⟩ := qob_gd hf
          refine va_iald hx hb hK hP 3 0 rfl rfl i3 dX10_breaks_197 ?_
          cases qob_ret hf
          exact ct_iret X hQ hK hP hD hS rfl dX10_breaks_198
        · intro J4 hJ4 hf
          refine qwalk2 (fun (x3_1 : Int32) (m_dist_3 : Nat → Int32) => ∀ (H : Heap) (locs : List Loc) (ls : Array Slot), ctW D A s ([oX10 mo ma 0 m_textSize m_rows m_columns m_a m_b m_readRows m_readColumns m_at m_looks m_came m_draw m_turnedRows m_turnedColumns, aZ cy (ma 1) 36 m_right, aZ cy (ma 2) 36 m_down, aI cy (ma 7) 36 m_dist_3]) H locs → lv_has ls 8 [(0, .ref mo), (2, .int p2), (3, .int x3_1)] → W p l e rmX10_breaks s m args below meth c H locs 0 0 Q (F0 m 60 ls [])) ?_ _ (0 : Int32) m_dist_1 hf _ _ _ ⟨hP, hD, hS⟩ (lv_sub hl [1, 2, 0] rfl)
          intro J5 hL5 x3_1 m_dist_3 hf H locs ls ⟨hP, hD, hS⟩ hl
          refine lv_iload_n hx hb dX10_breaks_60 rfl (lv_at hl 2 rfl) ?_
          refine lv_bipush (v := 36) hx hb dX10_breaks_61 (by decide) ?_
          refine lv_icmp_ge (tgt := 189) hx hb dX10_breaks_63 (by decide) (fun c6 => ?_) (fun c6 => ?_)
          · have hf := qob_t hf c6
            have hf := qob_esc hf
            exact hJ4 m_dist_3 hf _ _ _ ⟨hP, hD, hS⟩ (lv_sub hl [0, 1] rfl)
          · have hf := qob_f hf c6
            refine lv_iconst (v := 0) hx hb dX10_breaks_66 (by decide) ?_
            refine lv_istore (lv' := [(4, .int 0), (0, .ref mo), (2, .int p2), (3, .int x3_1)]) hx hb dX10_breaks_67 hl (by decide) rfl (fun ls hl => ?_)
            refine qjoin1 hf (fun (m_dist_4 : Nat → Int32) => ∀ (H : Heap) (locs : List Loc) (ls : Array Slot), ctW D A s ([oX10 mo ma 0 m_textSize m_rows m_columns m_a m_b m_readRows m_readColumns m_at m_looks m_came m_draw m_turnedRows m_turnedColumns, aZ cy (ma 1) 36 m_right, aZ cy (ma 2) 36 m_down, aI cy (ma 7) 36 m_dist_4]) H locs → lv_has ls 8 [(0, .ref mo), (2, .int p2), (3, .int x3_1)] → W p l e rmX10_breaks s m args below meth c H locs 0 0 Q (F0 m 183 ls [])) ?_ ?_
            · intro m_dist_4 hf H locs ls ⟨hP, hD, hS⟩ hl
              refine lv_iinc (v := (x3_1 + 1)) (lv' := [(3, .int (x3_1 + 1)), (0, .ref mo), (2, .int p2)]) hx hb dX10_breaks_183 hl (k := 2) rfl rfl (by decide) rfl (fun ls hl => ?_)
              refine lv_goto (tgt := 60) hx hb dX10_breaks_186 (by decide) ?_
              exact hL5 (x3_1 + 1) m_dist_4 hf _ _ _ ⟨hP, hD, hS⟩ (lv_sub hl [1, 2, 0] rfl)
            · intro J7 hJ7 hf
              refine qwalk2 (fun (x4_1 : Int32) (m_dist_5 : Nat → Int32) => ∀ (H : Heap) (locs : List Loc) (ls : Array Slot), ctW D A s ([oX10 mo ma 0 m_textSize m_rows m_columns m_a m_b m_readRows m_readColumns m_at m_looks m_came m_draw m_turnedRows m_turnedColumns, aZ cy (ma 1) 36 m_right, aZ cy (ma 2) 36 m_down, aI cy (ma 7) 36 m_dist_5]) H locs → lv_has ls 8 [(0, .ref mo), (2, .int p2), (3, .int x3_1), (4, .int x4_1)] → W p l e rmX10_breaks s m args below meth c H locs 0 0 Q (F0 m 69 ls [])) ?_ _ (0 : Int32) m_dist_3 hf _ _ _ ⟨hP, hD, hS⟩ (lv_sub hl [1, 2, 3, 0] rfl)
              intro J8 hL8 x4_1 m_dist_5 hf H locs ls ⟨hP, hD, hS⟩ hl
              refine lv_iload hx hb dX10_breaks_69 (lv_at hl 3 rfl) ?_
              refine lv_bipush (v := 36) hx hb dX10_breaks_71 (by decide) ?_
              refine lv_icmp_ge (tgt := 183) hx hb dX10_breaks_73 (by decide) (fun c9 => ?_) (fun c9 => ?_)
              · have hf := qob_t hf c9
                have hf := qob_esc hf
                exact hJ7 m_dist_5 hf _ _ _ ⟨hP, hD, hS⟩ (lv_sub hl [0, 1, 2] rfl)
              · have hf := qob_f hf c9
                refine lv_iconst (v := 0) hx hb dX10_breaks_76 (by decide) ?_
                refine lv_istore (lv' := [(5, .int 0), (0, .ref mo), (2, .int p2), (3, .int x3_1), (4, .int x4_1)]) hx hb dX10_breaks_77 hl (by decide) rfl (fun ls hl => ?_)
                refine qjoin1 hf (fun (m_dist_6 : Nat → Int32) => ∀ (H : Heap) (locs : List Loc) (ls : Array Slot), ctW D A s ([oX10 mo ma 0 m_textSize m_rows m_columns m_a m_b m_readRows m_readColumns m_at m_looks m_came m_draw m_turnedRows m_turnedColumns, aZ cy (ma 1) 36 m_right, aZ cy (ma 2) 36 m_down, aI cy (ma 7) 36 m_dist_6]) H locs → lv_has ls 8 [(0, .ref mo), (2, .int p2), (3, .int x3_1), (4, .int x4_1)] → W p l e rmX10_breaks s m args below meth c H locs 0 0 Q (F0 m 177 ls [])) ?_ ?_
                · intro m_dist_6 hf H locs ls ⟨hP, hD, hS⟩ hl
                  refine lv_iinc (v := (x4_1 + 1)) (lv' := [(4, .int (x4_1 + 1)), (0, .ref mo), (2, .int p2), (3, .int x3_1)]) hx hb dX10_breaks_177 hl (k := 3) rfl rfl (by decide) rfl (fun ls hl => ?_)
                  refine lv_goto (tgt := 69) hx hb dX10_breaks_180 (by decide) ?_
                  exact hL8 (x4_1 + 1) m_dist_6 hf _ _ _ ⟨hP, hD, hS⟩ (lv_sub hl [1, 2, 3, 0] rfl)
                · intro J10 hJ10 hf
                  refine qwalk2 (fun (x5_1 : Int32) (m_dist_7 : Nat → Int32) => ∀ (H : Heap) (locs : List Loc) (ls : Array Slot), ctW D A s ([oX10 mo ma 0 m_textSize m_rows m_columns m_a m_b m_readRows m_readColumns m_at m_looks m_came m_draw m_turnedRows m_turnedColumns, aZ cy (ma 1) 36 m_right, aZ cy (ma 2) 36 m_down, aI cy (ma 7) 36 m_dist_7]) H locs → lv_has ls 8 [(0, .ref mo), (2, .int p2), (3, .int x3_1), (4, .int x4_1), (5, .int x5_1)] → W p l e rmX10_breaks s m args below meth c H locs 0 0 Q (F0 m 79 ls [])) ?_ _ (0 : Int32) m_dist_5 hf _ _ _ ⟨hP, hD, hS⟩ (lv_sub hl [1, 2, 3, 4, 0] rfl)
                  intro J11 hL11 x5_1 m_dist_7 hf H locs ls ⟨hP, hD, hS⟩ hl
                  refine lv_iload hx hb dX10_breaks_79 (lv_at hl 4 rfl) ?_
                  refine lv_iconst (v := 4) hx hb dX10_breaks_81 (by decide) ?_
                  refine lv_icmp_ge (tgt := 177) hx hb dX10_breaks_82 (by decide) (fun c12 => ?_) (fun c12 => ?_)
                  · have hf := qob_t hf c12
                    have hf := qob_esc hf
                    exact hJ10 m_dist_7 hf _ _ _ ⟨hP, hD, hS⟩ (lv_sub hl [0, 1, 2, 3] rfl)
                  · have hf := qob_f hf c12
                    refine lv_aload_n hx hb dX10_breaks_85 rfl (lv_at hl 0 rfl) ?_
                    refine lv_iload hx hb dX10_breaks_86 (lv_at hl 3 rfl) ?_
                    refine ctV_i0 (r := (fX10_isThere m_rows m_columns x4_1)) (wc := [oX10 mo ma 0 m_textSize m_rows m_columns m_a m_b m_readRows m_readColumns m_at m_looks m_came m_draw m_turnedRows m_turnedColumns]) (As := [.int x4_1]) (rest := []) (q0 := 0) X hK hP hD hS [0] rfl rfl rfl (KX10_isThere rfl _) (cwV 1 hts gX10_breaks_X10_isThere rfl rfl rfl hdX10_isThere ⟨Nat.le_of_ble_eq_true rfl, Nat.le_of_ble_eq_true rfl⟩) rfl rfl rfl hl rfl (Nat.le_of_ble_eq_true rfl) dX10_breaks_88 (Nat.zero_le _) (Nat.zero_le _) (fun H locs hP hS => ?_)
                    refine lv_if_eq (tgt := 177) hx hb dX10_breaks_91 (by decide) (fun c13 => ?_) (fun c13 => ?_)
                    · have hf := qob_t hf c13
                      have hf := qob_esc hf
                      exact hJ10 m_dist_7 hf _ _ _ ⟨hP, hD, hS⟩ (lv_sub hl [0, 1, 2, 3] rfl)
                    · have hf := qob_f hf c13
                      refine lv_aload_n hx hb dX10_breaks_94 rfl (lv_at hl 0 rfl) ?_
                      refine va_get (D := D) (ci := 10) (v := .ref (ma 7)) (C := RX10) (T := TX10) (N := 34) hx hb hts inwX10_breaks_X10 hown hK hP 0 rfl rfl 15 (by decide) (hts (.fieldLink RX10 39 "HedgeWaysModel" "dist" "[I") (List.mem_of_getElem? (i := 2) rfl)) (fun _ h9 => h9) rfl dX10_breaks_95 ?_
                      refine lv_iload hx hb dX10_breaks_98 (lv_at hl 3 rfl) ?_
                      obtain ⟨i14, hf⟩ := qob_gd hf
                      refine va_iald hx hb hK hP 3 0 rfl rfl i14 dX10_breaks_100 ?_
                      refine lv_sipush (v := 9999) hx hb dX10_breaks_101 (by decide) ?_
                      refine lv_icmp_ge (tgt := 177) hx hb dX10_breaks_104 (by decide) (fun c15 => ?_) (fun c15 => ?_)
                      · have hf := qob_t hf c15
                        have hf := qob_esc hf
                        exact hJ10 m_dist_7 hf _ _ _ ⟨hP, hD, hS⟩ (lv_sub hl [0, 1, 2, 3] rfl)
                      · have hf := qob_f hf c15
                        refine lv_aload_n hx hb dX10_breaks_107 rfl (lv_at hl 0 rfl) ?_
                        refine lv_iload hx hb dX10_breaks_108 (lv_at hl 3 rfl) ?_
                        refine lv_iload hx hb dX10_breaks_110 (lv_at hl 4 rfl) ?_
                        refine ctV_i0 (r := (fX10_beside m_rows m_columns x4_1 x5_1)) (wc := [oX10 mo ma 0 m_textSize m_rows m_columns m_a m_b m_readRows m_readColumns m_at m_looks m_came m_draw m_turnedRows m_turnedColumns]) (As := [.int x4_1, .int x5_1]) (rest := []) (q0 := 0) X hK hP hD hS [0] rfl rfl rfl (KX10_beside rfl _) (cwV 2 hts gX10_breaks_X10_beside rfl rfl rfl hdX10_beside ⟨Nat.le_of_ble_eq_true rfl, Nat.le_of_ble_eq_true rfl⟩) rfl rfl rfl hl rfl (Nat.le_of_ble_eq_true rfl) dX10_breaks_112 (Nat.zero_le _) (Nat.zero_le _) (fun H locs hP hS => ?_)
                        refine lv_istore (lv' := [(6, .int (fX10_beside m_rows m_columns x4_1 x5_1)), (0, .ref mo), (2, .int p2), (3, .int x3_1), (4, .int x4_1), (5, .int x5_1)]) hx hb dX10_breaks_115 hl (by decide) rfl (fun ls hl => ?_)
                        refine lv_aload_n hx hb dX10_breaks_117 rfl (lv_at hl 1 rfl) ?_
                        refine va_get (D := D) (ci := 10) (v := .ref (ma 7)) (C := RX10) (T := TX10) (N := 34) hx hb hts inwX10_breaks_X10 hown hK hP 0 rfl rfl 15 (by decide) (hts (.fieldLink RX10 39 "HedgeWaysModel" "dist" "[I") (List.mem_of_getElem? (i := 2) rfl)) (fun _ h9 => h9) rfl dX10_breaks_118 ?_
                        refine lv_iload hx hb dX10_breaks_121 (lv_at hl 4 rfl) ?_
                        obtain ⟨i16, hf⟩ := qob_gd hf
                        refine va_iald hx hb hK hP 3 0 rfl rfl i16 dX10_breaks_123 ?_
                        refine lv_aload_n hx hb dX10_breaks_124 rfl (lv_at hl 1 rfl) ?_
                        refine lv_iload hx hb dX10_breaks_125 (lv_at hl 4 rfl) ?_
                        refine lv_iload hx hb dX10_breaks_127 (lv_at hl 5 rfl) ?_
                        obtain ⟨r_1, q17, hf⟩ := qcall1 hf
                        refine ctV_i0 (r := r_1) (wc := [oX10 mo ma 0 m_textSize m_rows m_columns m_a m_b m_readRows m_readColumns m_at m_looks m_came m_draw m_turnedRows m_turnedColumns, aZ cy (ma 1) 36 m_right, aZ cy (ma 2) 36 m_down]) (As := [.int x4_1, .int x5_1]) (rest := [.int (m_dist_7 x4_1.toNatClampNeg)]) (q0 := 0) X hK hP hD hS [0, 1, 2] rfl rfl rfl (KX10_isOpen q17 _) (cwV 2 hts gX10_breaks_X10_isOpen rfl rfl rfl hdX10_isOpen ⟨Nat.le_of_ble_eq_true rfl, Nat.le_of_ble_eq_true rfl⟩) rfl rfl rfl hl rfl (Nat.le_of_ble_eq_true rfl) dX10_breaks_129 (Nat.zero_le _) (Nat.zero_le _) (fun H locs hP hS => ?_)
                        refine qjoin1 hf (fun (s_1 : Int32) => ∀ (H : Heap) (locs : List Loc) (ls : Array Slot), ctW D A s ([oX10 mo ma 0 m_textSize m_rows m_columns m_a m_b m_readRows m_readColumns m_at m_looks m_came m_draw m_turnedRows m_turnedColumns, aZ cy (ma 1) 36 m_right, aZ cy (ma 2) 36 m_down, aI cy (ma 7) 36 m_dist_7]) H locs → lv_has ls 8 [(0, .ref mo), (2, .int p2), (3, .int x3_1), (4, .int x4_1), (5, .int x5_1), (6, .int (fX10_beside m_rows m_columns x4_1 x5_1))] → W p l e rmX10_breaks s m args below meth c H locs 0 0 Q (F0 m 140 ls [.int s_1, .int (m_dist_7 x4_1.toNatClampNeg)])) ?_ ?_
                        · intro s_1 hf H locs ls ⟨hP, hD, hS⟩ hl
                          refine lv_iadd hx hb dX10_breaks_140 ?_
                          refine lv_istore (lv' := [(7, .int ((m_dist_7 x4_1.toNatClampNeg) + s_1)), (0, .ref mo), (2, .int p2), (3, .int x3_1), (4, .int x4_1), (5, .int x5_1), (6, .int (fX10_beside m_rows m_columns x4_1 x5_1))]) hx hb dX10_breaks_141 hl (by decide) rfl (fun ls hl => ?_)
                          refine lv_iload hx hb dX10_breaks_143 (lv_at hl 6 rfl) ?_
                          refine lv_bipush (v := (-9)) hx hb dX10_breaks_145 (by decide) ?_
                          refine lv_icmp_eq (tgt := 171) hx hb dX10_breaks_147 (by decide) (fun c18 => ?_) (fun c18 => ?_)
                          · have hf := qob_t hf c18
                            refine lv_iinc (v := (x5_1 + 1)) (lv' := [(5, .int (x5_1 + 1)), (7, .int ((m_dist_7 x4_1.toNatClampNeg) + s_1)), (0, .ref mo), (2, .int p2), (3, .int x3_1), (4, .int x4_1), (6, .int (fX10_beside m_rows m_columns x4_1 x5_1))]) hx hb dX10_breaks_171 hl (k := 5) rfl rfl (by decide) rfl (fun ls hl => ?_)
                            refine lv_goto (tgt := 79) hx hb dX10_breaks_174 (by decide) ?_
                            exact hL11 (x5_1 + 1) m_dist_7 hf _ _ _ ⟨hP, hD, hS⟩ (lv_sub hl [2, 3, 4, 5, 0] rfl)
                          · have hf := qob_f hf c18
                            refine lv_iload hx hb dX10_breaks_150 (lv_at hl 0 rfl) ?_
                            refine lv_aload_n hx hb dX10_breaks_152 rfl (lv_at hl 1 rfl) ?_
                            refine va_get (D := D) (ci := 10) (v := .ref (ma 7)) (C := RX10) (T := TX10) (N := 34) hx hb hts inwX10_breaks_X10 hown hK hP 0 rfl rfl 15 (by decide) (hts (.fieldLink RX10 39 "HedgeWaysModel" "dist" "[I") (List.mem_of_getElem? (i := 2) rfl)) (fun _ h9 => h9) rfl dX10_breaks_153 ?_
                            refine lv_iload hx hb dX10_breaks_156 (lv_at hl 6 rfl) ?_
                            obtain ⟨i19, hf⟩ := qob_gd hf
                            refine va_iald hx hb hK hP 3 0 rfl rfl i19 dX10_breaks_158 ?_
                            refine lv_icmp_ge (tgt := 171) hx hb dX10_breaks_159 (by decide) (fun c20 => ?_) (fun c20 => ?_)
                            · have hf := qob_t hf c20
                              refine lv_iinc (v := (x5_1 + 1)) (lv' := [(5, .int (x5_1 + 1)), (7, .int ((m_dist_7 x4_1.toNatClampNeg) + s_1)), (0, .ref mo), (2, .int p2), (3, .int x3_1), (4, .int x4_1), (6, .int (fX10_beside m_rows m_columns x4_1 x5_1))]) hx hb dX10_breaks_171 hl (k := 5) rfl rfl (by decide) rfl (fun ls hl => ?_)
                              refine lv_goto (tgt := 79) hx hb dX10_breaks_174 (by decide) ?_
                              exact hL11 (x5_1 + 1) m_dist_7 hf _ _ _ ⟨hP, hD, hS⟩ (lv_sub hl [2, 3, 4, 5, 0] rfl)
                            · have hf := qob_f hf c20
                              refine lv_aload_n hx hb dX10_breaks_162 rfl (lv_at hl 1 rfl) ?_
                              refine va_get (D := D) (ci := 10) (v := .ref (ma 7)) (C := RX10) (T := TX10) (N := 34) hx hb hts inwX10_breaks_X10 hown hK hP 0 rfl rfl 15 (by decide) (hts (.fieldLink RX10 39 "HedgeWaysModel" "dist" "[I") (List.mem_of_getElem? (i := 2) rfl)) (fun _ h9 => h9) rfl dX10_breaks_163 ?_
                              refine lv_iload hx hb dX10_breaks_166 (lv_at hl 6 rfl) ?_
                              refine lv_iload hx hb dX10_breaks_168 (lv_at hl 0 rfl) ?_
                              obtain ⟨i21, hf⟩ := qob_gd hf
                              obtain ⟨m_dist_8, e22⟩ : ∃ z, z = (upd m_dist_7 ((fX10_beside m_rows m_columns x4_1 x5_1)).toNatClampNeg ((m_dist_7 x4_1.toNatClampNeg) + s_1)) := ⟨_, rfl⟩
                              have hf := qob_bd hf e22
                              refine va_iast hx hb hK hP hD hS 3 0 rfl rfl i21 dX10_breaks_170 (fun H locs hP hD hS => ?_)
                              have hP : va_P D vwCl ([oX10 mo ma 0 m_textSize m_rows m_columns m_a m_b m_readRows m_readColumns m_at m_looks m_came m_draw m_turnedRows m_turnedColumns, aZ cy (ma 1) 36 m_right, aZ cy (ma 2) 36 m_down, aI cy (ma 7) 36 m_dist_8]) H := by rw [e22]; exact hP
                              have hD : va_D A ([oX10 mo ma 0 m_textSize m_rows m_columns m_a m_b m_readRows m_readColumns m_at m_looks m_came m_draw m_turnedRows m_turnedColumns, aZ cy (ma 1) 36 m_right, aZ cy (ma 2) 36 m_down, aI cy (ma 7) 36 m_dist_8]) := by rw [e22]; exact hD
                              refine lv_iinc (v := (x5_1 + 1)) (lv' := [(5, .int (x5_1 + 1)), (7, .int ((m_dist_7 x4_1.toNatClampNeg) + s_1)), (0, .ref mo), (2, .int p2), (3, .int x3_1), (4, .int x4_1), (6, .int (fX10_beside m_rows m_columns x4_1 x5_1))]) hx hb dX10_breaks_171 hl (k := 5) rfl rfl (by decide) rfl (fun ls hl => ?_)
                              refine lv_goto (tgt := 79) hx hb dX10_breaks_174 (by decide) ?_
                              exact hL11 (x5_1 + 1) m_dist_8 hf _ _ _ ⟨hP, hD, hS⟩ (lv_sub hl [2, 3, 4, 5, 0] rfl)
                        · intro J23 hJ23 hf
                          refine lv_if_eq (tgt := 139) hx hb dX10_breaks_132 (by decide) (fun c24 => ?_) (fun c24 => ?_)
                          · have hf := qob_t hf c24
                            refine lv_iconst (v := 1) hx hb dX10_breaks_139 (by decide) ?_
                            exact hJ23 1 hf _ _ _ ⟨hP, hD, hS⟩ (lv_sub hl [1, 2, 3, 4, 5, 0] rfl)
                          · have hf := qob_f hf c24
                            refine lv_iconst (v := 0) hx hb dX10_breaks_135 (by decide) ?_
                            refine lv_goto (tgt := 140) hx hb dX10_breaks_136 (by decide) ?_
                            exact hJ23 0 hf _ _ _ ⟨hP, hD, hS⟩ (lv_sub hl [1, 2, 3, 4, 5, 0] rfl)
      · intro J25 hJ25 hf
        refine qwalk2 (fun (x3_2 : Int32) (m_dist_9 : Nat → Int32) => ∀ (H : Heap) (locs : List Loc) (ls : Array Slot), ctW D A s ([oX10 mo ma 0 m_textSize m_rows m_columns m_a m_b m_readRows m_readColumns m_at m_looks m_came m_draw m_turnedRows m_turnedColumns, aZ cy (ma 1) 36 m_right, aZ cy (ma 2) 36 m_down, aI cy (ma 7) 36 m_dist_9]) H locs → lv_has ls 8 [(0, .ref mo), (1, .int p1), (2, .int p2), (3, .int x3_2)] → W p l e rmX10_breaks s m args below meth c H locs 0 0 Q (F0 m 25 ls [])) ?_ _ (0 : Int32) m_dist hf _ _ _ ⟨hP, hD, hS⟩ (lv_sub hl [1, 2, 3, 0] rfl)
        intro J26 hL26 x3_2 m_dist_9 hf H locs ls ⟨hP, hD, hS⟩ hl
        refine lv_iload_n hx hb dX10_breaks_25 rfl (lv_at hl 3 rfl) ?_
        refine lv_bipush (v := 36) hx hb dX10_breaks_26 (by decide) ?_
        refine lv_icmp_ge (tgt := 58) hx hb dX10_breaks_28 (by decide) (fun c27 => ?_) (fun c27 => ?_)
        · have hf := qob_t hf c27
          have hf := qob_esc hf
          exact hJ25 m_dist_9 hf _ _ _ ⟨hP, hD, hS⟩ (lv_sub hl [0, 2] rfl)
        · have hf := qob_f hf c27
          refine lv_aload_n hx hb dX10_breaks_31 rfl (lv_at hl 0 rfl) ?_
          refine va_get (D := D) (ci := 10) (v := .ref (ma 7)) (C := RX10) (T := TX10) (N := 34) hx hb hts inwX10_breaks_X10 hown hK hP 0 rfl rfl 15 (by decide) (hts (.fieldLink RX10 39 "HedgeWaysModel" "dist" "[I") (List.mem_of_getElem? (i := 2) rfl)) (fun _ h9 => h9) rfl dX10_breaks_32 ?_
          refine lv_iload_n hx hb dX10_breaks_35 rfl (lv_at hl 3 rfl) ?_
          refine lv_iload_n hx hb dX10_breaks_36 rfl (lv_at hl 3 rfl) ?_
          refine lv_iload_n hx hb dX10_breaks_37 rfl (lv_at hl 1 rfl) ?_
          refine ctS_i0 (r := (fX10_index p1)) (wc := []) (As := [.int p1]) (rest := [.int x3_2, .int x3_2, .ref (ma 7)]) X hK hP hD hS [] rfl rfl rfl (KX10_index rfl _) (va_cwS 1 hts gX10_breaks_X10_index rfl rfl rfl hdX10_index ⟨Nat.le_of_ble_eq_true rfl, Nat.le_of_ble_eq_true rfl⟩) rfl hl rfl (Nat.le_of_ble_eq_true rfl) dX10_breaks_38 (Nat.zero_le _) (Nat.zero_le _) (fun H locs hP hS => ?_)
          refine lv_icmp_ne (tgt := 48) hx hb dX10_breaks_41 (by decide) (fun c28 => ?_) (fun c28 => ?_)
          · have hf := qob_f hf c28
            refine lv_sipush (v := 9999) hx hb dX10_breaks_48 (by decide) ?_
            obtain ⟨i29, hf⟩ := qob_gd hf
            refine va_iast hx hb hK hP hD hS 3 0 rfl rfl i29 dX10_breaks_51 (fun H locs hP hD hS => ?_)
            have hP : va_P D vwCl ([oX10 mo ma 0 m_textSize m_rows m_columns m_a m_b m_readRows m_readColumns m_at m_looks m_came m_draw m_turnedRows m_turnedColumns, aZ cy (ma 1) 36 m_right, aZ cy (ma 2) 36 m_down, aI cy (ma 7) 36 (upd m_dist_9 x3_2.toNatClampNeg 9999)]) H := hP
            have hD : va_D A ([oX10 mo ma 0 m_textSize m_rows m_columns m_a m_b m_readRows m_readColumns m_at m_looks m_came m_draw m_turnedRows m_turnedColumns, aZ cy (ma 1) 36 m_right, aZ cy (ma 2) 36 m_down, aI cy (ma 7) 36 (upd m_dist_9 x3_2.toNatClampNeg 9999)]) := hD
            refine lv_iinc (v := (x3_2 + 1)) (lv' := [(3, .int (x3_2 + 1)), (0, .ref mo), (1, .int p1), (2, .int p2)]) hx hb dX10_breaks_52 hl (k := 3) rfl rfl (by decide) rfl (fun ls hl => ?_)
            refine lv_goto (tgt := 25) hx hb dX10_breaks_55 (by decide) ?_
            exact hL26 (x3_2 + 1) (upd m_dist_9 x3_2.toNatClampNeg 9999) hf _ _ _ ⟨hP, hD, hS⟩ (lv_sub hl [1, 2, 3, 0] rfl)
          · have hf := qob_t hf c28
            refine lv_iconst (v := 0) hx hb dX10_breaks_44 (by decide) ?_
            refine lv_goto (tgt := 51) hx hb dX10_breaks_45 (by decide) ?_
            obtain ⟨i30, hf⟩ := qob_gd hf
            refine va_iast hx hb hK hP hD hS 3 0 rfl rfl i30 dX10_breaks_51 (fun H locs hP hD hS => ?_)
            have hP : va_P D vwCl ([oX10 mo ma 0 m_textSize m_rows m_columns m_a m_b m_readRows m_readColumns m_at m_looks m_came m_draw m_turnedRows m_turnedColumns, aZ cy (ma 1) 36 m_right, aZ cy (ma 2) 36 m_down, aI cy (ma 7) 36 (upd m_dist_9 x3_2.toNatClampNeg 0)]) H := hP
            have hD : va_D A ([oX10 mo ma 0 m_textSize m_rows m_columns m_a m_b m_readRows m_readColumns m_at m_looks m_came m_draw m_turnedRows m_turnedColumns, aZ cy (ma 1) 36 m_right, aZ cy (ma 2) 36 m_down, aI cy (ma 7) 36 (upd m_dist_9 x3_2.toNatClampNeg 0)]) := hD
            refine lv_iinc (v := (x3_2 + 1)) (lv' := [(3, .int (x3_2 + 1)), (0, .ref mo), (1, .int p1), (2, .int p2)]) hx hb dX10_breaks_52 hl (k := 3) rfl rfl (by decide) rfl (fun ls hl => ?_)
            refine lv_goto (tgt := 25) hx hb dX10_breaks_55 (by decide) ?_
            exact hL26 (x3_2 + 1) (upd m_dist_9 x3_2.toNatClampNeg 0) hf _ _ _ ⟨hP, hD, hS⟩ (lv_sub hl [1, 2, 3, 0] rfl)
    · have hf := qob_t hf c2
      refine lv_iconst (v := (-1)) hx hb dX10_breaks_21 (by decide) ?_
      cases qob_ret hf
      exact ct_iret X hQ hK hP hD hS rfl dX10_breaks_22
theorem inwX10_shortCut_X10 : ∀ w ∈ wsX100, w ∈ wsX10_shortCut := fun _ h => List.mem_cons_of_mem _ (List.mem_append_right _ h)
abbrev rmX10_shortCut : Room := { frames := 5, cells := 0, slots := 0, locals := 120 }
theorem hdX10_shortCut : yX10_shortCut.cls = RX10 ∧ yX10_shortCut.cls ≠ "java/lang/invoke/MethodHandle" ∧ yX10_shortCut.cls ≠ "java/lang/invoke/VarHandle" ∧ (parseMethodDescriptor yX10_shortCut.desc).map (fun d => d.parameters.length) = some 0 := by decide +kernel
set_option maxHeartbeats 4000000 in
set_option maxRecDepth 100000 in
theorem KX10_shortCut {l : Launch} {D : va_G} {cy : Nat → ClassId} {mo : Nat} {ma : Nat → Nat} {m_thrown : Int32} {m_textSize : Int32} {m_rows : Int32} {m_columns : Int32} {m_a : Int32} {m_b : Int32} {m_readRows : Int32} {m_readColumns : Int32} {m_at : Int32} {m_looks : Int32} {m_came : Int32} {m_draw : Int64} {m_turnedRows : Int32} {m_turnedColumns : Int32} {m_right : Nat → Int32} {m_down : Nat → Int32} {m_dist : Nat → Int32} {m_queue : Nat → Int32} {m_shut : Nat → Int32}  {r : Int32} {m_thrown' : Int32} {m_right' : Nat → Int32} {m_down' : Nat → Int32} {m_dist' : Nat → Int32} {m_queue' : Nat → Int32} (hf : fX10_shortCut m_thrown m_rows m_columns m_a m_b m_right m_down m_dist m_queue m_shut = some (r, m_thrown', m_right', m_down', m_dist', m_queue')) : CtI l yX10_shortCut wsX10_shortCut rmX10_shortCut D cy [.ref mo] ([oX10 mo ma m_thrown m_textSize m_rows m_columns m_a m_b m_readRows m_readColumns m_at m_looks m_came m_draw m_turnedRows m_turnedColumns, aZ cy (ma 1) 36 m_right, aZ cy (ma 2) 36 m_down, aI cy (ma 7) 36 m_dist, aI cy (ma 8) 36 m_queue, aZ cy (ma 10) 36 m_shut]) ([oX10 mo ma m_thrown' m_textSize m_rows m_columns m_a m_b m_readRows m_readColumns m_at m_looks m_came m_draw m_turnedRows m_turnedColumns, aZ cy (ma 1) 36 m_right', aZ cy (ma 2) 36 m_down', aI cy (ma 7) 36 m_dist', aI cy (ma 8) 36 m_queue', aZ cy (ma 10) 36 m_shut]) r := by
  refine CtI.of (cc := cX10_shortCut) (maxL := 6) (ret := some .int) (own := RX10) (by decide) rfl rfl (Nat.le_of_ble_eq_true rfl) ?_
  intro p e s m args below meth c A Q X hQ hK hP hD hS ls hl
  obtain ⟨hx, hb, hml, hown, hts, hr, hlocks, hA, hZ⟩ := id X
  have hl : lv_has ls 6 [(0, .ref mo)] := hl
  unfold fX10_shortCut at hf
  have hf := qob_top hf
  refine lv_aload_n hx hb dX10_shortCut_0 rfl (lv_at hl 0 rfl) ?_
  refine lv_iconst (v := 0) hx hb dX10_shortCut_1 (by decide) ?_
  refine va_put (D := D) (ci := 10) (v := .int 0) (ty := .int) (C := RX10) (T := TX10) (N := 34) hx hb hts inwX10_shortCut_X10 tyX10 tyX10_ok nmX10 hown hK hP hD hS 0 rfl rfl 0 (by decide) (hts (.fieldLink RX10 79 "HedgeWaysModel" "thrown" "I") (List.mem_of_getElem? (i := 1) rfl)) (fun _ h9 => h9) rfl (tyX10_ok 0 (by decide)) rfl rfl (Nat.le_of_ble_eq_true rfl) dX10_shortCut_2 (fun H locs hP hD hS => ?_)
  have hP : va_P D vwCl ([oX10 mo ma 0 m_textSize m_rows m_columns m_a m_b m_readRows m_readColumns m_at m_looks m_came m_draw m_turnedRows m_turnedColumns, aZ cy (ma 1) 36 m_right, aZ cy (ma 2) 36 m_down, aI cy (ma 7) 36 m_dist, aI cy (ma 8) 36 m_queue, aZ cy (ma 10) 36 m_shut]) H := hP
  have hD : va_D A ([oX10 mo ma 0 m_textSize m_rows m_columns m_a m_b m_readRows m_readColumns m_at m_looks m_came m_draw m_turnedRows m_turnedColumns, aZ cy (ma 1) 36 m_right, aZ cy (ma 2) 36 m_down, aI cy (ma 7) 36 m_dist, aI cy (ma 8) 36 m_queue, aZ cy (ma 10) 36 m_shut]) := hD
  refine lv_aload_n hx hb dX10_shortCut_5 rfl (lv_at hl 0 rfl) ?_
  refine lv_aload_n hx hb dX10_shortCut_6 rfl (lv_at hl 0 rfl) ?_
  refine va_get (D := D) (ci := 10) (v := .int m_a) (C := RX10) (T := TX10) (N := 34) hx hb hts inwX10_shortCut_X10 hown hK hP 0 rfl rfl 7 (by decide) (hts (.fieldLink RX10 103 "HedgeWaysModel" "a" "I") (List.mem_of_getElem? (i := 2) rfl)) (fun _ h9 => h9) rfl dX10_shortCut_7 ?_
  refine lv_aload_n hx hb dX10_shortCut_10 rfl (lv_at hl 0 rfl) ?_
  refine va_get (D := D) (ci := 10) (v := .int m_b) (C := RX10) (T := TX10) (N := 34) hx hb hts inwX10_shortCut_X10 hown hK hP 0 rfl rfl 8 (by decide) (hts (.fieldLink RX10 106 "HedgeWaysModel" "b" "I") (List.mem_of_getElem? (i := 3) rfl)) (fun _ h9 => h9) rfl dX10_shortCut_11 ?_
  obtain ⟨r_1, m_dist_1, m_queue_1, q1, hf⟩ := qcall3 hf
  refine ctV_i (r := r_1) (wc := [oX10 mo ma 0 m_textSize m_rows m_columns m_a m_b m_readRows m_readColumns m_at m_looks m_came m_draw m_turnedRows m_turnedColumns, aZ cy (ma 1) 36 m_right, aZ cy (ma 2) 36 m_down, aI cy (ma 7) 36 m_dist, aI cy (ma 8) 36 m_queue, aZ cy (ma 10) 36 m_shut]) (w1 := [oX10 mo ma 0 m_textSize m_rows m_columns m_a m_b m_readRows m_readColumns m_at m_looks m_came m_draw m_turnedRows m_turnedColumns, aZ cy (ma 1) 36 m_right, aZ cy (ma 2) 36 m_down, aI cy (ma 7) 36 m_dist_1, aI cy (ma 8) 36 m_queue_1, aZ cy (ma 10) 36 m_shut]) (wr := []) (wn := [oX10 mo ma 0 m_textSize m_rows m_columns m_a m_b m_readRows m_readColumns m_at m_looks m_came m_draw m_turnedRows m_turnedColumns, aZ cy (ma 1) 36 m_right, aZ cy (ma 2) 36 m_down, aI cy (ma 7) 36 m_dist_1, aI cy (ma 8) 36 m_queue_1, aZ cy (ma 10) 36 m_shut]) (As := [.int m_a, .int m_b]) (rest := []) (q0 := 0) X hK hP hD hS [0, 1, 2, 3, 4, 5] [] [0, 1, 2, 3, 4, 5] rfl rfl rfl rfl rfl (by decide) rfl rfl rfl (KX10_farOf q1 _) (cwV 2 hts gX10_shortCut_X10_farOf rfl rfl rfl hdX10_farOf ⟨Nat.le_of_ble_eq_true rfl, Nat.le_of_ble_eq_true rfl⟩) rfl rfl rfl hl rfl (Nat.le_of_ble_eq_true rfl) dX10_shortCut_14 (Nat.zero_le _) (Nat.zero_le _) (fun H locs hP hD hS => ?_)
  refine lv_istore_n (lv' := [(1, .int r_1), (0, .ref mo)]) hx hb dX10_shortCut_17 rfl hl (by decide) rfl (fun ls hl => ?_)
  refine lv_bipush (v := (-9)) hx hb dX10_shortCut_18 (by decide) ?_
  refine lv_istore_n (lv' := [(2, .int (-9)), (1, .int r_1), (0, .ref mo)]) hx hb dX10_shortCut_20 rfl hl (by decide) rfl (fun ls hl => ?_)
  refine lv_iconst (v := 0) hx hb dX10_shortCut_21 (by decide) ?_
  refine lv_istore_n (lv' := [(3, .int 0), (2, .int (-9)), (1, .int r_1), (0, .ref mo)]) hx hb dX10_shortCut_22 rfl hl (by decide) rfl (fun ls hl => ?_)
  refine qjoin5 hf (fun (x2_1 : Int32) (m_right_1 : Nat → Int32) (m_down_1 : Nat → Int32) (m_dist_2 : Nat → Int32) (m_queue_2 : Nat → Int32) => ∀ (H : Heap) (locs : List Loc) (ls : Array Slot), ctW D A s ([oX10 mo ma 0 m_textSize m_rows m_columns m_a m_b m_readRows m_readColumns m_at m_looks m_came m_draw m_turnedRows m_turnedColumns, aZ cy (ma 1) 36 m_right_1, aZ cy (ma 2) 36 m_down_1, aI cy (ma 7) 36 m_dist_2, aI cy (ma 8) 36 m_queue_2, aZ cy (ma 10) 36 m_shut]) H locs → lv_has ls 6 [(2, .int x2_1)] → W p l e rmX10_shortCut s m args below meth c H locs 0 0 Q (F0 m 144 ls [])) ?_ ?_
  · intro x2_1 m_right_1 m_down_1 m_dist_2 m_queue_2 hf H locs ls ⟨hP, hD, hS⟩ hl
    refine lv_iload_n hx hb dX10_shortCut_144 rfl (lv_at hl 0 rfl) ?_
    cases qob_ret hf
    exact ct_iret X hQ hK hP hD hS rfl dX10_shortCut_145
  · intro J2 hJ2 hf
    refine qwalk7 (fun (x1_1 : Int32) (x2_2 : Int32) (x3_1 : Int32) (m_right_2 : Nat → Int32) (m_down_2 : Nat → Int32) (m_dist_3 : Nat → Int32) (m_queue_3 : Nat → Int32) => ∀ (H : Heap) (locs : List Loc) (ls : Array Slot), ctW D A s ([oX10 mo ma 0 m_textSize m_rows m_columns m_a m_b m_readRows m_readColumns m_at m_looks m_came m_draw m_turnedRows m_turnedColumns, aZ cy (ma 1) 36 m_right_2, aZ cy (ma 2) 36 m_down_2, aI cy (ma 7) 36 m_dist_3, aI cy (ma 8) 36 m_queue_3, aZ cy (ma 10) 36 m_shut]) H locs → lv_has ls 6 [(0, .ref mo), (1, .int x1_1), (2, .int x2_2), (3, .int x3_1)] → W p l e rmX10_shortCut s m args below meth c H locs 0 0 Q (F0 m 23 ls [])) ?_ _ r_1 (-9 : Int32) (0 : Int32) m_right m_down m_dist_1 m_queue_1 hf _ _ _ ⟨hP, hD, hS⟩ (lv_sub hl [3, 2, 1, 0] rfl)
    intro J3 hL3 x1_1 x2_2 x3_1 m_right_2 m_down_2 m_dist_3 m_queue_3 hf H locs ls ⟨hP, hD, hS⟩ hl
    refine lv_iload_n hx hb dX10_shortCut_23 rfl (lv_at hl 3 rfl) ?_
    refine lv_bipush (v := 36) hx hb dX10_shortCut_24 (by decide) ?_
    refine lv_icmp_ge (tgt := 144) hx hb dX10_shortCut_26 (by decide) (fun c4 => ?_) (fun c4 => ?_)
    · have hf := qob_t hf c4
      have hf := qob_esc hf
      exact hJ2 x2_2 m_right_2 m_down_2 m_dist_3 m_queue_3 hf _ _ _ ⟨hP, hD, hS⟩ (lv_sub hl [2] rfl)
    · have hf := qob_f hf c4
      refine lv_iconst (v := 1) hx hb dX10_shortCut_29 (by decide) ?_
      refine lv_istore (lv' := [(4, .int 1), (0, .ref mo), (1, .int x1_1), (2, .int x2_2), (3, .int x3_1)]) hx hb dX10_shortCut_30 hl (by decide) rfl (fun ls hl => ?_)
      refine qjoin6 hf (fun (x1_2 : Int32) (x2_3 : Int32) (m_right_3 : Nat → Int32) (m_down_3 : Nat → Int32) (m_dist_4 : Nat → Int32) (m_queue_4 : Nat → Int32) => ∀ (H : Heap) (locs : List Loc) (ls : Array Slot), ctW D A s ([oX10 mo ma 0 m_textSize m_rows m_columns m_a m_b m_readRows m_readColumns m_at m_looks m_came m_draw m_turnedRows m_turnedColumns, aZ cy (ma 1) 36 m_right_3, aZ cy (ma 2) 36 m_down_3, aI cy (ma 7) 36 m_dist_4, aI cy (ma 8) 36 m_queue_4, aZ cy (ma 10) 36 m_shut]) H locs → lv_has ls 6 [(0, .ref mo), (1, .int x1_2), (2, .int x2_3), (3, .int x3_1)] → W p l e rmX10_shortCut s m args below meth c H locs 0 0 Q (F0 m 138 ls [])) ?_ ?_
      · intro x1_2 x2_3 m_right_3 m_down_3 m_dist_4 m_queue_4 hf H locs ls ⟨hP, hD, hS⟩ hl
        refine lv_iinc (v := (x3_1 + 1)) (lv' := [(3, .int (x3_1 + 1)), (0, .ref mo), (1, .int x1_2), (2, .int x2_3)]) hx hb dX10_shortCut_138 hl (k := 3) rfl rfl (by decide) rfl (fun ls hl => ?_)
        refine lv_goto (tgt := 23) hx hb dX10_shortCut_141 (by decide) ?_
        exact hL3 x1_2 x2_3 (x3_1 + 1) m_right_3 m_down_3 m_dist_4 m_queue_4 hf _ _ _ ⟨hP, hD, hS⟩ (lv_sub hl [1, 2, 3, 0] rfl)
      · intro J5 hJ5 hf
        refine qwalk7 (fun (x1_3 : Int32) (x2_4 : Int32) (x4_1 : Int32) (m_right_4 : Nat → Int32) (m_down_4 : Nat → Int32) (m_dist_5 : Nat → Int32) (m_queue_5 : Nat → Int32) => ∀ (H : Heap) (locs : List Loc) (ls : Array Slot), ctW D A s ([oX10 mo ma 0 m_textSize m_rows m_columns m_a m_b m_readRows m_readColumns m_at m_looks m_came m_draw m_turnedRows m_turnedColumns, aZ cy (ma 1) 36 m_right_4, aZ cy (ma 2) 36 m_down_4, aI cy (ma 7) 36 m_dist_5, aI cy (ma 8) 36 m_queue_5, aZ cy (ma 10) 36 m_shut]) H locs → lv_has ls 6 [(0, .ref mo), (1, .int x1_3), (2, .int x2_4), (3, .int x3_1), (4, .int x4_1)] → W p l e rmX10_shortCut s m args below meth c H locs 0 0 Q (F0 m 32 ls [])) ?_ _ x1_1 x2_2 (1 : Int32) m_right_2 m_down_2 m_dist_3 m_queue_3 hf _ _ _ ⟨hP, hD, hS⟩ (lv_sub hl [1, 2, 3, 4, 0] rfl)
        intro J6 hL6 x1_3 x2_4 x4_1 m_right_4 m_down_4 m_dist_5 m_queue_5 hf H locs ls ⟨hP, hD, hS⟩ hl
        refine lv_iload hx hb dX10_shortCut_32 (lv_at hl 4 rfl) ?_
        refine lv_iconst (v := 3) hx hb dX10_shortCut_34 (by decide) ?_
        refine lv_icmp_ge (tgt := 138) hx hb dX10_shortCut_35 (by decide) (fun c7 => ?_) (fun c7 => ?_)
        · have hf := qob_t hf c7
          have hf := qob_esc hf
          exact hJ5 x1_3 x2_4 m_right_4 m_down_4 m_dist_5 m_queue_5 hf _ _ _ ⟨hP, hD, hS⟩ (lv_sub hl [0, 1, 2, 3] rfl)
        · have hf := qob_f hf c7
          refine lv_aload_n hx hb dX10_shortCut_38 rfl (lv_at hl 0 rfl) ?_
          refine lv_iload_n hx hb dX10_shortCut_39 rfl (lv_at hl 3 rfl) ?_
          refine ctV_i0 (r := (fX10_isThere m_rows m_columns x3_1)) (wc := [oX10 mo ma 0 m_textSize m_rows m_columns m_a m_b m_readRows m_readColumns m_at m_looks m_came m_draw m_turnedRows m_turnedColumns]) (As := [.int x3_1]) (rest := []) (q0 := 0) X hK hP hD hS [0] rfl rfl rfl (KX10_isThere rfl _) (cwV 1 hts gX10_shortCut_X10_isThere rfl rfl rfl hdX10_isThere ⟨Nat.le_of_ble_eq_true rfl, Nat.le_of_ble_eq_true rfl⟩) rfl rfl rfl hl rfl (Nat.le_of_ble_eq_true rfl) dX10_shortCut_40 (Nat.zero_le _) (Nat.zero_le _) (fun H locs hP hS => ?_)
          refine lv_if_eq (tgt := 132) hx hb dX10_shortCut_43 (by decide) (fun c8 => ?_) (fun c8 => ?_)
          · have hf := qob_t hf c8
            refine lv_iinc (v := (x4_1 + 1)) (lv' := [(4, .int (x4_1 + 1)), (0, .ref mo), (1, .int x1_3), (2, .int x2_4), (3, .int x3_1)]) hx hb dX10_shortCut_132 hl (k := 4) rfl rfl (by decide) rfl (fun ls hl => ?_)
            refine lv_goto (tgt := 32) hx hb dX10_shortCut_135 (by decide) ?_
            exact hL6 x1_3 x2_4 (x4_1 + 1) m_right_4 m_down_4 m_dist_5 m_queue_5 hf _ _ _ ⟨hP, hD, hS⟩ (lv_sub hl [1, 2, 3, 4, 0] rfl)
          · have hf := qob_f hf c8
            refine lv_aload_n hx hb dX10_shortCut_46 rfl (lv_at hl 0 rfl) ?_
            refine lv_iload_n hx hb dX10_shortCut_47 rfl (lv_at hl 3 rfl) ?_
            refine lv_iload hx hb dX10_shortCut_48 (lv_at hl 4 rfl) ?_
            refine ctV_i0 (r := (fX10_beside m_rows m_columns x3_1 x4_1)) (wc := [oX10 mo ma 0 m_textSize m_rows m_columns m_a m_b m_readRows m_readColumns m_at m_looks m_came m_draw m_turnedRows m_turnedColumns]) (As := [.int x3_1, .int x4_1]) (rest := []) (q0 := 0) X hK hP hD hS [0] rfl rfl rfl (KX10_beside rfl _) (cwV 2 hts gX10_shortCut_X10_beside rfl rfl rfl hdX10_beside ⟨Nat.le_of_ble_eq_true rfl, Nat.le_of_ble_eq_true rfl⟩) rfl rfl rfl hl rfl (Nat.le_of_ble_eq_true rfl) dX10_shortCut_50 (Nat.zero_le _) (Nat.zero_le _) (fun H locs hP hS => ?_)
            refine lv_bipush (v := (-9)) hx hb dX10_shortCut_53 (by decide) ?_
            refine lv_icmp_eq (tgt := 132) hx hb dX10_shortCut_55 (by decide) (fun c9 => ?_) (fun c9 => ?_)
            · have hf := qob_t hf c9
              refine lv_iinc (v := (x4_1 + 1)) (lv' := [(4, .int (x4_1 + 1)), (0, .ref mo), (1, .int x1_3), (2, .int x2_4), (3, .int x3_1)]) hx hb dX10_shortCut_132 hl (k := 4) rfl rfl (by decide) rfl (fun ls hl => ?_)
              refine lv_goto (tgt := 32) hx hb dX10_shortCut_135 (by decide) ?_
              exact hL6 x1_3 x2_4 (x4_1 + 1) m_right_4 m_down_4 m_dist_5 m_queue_5 hf _ _ _ ⟨hP, hD, hS⟩ (lv_sub hl [1, 2, 3, 4, 0] rfl)
            · have hf := qob_f hf c9
              refine lv_aload_n hx hb dX10_shortCut_58 rfl (lv_at hl 0 rfl) ?_
              refine lv_iload_n hx hb dX10_shortCut_59 rfl (lv_at hl 3 rfl) ?_
              refine lv_iload hx hb dX10_shortCut_60 (lv_at hl 4 rfl) ?_
              obtain ⟨r_2, q10, hf⟩ := qcall1 hf
              refine ctV_i0 (r := r_2) (wc := [oX10 mo ma 0 m_textSize m_rows m_columns m_a m_b m_readRows m_readColumns m_at m_looks m_came m_draw m_turnedRows m_turnedColumns, aZ cy (ma 1) 36 m_right_4, aZ cy (ma 2) 36 m_down_4]) (As := [.int x3_1, .int x4_1]) (rest := []) (q0 := 0) X hK hP hD hS [0, 1, 2] rfl rfl rfl (KX10_isOpen q10 _) (cwV 2 hts gX10_shortCut_X10_isOpen rfl rfl rfl hdX10_isOpen ⟨Nat.le_of_ble_eq_true rfl, Nat.le_of_ble_eq_true rfl⟩) rfl rfl rfl hl rfl (Nat.le_of_ble_eq_true rfl) dX10_shortCut_62 (Nat.zero_le _) (Nat.zero_le _) (fun H locs hP hS => ?_)
              refine lv_if_ne (tgt := 132) hx hb dX10_shortCut_65 (by decide) (fun c11 => ?_) (fun c11 => ?_)
              · have hf := qob_f hf c11
                refine lv_iinc (v := (x4_1 + 1)) (lv' := [(4, .int (x4_1 + 1)), (0, .ref mo), (1, .int x1_3), (2, .int x2_4), (3, .int x3_1)]) hx hb dX10_shortCut_132 hl (k := 4) rfl rfl (by decide) rfl (fun ls hl => ?_)
                refine lv_goto (tgt := 32) hx hb dX10_shortCut_135 (by decide) ?_
                exact hL6 x1_3 x2_4 (x4_1 + 1) m_right_4 m_down_4 m_dist_5 m_queue_5 hf _ _ _ ⟨hP, hD, hS⟩ (lv_sub hl [1, 2, 3, 4, 0] rfl)
              · have hf := qob_t hf c11
                refine lv_aload_n hx hb dX10_shortCut_68 rfl (lv_at hl 0 rfl) ?_
                refine lv_iload_n hx hb dX10_shortCut_69 rfl (lv_at hl 3 rfl) ?_
                refine lv_iload hx hb dX10_shortCut_70 (lv_at hl 4 rfl) ?_
                refine lv_iconst (v := 1) hx hb dX10_shortCut_72 (by decide) ?_
                obtain ⟨m_right_5, m_down_5, q12, hf⟩ := qcall2 hf
                refine ctV_v (wc := [oX10 mo ma 0 m_textSize m_rows m_columns m_a m_b m_readRows m_readColumns m_at m_looks m_came m_draw m_turnedRows m_turnedColumns, aZ cy (ma 1) 36 m_right_4, aZ cy (ma 2) 36 m_down_4]) (w1 := [oX10 mo ma 0 m_textSize m_rows m_columns m_a m_b m_readRows m_readColumns m_at m_looks m_came m_draw m_turnedRows m_turnedColumns, aZ cy (ma 1) 36 m_right_5, aZ cy (ma 2) 36 m_down_5]) (wr := [aI cy (ma 7) 36 m_dist_5, aI cy (ma 8) 36 m_queue_5, aZ cy (ma 10) 36 m_shut]) (wn := [oX10 mo ma 0 m_textSize m_rows m_columns m_a m_b m_readRows m_readColumns m_at m_looks m_came m_draw m_turnedRows m_turnedColumns, aZ cy (ma 1) 36 m_right_5, aZ cy (ma 2) 36 m_down_5, aI cy (ma 7) 36 m_dist_5, aI cy (ma 8) 36 m_queue_5, aZ cy (ma 10) 36 m_shut]) (As := [.int x3_1, .int x4_1, .int 1]) (rest := []) (q0 := 0) X hK hP hD hS [0, 1, 2] [3, 4, 5] [3, 4, 5, 0, 1, 2] rfl rfl rfl rfl rfl (by decide) rfl rfl rfl (KX10_set q12 _) (cwV 3 hts gX10_shortCut_X10_set rfl rfl rfl hdX10_set ⟨Nat.le_of_ble_eq_true rfl, Nat.le_of_ble_eq_true rfl⟩) rfl rfl rfl hl rfl (Nat.le_of_ble_eq_true rfl) dX10_shortCut_73 (Nat.zero_le _) (Nat.zero_le _) (fun H locs hP hD hS => ?_)
                refine lv_aload_n hx hb dX10_shortCut_76 rfl (lv_at hl 0 rfl) ?_
                refine lv_aload_n hx hb dX10_shortCut_77 rfl (lv_at hl 0 rfl) ?_
                refine va_get (D := D) (ci := 10) (v := .int m_a) (C := RX10) (T := TX10) (N := 34) hx hb hts inwX10_shortCut_X10 hown hK hP 0 rfl rfl 7 (by decide) (hts (.fieldLink RX10 103 "HedgeWaysModel" "a" "I") (List.mem_of_getElem? (i := 2) rfl)) (fun _ h9 => h9) rfl dX10_shortCut_78 ?_
                refine lv_aload_n hx hb dX10_shortCut_81 rfl (lv_at hl 0 rfl) ?_
                refine va_get (D := D) (ci := 10) (v := .int m_b) (C := RX10) (T := TX10) (N := 34) hx hb hts inwX10_shortCut_X10 hown hK hP 0 rfl rfl 8 (by decide) (hts (.fieldLink RX10 106 "HedgeWaysModel" "b" "I") (List.mem_of_getElem? (i := 3) rfl)) (fun _ h9 => h9) rfl dX10_shortCut_82 ?_
                obtain ⟨r_3, m_dist_6, m_queue_6, q13, hf⟩ := qcall3 hf
                refine ctV_i (r := r_3) (wc := [oX10 mo ma 0 m_textSize m_rows m_columns m_a m_b m_readRows m_readColumns m_at m_looks m_came m_draw m_turnedRows m_turnedColumns, aZ cy (ma 1) 36 m_right_5, aZ cy (ma 2) 36 m_down_5, aI cy (ma 7) 36 m_dist_5, aI cy (ma 8) 36 m_queue_5, aZ cy (ma 10) 36 m_shut]) (w1 := [oX10 mo ma 0 m_textSize m_rows m_columns m_a m_b m_readRows m_readColumns m_at m_looks m_came m_draw m_turnedRows m_turnedColumns, aZ cy (ma 1) 36 m_right_5, aZ cy (ma 2) 36 m_down_5, aI cy (ma 7) 36 m_dist_6, aI cy (ma 8) 36 m_queue_6, aZ cy (ma 10) 36 m_shut]) (wr := []) (wn := [oX10 mo ma 0 m_textSize m_rows m_columns m_a m_b m_readRows m_readColumns m_at m_looks m_came m_draw m_turnedRows m_turnedColumns, aZ cy (ma 1) 36 m_right_5, aZ cy (ma 2) 36 m_down_5, aI cy (ma 7) 36 m_dist_6, aI cy (ma 8) 36 m_queue_6, aZ cy (ma 10) 36 m_shut]) (As := [.int m_a, .int m_b]) (rest := []) (q0 := 0) X hK hP hD hS [0, 1, 2, 3, 4, 5] [] [0, 1, 2, 3, 4, 5] rfl rfl rfl rfl rfl (by decide) rfl rfl rfl (KX10_farOf q13 _) (cwV 2 hts gX10_shortCut_X10_farOf rfl rfl rfl hdX10_farOf ⟨Nat.le_of_ble_eq_true rfl, Nat.le_of_ble_eq_true rfl⟩) rfl rfl rfl hl rfl (Nat.le_of_ble_eq_true rfl) dX10_shortCut_85 (Nat.zero_le _) (Nat.zero_le _) (fun H locs hP hD hS => ?_)
                refine lv_istore (lv' := [(5, .int r_3), (0, .ref mo), (1, .int x1_3), (2, .int x2_4), (3, .int x3_1), (4, .int x4_1)]) hx hb dX10_shortCut_88 hl (by decide) rfl (fun ls hl => ?_)
                refine lv_aload_n hx hb dX10_shortCut_90 rfl (lv_at hl 1 rfl) ?_
                refine lv_iload_n hx hb dX10_shortCut_91 rfl (lv_at hl 4 rfl) ?_
                refine lv_iload hx hb dX10_shortCut_92 (lv_at hl 5 rfl) ?_
                refine lv_iconst (v := 0) hx hb dX10_shortCut_94 (by decide) ?_
                obtain ⟨m_right_6, m_down_6, q14, hf⟩ := qcall2 hf
                refine ctV_v (wc := [oX10 mo ma 0 m_textSize m_rows m_columns m_a m_b m_readRows m_readColumns m_at m_looks m_came m_draw m_turnedRows m_turnedColumns, aZ cy (ma 1) 36 m_right_5, aZ cy (ma 2) 36 m_down_5]) (w1 := [oX10 mo ma 0 m_textSize m_rows m_columns m_a m_b m_readRows m_readColumns m_at m_looks m_came m_draw m_turnedRows m_turnedColumns, aZ cy (ma 1) 36 m_right_6, aZ cy (ma 2) 36 m_down_6]) (wr := [aI cy (ma 7) 36 m_dist_6, aI cy (ma 8) 36 m_queue_6, aZ cy (ma 10) 36 m_shut]) (wn := [oX10 mo ma 0 m_textSize m_rows m_columns m_a m_b m_readRows m_readColumns m_at m_looks m_came m_draw m_turnedRows m_turnedColumns, aZ cy (ma 1) 36 m_right_6, aZ cy (ma 2) 36 m_down_6, aI cy (ma 7) 36 m_dist_6, aI cy (ma 8) 36 m_queue_6, aZ cy (ma 10) 36 m_shut]) (As := [.int x3_1, .int x4_1, .int 0]) (rest := []) (q0 := 0) X hK hP hD hS [0, 1, 2] [3, 4, 5] [3, 4, 5, 0, 1, 2] rfl rfl rfl rfl rfl (by decide) rfl rfl rfl (KX10_set q14 _) (cwV 3 hts gX10_shortCut_X10_set rfl rfl rfl hdX10_set ⟨Nat.le_of_ble_eq_true rfl, Nat.le_of_ble_eq_true rfl⟩) rfl rfl rfl hl rfl (Nat.le_of_ble_eq_true rfl) dX10_shortCut_95 (Nat.zero_le _) (Nat.zero_le _) (fun H locs hP hD hS => ?_)
                refine lv_iload hx hb dX10_shortCut_98 (lv_at hl 0 rfl) ?_
                refine lv_iload_n hx hb dX10_shortCut_100 rfl (lv_at hl 2 rfl) ?_
                refine qjoin1 hf (fun (s_1 : Int32) => ∀ (H : Heap) (locs : List Loc) (ls : Array Slot), ctW D A s ([oX10 mo ma 0 m_textSize m_rows m_columns m_a m_b m_readRows m_readColumns m_at m_looks m_came m_draw m_turnedRows m_turnedColumns, aZ cy (ma 1) 36 m_right_6, aZ cy (ma 2) 36 m_down_6, aI cy (ma 7) 36 m_dist_6, aI cy (ma 8) 36 m_queue_6, aZ cy (ma 10) 36 m_shut]) H locs → lv_has ls 6 [(0, .ref mo), (1, .int x1_3), (3, .int x3_1), (4, .int x4_1), (5, .int r_3)] → W p l e rmX10_shortCut s m args below meth c H locs 0 0 Q (F0 m 118 ls [.int s_1])) ?_ ?_
                · intro s_1 hf H locs ls ⟨hP, hD, hS⟩ hl
                  refine lv_istore_n (lv' := [(2, .int s_1), (0, .ref mo), (1, .int x1_3), (3, .int x3_1), (4, .int x4_1), (5, .int r_3)]) hx hb dX10_shortCut_118 rfl hl (by decide) rfl (fun ls hl => ?_)
                  refine lv_iload hx hb dX10_shortCut_119 (lv_at hl 5 rfl) ?_
                  refine lv_iload_n hx hb dX10_shortCut_121 rfl (lv_at hl 2 rfl) ?_
                  refine lv_icmp_ge (tgt := 130) hx hb dX10_shortCut_122 (by decide) (fun c15 => ?_) (fun c15 => ?_)
                  · have hf := qob_t hf c15
                    refine lv_iload_n hx hb dX10_shortCut_130 rfl (lv_at hl 2 rfl) ?_
                    refine lv_istore_n (lv' := [(1, .int x1_3), (2, .int s_1), (0, .ref mo), (3, .int x3_1), (4, .int x4_1), (5, .int r_3)]) hx hb dX10_shortCut_131 rfl hl (by decide) rfl (fun ls hl => ?_)
                    refine lv_iinc (v := (x4_1 + 1)) (lv' := [(4, .int (x4_1 + 1)), (1, .int x1_3), (2, .int s_1), (0, .ref mo), (3, .int x3_1), (5, .int r_3)]) hx hb dX10_shortCut_132 hl (k := 4) rfl rfl (by decide) rfl (fun ls hl => ?_)
                    refine lv_goto (tgt := 32) hx hb dX10_shortCut_135 (by decide) ?_
                    exact hL6 x1_3 s_1 (x4_1 + 1) m_right_6 m_down_6 m_dist_6 m_queue_6 hf _ _ _ ⟨hP, hD, hS⟩ (lv_sub hl [3, 1, 2, 4, 0] rfl)
                  · have hf := qob_f hf c15
                    refine lv_iload hx hb dX10_shortCut_125 (lv_at hl 5 rfl) ?_
                    refine lv_goto (tgt := 131) hx hb dX10_shortCut_127 (by decide) ?_
                    refine lv_istore_n (lv' := [(1, .int r_3), (2, .int s_1), (0, .ref mo), (3, .int x3_1), (4, .int x4_1), (5, .int r_3)]) hx hb dX10_shortCut_131 rfl hl (by decide) rfl (fun ls hl => ?_)
                    refine lv_iinc (v := (x4_1 + 1)) (lv' := [(4, .int (x4_1 + 1)), (1, .int r_3), (2, .int s_1), (0, .ref mo), (3, .int x3_1), (5, .int r_3)]) hx hb dX10_shortCut_132 hl (k := 4) rfl rfl (by decide) rfl (fun ls hl => ?_)
                    refine lv_goto (tgt := 32) hx hb dX10_shortCut_135 (by decide) ?_
                    exact hL6 r_3 s_1 (x4_1 + 1) m_right_6 m_down_6 m_dist_6 m_queue_6 hf _ _ _ ⟨hP, hD, hS⟩ (lv_sub hl [3, 1, 2, 4, 0] rfl)
                · intro J16 hJ16 hf
                  refine lv_icmp_ge (tgt := 117) hx hb dX10_shortCut_101 (by decide) (fun c17 => ?_) (fun c17 => ?_)
                  · have hf := qob_t hf c17
                    refine lv_iload_n hx hb dX10_shortCut_117 rfl (lv_at hl 3 rfl) ?_
                    exact hJ16 x2_4 hf _ _ _ ⟨hP, hD, hS⟩ (lv_sub hl [1, 2, 4, 5, 0] rfl)
                  · have hf := qob_f hf c17
                    refine lv_bipush (v := 10) hx hb dX10_shortCut_104 (by decide) ?_
                    refine lv_iload_n hx hb dX10_shortCut_106 rfl (lv_at hl 4 rfl) ?_
                    refine ctS_i0 (r := (fX10_code x3_1)) (wc := []) (As := [.int x3_1]) (rest := [.int 10]) X hK hP hD hS [] rfl rfl rfl (KX10_code rfl _) (va_cwS 1 hts gX10_shortCut_X10_code rfl rfl rfl hdX10_code ⟨Nat.le_of_ble_eq_true rfl, Nat.le_of_ble_eq_true rfl⟩) rfl hl rfl (Nat.le_of_ble_eq_true rfl) dX10_shortCut_107 (Nat.zero_le _) (Nat.zero_le _) (fun H locs hP hS => ?_)
                    refine lv_imul hx hb dX10_shortCut_110 ?_
                    refine lv_iload hx hb dX10_shortCut_111 (lv_at hl 5 rfl) ?_
                    refine lv_iadd hx hb dX10_shortCut_113 ?_
                    refine lv_goto (tgt := 118) hx hb dX10_shortCut_114 (by decide) ?_
                    exact hJ16 ((10 * (fX10_code x3_1)) + x4_1) hf _ _ _ ⟨hP, hD, hS⟩ (lv_sub hl [1, 2, 4, 5, 0] rfl)
theorem inwX10_bar_X10 : ∀ w ∈ wsX100, w ∈ wsX10_bar := fun _ h => List.mem_cons_of_mem _ (List.mem_append_right _ h)
abbrev rmX10_bar : Room := { frames := 5, cells := 0, slots := 0, locals := 120 }
theorem hdX10_bar : yX10_bar.cls = RX10 ∧ yX10_bar.cls ≠ "java/lang/invoke/MethodHandle" ∧ yX10_bar.cls ≠ "java/lang/invoke/VarHandle" ∧ (parseMethodDescriptor yX10_bar.desc).map (fun d => d.parameters.length) = some 0 := by decide +kernel
set_option maxHeartbeats 4000000 in
set_option maxRecDepth 100000 in
theorem KX10_bar {l : Launch} {D : va_G} {cy : Nat → ClassId} {mo : Nat} {ma : Nat → Nat} {m_thrown : Int32} {m_textSize : Int32} {m_rows : Int32} {m_columns : Int32} {m_a : Int32} {m_b : Int32} {m_readRows : Int32} {m_readColumns : Int32} {m_at : Int32} {m_looks : Int32} {m_came : Int32} {m_draw : Int64} {m_turnedRows : Int32} {m_turnedColumns : Int32} {m_right : Nat → Int32} {m_down : Nat → Int32} {m_dist : Nat → Int32} {m_queue : Nat → Int32} {m_shut : Nat → Int32}  {r : Int32} {m_thrown' : Int32} {m_right' : Nat → Int32} {m_down' : Nat → Int32} {m_dist' : Nat → Int32} {m_queue' : Nat → Int32} (hf : fX10_bar m_thrown m_rows m_columns m_a m_b m_right m_down m_dist m_queue m_shut = some (r, m_thrown', m_right', m_down', m_dist', m_queue')) : CtI l yX10_bar wsX10_bar rmX10_bar D cy [.ref mo] ([oX10 mo ma m_thrown m_textSize m_rows m_columns m_a m_b m_readRows m_readColumns m_at m_looks m_came m_draw m_turnedRows m_turnedColumns, aZ cy (ma 1) 36 m_right, aZ cy (ma 2) 36 m_down, aI cy (ma 7) 36 m_dist, aI cy (ma 8) 36 m_queue, aZ cy (ma 10) 36 m_shut]) ([oX10 mo ma m_thrown' m_textSize m_rows m_columns m_a m_b m_readRows m_readColumns m_at m_looks m_came m_draw m_turnedRows m_turnedColumns, aZ cy (ma 1) 36 m_right', aZ cy (ma 2) 36 m_down', aI cy (ma 7) 36 m_dist', aI cy (ma 8) 36 m_queue', aZ cy (ma 10) 36 m_shut]) r := by
  refine CtI.of (cc := cX10_bar) (maxL := 7) (ret := some .int) (own := RX10) (by decide) rfl rfl (Nat.le_of_ble_eq_true rfl) ?_
  intro p e s m args below meth c A Q X hQ hK hP hD hS ls hl
  obtain ⟨hx, hb, hml, hown, hts, hr, hlocks, hA, hZ⟩ := id X
  have hl : lv_has ls 7 [(0, .ref mo)] := hl
  unfold fX10_bar at hf
  have hf := qob_top hf
  refine lv_aload_n hx hb dX10_bar_0 rfl (lv_at hl 0 rfl) ?_
  refine lv_iconst (v := 0) hx hb dX10_bar_1 (by decide) ?_
  refine va_put (D := D) (ci := 10) (v := .int 0) (ty := .int) (C := RX10) (T := TX10) (N := 34) hx hb hts inwX10_bar_X10 tyX10 tyX10_ok nmX10 hown hK hP hD hS 0 rfl rfl 0 (by decide) (hts (.fieldLink RX10 79 "HedgeWaysModel" "thrown" "I") (List.mem_of_getElem? (i := 1) rfl)) (fun _ h9 => h9) rfl (tyX10_ok 0 (by decide)) rfl rfl (Nat.le_of_ble_eq_true rfl) dX10_bar_2 (fun H locs hP hD hS => ?_)
  have hP : va_P D vwCl ([oX10 mo ma 0 m_textSize m_rows m_columns m_a m_b m_readRows m_readColumns m_at m_looks m_came m_draw m_turnedRows m_turnedColumns, aZ cy (ma 1) 36 m_right, aZ cy (ma 2) 36 m_down, aI cy (ma 7) 36 m_dist, aI cy (ma 8) 36 m_queue, aZ cy (ma 10) 36 m_shut]) H := hP
  have hD : va_D A ([oX10 mo ma 0 m_textSize m_rows m_columns m_a m_b m_readRows m_readColumns m_at m_looks m_came m_draw m_turnedRows m_turnedColumns, aZ cy (ma 1) 36 m_right, aZ cy (ma 2) 36 m_down, aI cy (ma 7) 36 m_dist, aI cy (ma 8) 36 m_queue, aZ cy (ma 10) 36 m_shut]) := hD
  refine lv_aload_n hx hb dX10_bar_5 rfl (lv_at hl 0 rfl) ?_
  refine lv_aload_n hx hb dX10_bar_6 rfl (lv_at hl 0 rfl) ?_
  refine va_get (D := D) (ci := 10) (v := .int m_a) (C := RX10) (T := TX10) (N := 34) hx hb hts inwX10_bar_X10 hown hK hP 0 rfl rfl 7 (by decide) (hts (.fieldLink RX10 103 "HedgeWaysModel" "a" "I") (List.mem_of_getElem? (i := 2) rfl)) (fun _ h9 => h9) rfl dX10_bar_7 ?_
  refine lv_aload_n hx hb dX10_bar_10 rfl (lv_at hl 0 rfl) ?_
  refine va_get (D := D) (ci := 10) (v := .int m_b) (C := RX10) (T := TX10) (N := 34) hx hb hts inwX10_bar_X10 hown hK hP 0 rfl rfl 8 (by decide) (hts (.fieldLink RX10 106 "HedgeWaysModel" "b" "I") (List.mem_of_getElem? (i := 3) rfl)) (fun _ h9 => h9) rfl dX10_bar_11 ?_
  obtain ⟨r_1, m_dist_1, m_queue_1, q1, hf⟩ := qcall3 hf
  refine ctV_i (r := r_1) (wc := [oX10 mo ma 0 m_textSize m_rows m_columns m_a m_b m_readRows m_readColumns m_at m_looks m_came m_draw m_turnedRows m_turnedColumns, aZ cy (ma 1) 36 m_right, aZ cy (ma 2) 36 m_down, aI cy (ma 7) 36 m_dist, aI cy (ma 8) 36 m_queue, aZ cy (ma 10) 36 m_shut]) (w1 := [oX10 mo ma 0 m_textSize m_rows m_columns m_a m_b m_readRows m_readColumns m_at m_looks m_came m_draw m_turnedRows m_turnedColumns, aZ cy (ma 1) 36 m_right, aZ cy (ma 2) 36 m_down, aI cy (ma 7) 36 m_dist_1, aI cy (ma 8) 36 m_queue_1, aZ cy (ma 10) 36 m_shut]) (wr := []) (wn := [oX10 mo ma 0 m_textSize m_rows m_columns m_a m_b m_readRows m_readColumns m_at m_looks m_came m_draw m_turnedRows m_turnedColumns, aZ cy (ma 1) 36 m_right, aZ cy (ma 2) 36 m_down, aI cy (ma 7) 36 m_dist_1, aI cy (ma 8) 36 m_queue_1, aZ cy (ma 10) 36 m_shut]) (As := [.int m_a, .int m_b]) (rest := []) (q0 := 0) X hK hP hD hS [0, 1, 2, 3, 4, 5] [] [0, 1, 2, 3, 4, 5] rfl rfl rfl rfl rfl (by decide) rfl rfl rfl (KX10_farOf q1 _) (cwV 2 hts gX10_bar_X10_farOf rfl rfl rfl hdX10_farOf ⟨Nat.le_of_ble_eq_true rfl, Nat.le_of_ble_eq_true rfl⟩) rfl rfl rfl hl rfl (Nat.le_of_ble_eq_true rfl) dX10_bar_14 (Nat.zero_le _) (Nat.zero_le _) (fun H locs hP hD hS => ?_)
  refine lv_istore_n (lv' := [(1, .int r_1), (0, .ref mo)]) hx hb dX10_bar_17 rfl hl (by decide) rfl (fun ls hl => ?_)
  refine lv_bipush (v := (-9)) hx hb dX10_bar_18 (by decide) ?_
  refine lv_istore_n (lv' := [(2, .int (-9)), (1, .int r_1), (0, .ref mo)]) hx hb dX10_bar_20 rfl hl (by decide) rfl (fun ls hl => ?_)
  refine lv_iconst (v := 0) hx hb dX10_bar_21 (by decide) ?_
  refine lv_istore_n (lv' := [(3, .int 0), (2, .int (-9)), (1, .int r_1), (0, .ref mo)]) hx hb dX10_bar_22 rfl hl (by decide) rfl (fun ls hl => ?_)
  refine qjoin5 hf (fun (x2_1 : Int32) (m_right_1 : Nat → Int32) (m_down_1 : Nat → Int32) (m_dist_2 : Nat → Int32) (m_queue_2 : Nat → Int32) => ∀ (H : Heap) (locs : List Loc) (ls : Array Slot), ctW D A s ([oX10 mo ma 0 m_textSize m_rows m_columns m_a m_b m_readRows m_readColumns m_at m_looks m_came m_draw m_turnedRows m_turnedColumns, aZ cy (ma 1) 36 m_right_1, aZ cy (ma 2) 36 m_down_1, aI cy (ma 7) 36 m_dist_2, aI cy (ma 8) 36 m_queue_2, aZ cy (ma 10) 36 m_shut]) H locs → lv_has ls 7 [(2, .int x2_1)] → W p l e rmX10_bar s m args below meth c H locs 0 0 Q (F0 m 151 ls [])) ?_ ?_
  · intro x2_1 m_right_1 m_down_1 m_dist_2 m_queue_2 hf H locs ls ⟨hP, hD, hS⟩ hl
    refine lv_iload_n hx hb dX10_bar_151 rfl (lv_at hl 0 rfl) ?_
    cases qob_ret hf
    exact ct_iret X hQ hK hP hD hS rfl dX10_bar_152
  · intro J2 hJ2 hf
    refine qwalk7 (fun (x1_1 : Int32) (x2_2 : Int32) (x3_1 : Int32) (m_right_2 : Nat → Int32) (m_down_2 : Nat → Int32) (m_dist_3 : Nat → Int32) (m_queue_3 : Nat → Int32) => ∀ (H : Heap) (locs : List Loc) (ls : Array Slot), ctW D A s ([oX10 mo ma 0 m_textSize m_rows m_columns m_a m_b m_readRows m_readColumns m_at m_looks m_came m_draw m_turnedRows m_turnedColumns, aZ cy (ma 1) 36 m_right_2, aZ cy (ma 2) 36 m_down_2, aI cy (ma 7) 36 m_dist_3, aI cy (ma 8) 36 m_queue_3, aZ cy (ma 10) 36 m_shut]) H locs → lv_has ls 7 [(0, .ref mo), (1, .int x1_1), (2, .int x2_2), (3, .int x3_1)] → W p l e rmX10_bar s m args below meth c H locs 0 0 Q (F0 m 23 ls [])) ?_ _ r_1 (-9 : Int32) (0 : Int32) m_right m_down m_dist_1 m_queue_1 hf _ _ _ ⟨hP, hD, hS⟩ (lv_sub hl [3, 2, 1, 0] rfl)
    intro J3 hL3 x1_1 x2_2 x3_1 m_right_2 m_down_2 m_dist_3 m_queue_3 hf H locs ls ⟨hP, hD, hS⟩ hl
    refine lv_iload_n hx hb dX10_bar_23 rfl (lv_at hl 3 rfl) ?_
    refine lv_bipush (v := 36) hx hb dX10_bar_24 (by decide) ?_
    refine lv_icmp_ge (tgt := 151) hx hb dX10_bar_26 (by decide) (fun c4 => ?_) (fun c4 => ?_)
    · have hf := qob_t hf c4
      have hf := qob_esc hf
      exact hJ2 x2_2 m_right_2 m_down_2 m_dist_3 m_queue_3 hf _ _ _ ⟨hP, hD, hS⟩ (lv_sub hl [2] rfl)
    · have hf := qob_f hf c4
      refine lv_iconst (v := 1) hx hb dX10_bar_29 (by decide) ?_
      refine lv_istore (lv' := [(4, .int 1), (0, .ref mo), (1, .int x1_1), (2, .int x2_2), (3, .int x3_1)]) hx hb dX10_bar_30 hl (by decide) rfl (fun ls hl => ?_)
      refine qjoin6 hf (fun (x1_2 : Int32) (x2_3 : Int32) (m_right_3 : Nat → Int32) (m_down_3 : Nat → Int32) (m_dist_4 : Nat → Int32) (m_queue_4 : Nat → Int32) => ∀ (H : Heap) (locs : List Loc) (ls : Array Slot), ctW D A s ([oX10 mo ma 0 m_textSize m_rows m_columns m_a m_b m_readRows m_readColumns m_at m_looks m_came m_draw m_turnedRows m_turnedColumns, aZ cy (ma 1) 36 m_right_3, aZ cy (ma 2) 36 m_down_3, aI cy (ma 7) 36 m_dist_4, aI cy (ma 8) 36 m_queue_4, aZ cy (ma 10) 36 m_shut]) H locs → lv_has ls 7 [(0, .ref mo), (1, .int x1_2), (2, .int x2_3), (3, .int x3_1)] → W p l e rmX10_bar s m args below meth c H locs 0 0 Q (F0 m 145 ls [])) ?_ ?_
      · intro x1_2 x2_3 m_right_3 m_down_3 m_dist_4 m_queue_4 hf H locs ls ⟨hP, hD, hS⟩ hl
        refine lv_iinc (v := (x3_1 + 1)) (lv' := [(3, .int (x3_1 + 1)), (0, .ref mo), (1, .int x1_2), (2, .int x2_3)]) hx hb dX10_bar_145 hl (k := 3) rfl rfl (by decide) rfl (fun ls hl => ?_)
        refine lv_goto (tgt := 23) hx hb dX10_bar_148 (by decide) ?_
        exact hL3 x1_2 x2_3 (x3_1 + 1) m_right_3 m_down_3 m_dist_4 m_queue_4 hf _ _ _ ⟨hP, hD, hS⟩ (lv_sub hl [1, 2, 3, 0] rfl)
      · intro J5 hJ5 hf
        refine qwalk7 (fun (x1_3 : Int32) (x2_4 : Int32) (x4_1 : Int32) (m_right_4 : Nat → Int32) (m_down_4 : Nat → Int32) (m_dist_5 : Nat → Int32) (m_queue_5 : Nat → Int32) => ∀ (H : Heap) (locs : List Loc) (ls : Array Slot), ctW D A s ([oX10 mo ma 0 m_textSize m_rows m_columns m_a m_b m_readRows m_readColumns m_at m_looks m_came m_draw m_turnedRows m_turnedColumns, aZ cy (ma 1) 36 m_right_4, aZ cy (ma 2) 36 m_down_4, aI cy (ma 7) 36 m_dist_5, aI cy (ma 8) 36 m_queue_5, aZ cy (ma 10) 36 m_shut]) H locs → lv_has ls 7 [(0, .ref mo), (1, .int x1_3), (2, .int x2_4), (3, .int x3_1), (4, .int x4_1)] → W p l e rmX10_bar s m args below meth c H locs 0 0 Q (F0 m 32 ls [])) ?_ _ x1_1 x2_2 (1 : Int32) m_right_2 m_down_2 m_dist_3 m_queue_3 hf _ _ _ ⟨hP, hD, hS⟩ (lv_sub hl [1, 2, 3, 4, 0] rfl)
        intro J6 hL6 x1_3 x2_4 x4_1 m_right_4 m_down_4 m_dist_5 m_queue_5 hf H locs ls ⟨hP, hD, hS⟩ hl
        refine lv_iload hx hb dX10_bar_32 (lv_at hl 4 rfl) ?_
        refine lv_iconst (v := 3) hx hb dX10_bar_34 (by decide) ?_
        refine lv_icmp_ge (tgt := 145) hx hb dX10_bar_35 (by decide) (fun c7 => ?_) (fun c7 => ?_)
        · have hf := qob_t hf c7
          have hf := qob_esc hf
          exact hJ5 x1_3 x2_4 m_right_4 m_down_4 m_dist_5 m_queue_5 hf _ _ _ ⟨hP, hD, hS⟩ (lv_sub hl [0, 1, 2, 3] rfl)
        · have hf := qob_f hf c7
          refine lv_aload_n hx hb dX10_bar_38 rfl (lv_at hl 0 rfl) ?_
          refine lv_iload_n hx hb dX10_bar_39 rfl (lv_at hl 3 rfl) ?_
          refine ctV_i0 (r := (fX10_isThere m_rows m_columns x3_1)) (wc := [oX10 mo ma 0 m_textSize m_rows m_columns m_a m_b m_readRows m_readColumns m_at m_looks m_came m_draw m_turnedRows m_turnedColumns]) (As := [.int x3_1]) (rest := []) (q0 := 0) X hK hP hD hS [0] rfl rfl rfl (KX10_isThere rfl _) (cwV 1 hts gX10_bar_X10_isThere rfl rfl rfl hdX10_isThere ⟨Nat.le_of_ble_eq_true rfl, Nat.le_of_ble_eq_true rfl⟩) rfl rfl rfl hl rfl (Nat.le_of_ble_eq_true rfl) dX10_bar_40 (Nat.zero_le _) (Nat.zero_le _) (fun H locs hP hS => ?_)
          refine lv_if_eq (tgt := 139) hx hb dX10_bar_43 (by decide) (fun c8 => ?_) (fun c8 => ?_)
          · have hf := qob_t hf c8
            refine lv_iinc (v := (x4_1 + 1)) (lv' := [(4, .int (x4_1 + 1)), (0, .ref mo), (1, .int x1_3), (2, .int x2_4), (3, .int x3_1)]) hx hb dX10_bar_139 hl (k := 4) rfl rfl (by decide) rfl (fun ls hl => ?_)
            refine lv_goto (tgt := 32) hx hb dX10_bar_142 (by decide) ?_
            exact hL6 x1_3 x2_4 (x4_1 + 1) m_right_4 m_down_4 m_dist_5 m_queue_5 hf _ _ _ ⟨hP, hD, hS⟩ (lv_sub hl [1, 2, 3, 4, 0] rfl)
          · have hf := qob_f hf c8
            refine lv_aload_n hx hb dX10_bar_46 rfl (lv_at hl 0 rfl) ?_
            refine lv_iload_n hx hb dX10_bar_47 rfl (lv_at hl 3 rfl) ?_
            refine lv_iload hx hb dX10_bar_48 (lv_at hl 4 rfl) ?_
            obtain ⟨r_2, q9, hf⟩ := qcall1 hf
            refine ctV_i0 (r := r_2) (wc := [oX10 mo ma 0 m_textSize m_rows m_columns m_a m_b m_readRows m_readColumns m_at m_looks m_came m_draw m_turnedRows m_turnedColumns, aZ cy (ma 1) 36 m_right_4, aZ cy (ma 2) 36 m_down_4]) (As := [.int x3_1, .int x4_1]) (rest := []) (q0 := 0) X hK hP hD hS [0, 1, 2] rfl rfl rfl (KX10_isOpen q9 _) (cwV 2 hts gX10_bar_X10_isOpen rfl rfl rfl hdX10_isOpen ⟨Nat.le_of_ble_eq_true rfl, Nat.le_of_ble_eq_true rfl⟩) rfl rfl rfl hl rfl (Nat.le_of_ble_eq_true rfl) dX10_bar_50 (Nat.zero_le _) (Nat.zero_le _) (fun H locs hP hS => ?_)
            refine lv_if_eq (tgt := 139) hx hb dX10_bar_53 (by decide) (fun c10 => ?_) (fun c10 => ?_)
            · have hf := qob_t hf c10
              refine lv_iinc (v := (x4_1 + 1)) (lv' := [(4, .int (x4_1 + 1)), (0, .ref mo), (1, .int x1_3), (2, .int x2_4), (3, .int x3_1)]) hx hb dX10_bar_139 hl (k := 4) rfl rfl (by decide) rfl (fun ls hl => ?_)
              refine lv_goto (tgt := 32) hx hb dX10_bar_142 (by decide) ?_
              exact hL6 x1_3 x2_4 (x4_1 + 1) m_right_4 m_down_4 m_dist_5 m_queue_5 hf _ _ _ ⟨hP, hD, hS⟩ (lv_sub hl [1, 2, 3, 4, 0] rfl)
            · have hf := qob_f hf c10
              refine lv_aload_n hx hb dX10_bar_56 rfl (lv_at hl 0 rfl) ?_
              refine lv_iload_n hx hb dX10_bar_57 rfl (lv_at hl 3 rfl) ?_
              refine lv_iload hx hb dX10_bar_58 (lv_at hl 4 rfl) ?_
              refine lv_iconst (v := 0) hx hb dX10_bar_60 (by decide) ?_
              obtain ⟨m_right_5, m_down_5, q11, hf⟩ := qcall2 hf
              refine ctV_v (wc := [oX10 mo ma 0 m_textSize m_rows m_columns m_a m_b m_readRows m_readColumns m_at m_looks m_came m_draw m_turnedRows m_turnedColumns, aZ cy (ma 1) 36 m_right_4, aZ cy (ma 2) 36 m_down_4]) (w1 := [oX10 mo ma 0 m_textSize m_rows m_columns m_a m_b m_readRows m_readColumns m_at m_looks m_came m_draw m_turnedRows m_turnedColumns, aZ cy (ma 1) 36 m_right_5, aZ cy (ma 2) 36 m_down_5]) (wr := [aI cy (ma 7) 36 m_dist_5, aI cy (ma 8) 36 m_queue_5, aZ cy (ma 10) 36 m_shut]) (wn := [oX10 mo ma 0 m_textSize m_rows m_columns m_a m_b m_readRows m_readColumns m_at m_looks m_came m_draw m_turnedRows m_turnedColumns, aZ cy (ma 1) 36 m_right_5, aZ cy (ma 2) 36 m_down_5, aI cy (ma 7) 36 m_dist_5, aI cy (ma 8) 36 m_queue_5, aZ cy (ma 10) 36 m_shut]) (As := [.int x3_1, .int x4_1, .int 0]) (rest := []) (q0 := 0) X hK hP hD hS [0, 1, 2] [3, 4, 5] [3, 4, 5, 0, 1, 2] rfl rfl rfl rfl rfl (by decide) rfl rfl rfl (KX10_set q11 _) (cwV 3 hts gX10_bar_X10_set rfl rfl rfl hdX10_set ⟨Nat.le_of_ble_eq_true rfl, Nat.le_of_ble_eq_true rfl⟩) rfl rfl rfl hl rfl (Nat.le_of_ble_eq_true rfl) dX10_bar_61 (Nat.zero_le _) (Nat.zero_le _) (fun H locs hP hD hS => ?_)
              refine lv_aload_n hx hb dX10_bar_64 rfl (lv_at hl 0 rfl) ?_
              refine lv_aload_n hx hb dX10_bar_65 rfl (lv_at hl 0 rfl) ?_
              refine va_get (D := D) (ci := 10) (v := .int m_a) (C := RX10) (T := TX10) (N := 34) hx hb hts inwX10_bar_X10 hown hK hP 0 rfl rfl 7 (by decide) (hts (.fieldLink RX10 103 "HedgeWaysModel" "a" "I") (List.mem_of_getElem? (i := 2) rfl)) (fun _ h9 => h9) rfl dX10_bar_66 ?_
              refine lv_aload_n hx hb dX10_bar_69 rfl (lv_at hl 0 rfl) ?_
              refine va_get (D := D) (ci := 10) (v := .int m_b) (C := RX10) (T := TX10) (N := 34) hx hb hts inwX10_bar_X10 hown hK hP 0 rfl rfl 8 (by decide) (hts (.fieldLink RX10 106 "HedgeWaysModel" "b" "I") (List.mem_of_getElem? (i := 3) rfl)) (fun _ h9 => h9) rfl dX10_bar_70 ?_
              obtain ⟨r_3, m_dist_6, m_queue_6, q12, hf⟩ := qcall3 hf
              refine ctV_i (r := r_3) (wc := [oX10 mo ma 0 m_textSize m_rows m_columns m_a m_b m_readRows m_readColumns m_at m_looks m_came m_draw m_turnedRows m_turnedColumns, aZ cy (ma 1) 36 m_right_5, aZ cy (ma 2) 36 m_down_5, aI cy (ma 7) 36 m_dist_5, aI cy (ma 8) 36 m_queue_5, aZ cy (ma 10) 36 m_shut]) (w1 := [oX10 mo ma 0 m_textSize m_rows m_columns m_a m_b m_readRows m_readColumns m_at m_looks m_came m_draw m_turnedRows m_turnedColumns, aZ cy (ma 1) 36 m_right_5, aZ cy (ma 2) 36 m_down_5, aI cy (ma 7) 36 m_dist_6, aI cy (ma 8) 36 m_queue_6, aZ cy (ma 10) 36 m_shut]) (wr := []) (wn := [oX10 mo ma 0 m_textSize m_rows m_columns m_a m_b m_readRows m_readColumns m_at m_looks m_came m_draw m_turnedRows m_turnedColumns, aZ cy (ma 1) 36 m_right_5, aZ cy (ma 2) 36 m_down_5, aI cy (ma 7) 36 m_dist_6, aI cy (ma 8) 36 m_queue_6, aZ cy (ma 10) 36 m_shut]) (As := [.int m_a, .int m_b]) (rest := []) (q0 := 0) X hK hP hD hS [0, 1, 2, 3, 4, 5] [] [0, 1, 2, 3, 4, 5] rfl rfl rfl rfl rfl (by decide) rfl rfl rfl (KX10_farOf q12 _) (cwV 2 hts gX10_bar_X10_farOf rfl rfl rfl hdX10_farOf ⟨Nat.le_of_ble_eq_true rfl, Nat.le_of_ble_eq_true rfl⟩) rfl rfl rfl hl rfl (Nat.le_of_ble_eq_true rfl) dX10_bar_73 (Nat.zero_le _) (Nat.zero_le _) (fun H locs hP hD hS => ?_)
              refine lv_istore (lv' := [(5, .int r_3), (0, .ref mo), (1, .int x1_3), (2, .int x2_4), (3, .int x3_1), (4, .int x4_1)]) hx hb dX10_bar_76 hl (by decide) rfl (fun ls hl => ?_)
              refine lv_aload_n hx hb dX10_bar_78 rfl (lv_at hl 1 rfl) ?_
              refine lv_iload_n hx hb dX10_bar_79 rfl (lv_at hl 4 rfl) ?_
              refine lv_iload hx hb dX10_bar_80 (lv_at hl 5 rfl) ?_
              refine lv_iconst (v := 1) hx hb dX10_bar_82 (by decide) ?_
              obtain ⟨m_right_6, m_down_6, q13, hf⟩ := qcall2 hf
              refine ctV_v (wc := [oX10 mo ma 0 m_textSize m_rows m_columns m_a m_b m_readRows m_readColumns m_at m_looks m_came m_draw m_turnedRows m_turnedColumns, aZ cy (ma 1) 36 m_right_5, aZ cy (ma 2) 36 m_down_5]) (w1 := [oX10 mo ma 0 m_textSize m_rows m_columns m_a m_b m_readRows m_readColumns m_at m_looks m_came m_draw m_turnedRows m_turnedColumns, aZ cy (ma 1) 36 m_right_6, aZ cy (ma 2) 36 m_down_6]) (wr := [aI cy (ma 7) 36 m_dist_6, aI cy (ma 8) 36 m_queue_6, aZ cy (ma 10) 36 m_shut]) (wn := [oX10 mo ma 0 m_textSize m_rows m_columns m_a m_b m_readRows m_readColumns m_at m_looks m_came m_draw m_turnedRows m_turnedColumns, aZ cy (ma 1) 36 m_right_6, aZ cy (ma 2) 36 m_down_6, aI cy (ma 7) 36 m_dist_6, aI cy (ma 8) 36 m_queue_6, aZ cy (ma 10) 36 m_shut]) (As := [.int x3_1, .int x4_1, .int 1]) (rest := []) (q0 := 0) X hK hP hD hS [0, 1, 2] [3, 4, 5] [3, 4, 5, 0, 1, 2] rfl rfl rfl rfl rfl (by decide) rfl rfl rfl (KX10_set q13 _) (cwV 3 hts gX10_bar_X10_set rfl rfl rfl hdX10_set ⟨Nat.le_of_ble_eq_true rfl, Nat.le_of_ble_eq_true rfl⟩) rfl rfl rfl hl rfl (Nat.le_of_ble_eq_true rfl) dX10_bar_83 (Nat.zero_le _) (Nat.zero_le _) (fun H locs hP hD hS => ?_)
              refine lv_iload hx hb dX10_bar_86 (lv_at hl 0 rfl) ?_
              refine lv_sipush (v := 9999) hx hb dX10_bar_88 (by decide) ?_
              refine qjoin1 hf (fun (s_1 : Int32) => ∀ (H : Heap) (locs : List Loc) (ls : Array Slot), ctW D A s ([oX10 mo ma 0 m_textSize m_rows m_columns m_a m_b m_readRows m_readColumns m_at m_looks m_came m_draw m_turnedRows m_turnedColumns, aZ cy (ma 1) 36 m_right_6, aZ cy (ma 2) 36 m_down_6, aI cy (ma 7) 36 m_dist_6, aI cy (ma 8) 36 m_queue_6, aZ cy (ma 10) 36 m_shut]) H locs → lv_has ls 7 [(0, .ref mo), (1, .int x1_3), (2, .int x2_4), (3, .int x3_1), (4, .int x4_1), (5, .int r_3)] → W p l e rmX10_bar s m args below meth c H locs 0 0 Q (F0 m 105 ls [.int s_1])) ?_ ?_
              · intro s_1 hf H locs ls ⟨hP, hD, hS⟩ hl
                refine lv_istore (lv' := [(6, .int s_1), (0, .ref mo), (1, .int x1_3), (2, .int x2_4), (3, .int x3_1), (4, .int x4_1), (5, .int r_3)]) hx hb dX10_bar_105 hl (by decide) rfl (fun ls hl => ?_)
                refine lv_iload hx hb dX10_bar_107 (lv_at hl 0 rfl) ?_
                refine qjoin1 hf (fun (s_2 : Int32) => ∀ (H : Heap) (locs : List Loc) (ls : Array Slot), ctW D A s ([oX10 mo ma 0 m_textSize m_rows m_columns m_a m_b m_readRows m_readColumns m_at m_looks m_came m_draw m_turnedRows m_turnedColumns, aZ cy (ma 1) 36 m_right_6, aZ cy (ma 2) 36 m_down_6, aI cy (ma 7) 36 m_dist_6, aI cy (ma 8) 36 m_queue_6, aZ cy (ma 10) 36 m_shut]) H locs → lv_has ls 7 [(0, .ref mo), (1, .int x1_3), (3, .int x3_1), (4, .int x4_1), (5, .int r_3), (6, .int s_1)] → W p l e rmX10_bar s m args below meth c H locs 0 0 Q (F0 m 126 ls [.int s_2])) ?_ ?_
                · intro s_2 hf H locs ls ⟨hP, hD, hS⟩ hl
                  refine lv_istore_n (lv' := [(2, .int s_2), (0, .ref mo), (1, .int x1_3), (3, .int x3_1), (4, .int x4_1), (5, .int r_3), (6, .int s_1)]) hx hb dX10_bar_126 rfl hl (by decide) rfl (fun ls hl => ?_)
                  refine lv_iload hx hb dX10_bar_127 (lv_at hl 6 rfl) ?_
                  refine lv_if_eq (tgt := 137) hx hb dX10_bar_129 (by decide) (fun c14 => ?_) (fun c14 => ?_)
                  · have hf := qob_t hf c14
                    refine lv_iload_n hx hb dX10_bar_137 rfl (lv_at hl 2 rfl) ?_
                    refine lv_istore_n (lv' := [(1, .int x1_3), (2, .int s_2), (0, .ref mo), (3, .int x3_1), (4, .int x4_1), (5, .int r_3), (6, .int s_1)]) hx hb dX10_bar_138 rfl hl (by decide) rfl (fun ls hl => ?_)
                    refine lv_iinc (v := (x4_1 + 1)) (lv' := [(4, .int (x4_1 + 1)), (1, .int x1_3), (2, .int s_2), (0, .ref mo), (3, .int x3_1), (5, .int r_3), (6, .int s_1)]) hx hb dX10_bar_139 hl (k := 4) rfl rfl (by decide) rfl (fun ls hl => ?_)
                    refine lv_goto (tgt := 32) hx hb dX10_bar_142 (by decide) ?_
                    exact hL6 x1_3 s_2 (x4_1 + 1) m_right_6 m_down_6 m_dist_6 m_queue_6 hf _ _ _ ⟨hP, hD, hS⟩ (lv_sub hl [3, 1, 2, 4, 0] rfl)
                  · have hf := qob_f hf c14
                    refine lv_iload hx hb dX10_bar_132 (lv_at hl 5 rfl) ?_
                    refine lv_goto (tgt := 138) hx hb dX10_bar_134 (by decide) ?_
                    refine lv_istore_n (lv' := [(1, .int r_3), (2, .int s_2), (0, .ref mo), (3, .int x3_1), (4, .int x4_1), (5, .int r_3), (6, .int s_1)]) hx hb dX10_bar_138 rfl hl (by decide) rfl (fun ls hl => ?_)
                    refine lv_iinc (v := (x4_1 + 1)) (lv' := [(4, .int (x4_1 + 1)), (1, .int r_3), (2, .int s_2), (0, .ref mo), (3, .int x3_1), (5, .int r_3), (6, .int s_1)]) hx hb dX10_bar_139 hl (k := 4) rfl rfl (by decide) rfl (fun ls hl => ?_)
                    refine lv_goto (tgt := 32) hx hb dX10_bar_142 (by decide) ?_
                    exact hL6 r_3 s_2 (x4_1 + 1) m_right_6 m_down_6 m_dist_6 m_queue_6 hf _ _ _ ⟨hP, hD, hS⟩ (lv_sub hl [3, 1, 2, 4, 0] rfl)
                · intro J15 hJ15 hf
                  refine lv_if_eq (tgt := 125) hx hb dX10_bar_109 (by decide) (fun c16 => ?_) (fun c16 => ?_)
                  · have hf := qob_t hf c16
                    refine lv_iload_n hx hb dX10_bar_125 rfl (lv_at hl 3 rfl) ?_
                    exact hJ15 x2_4 hf _ _ _ ⟨hP, hD, hS⟩ (lv_sub hl [1, 2, 4, 5, 6, 0] rfl)
                  · have hf := qob_f hf c16
                    refine lv_bipush (v := 10) hx hb dX10_bar_112 (by decide) ?_
                    refine lv_iload_n hx hb dX10_bar_114 rfl (lv_at hl 4 rfl) ?_
                    refine ctS_i0 (r := (fX10_code x3_1)) (wc := []) (As := [.int x3_1]) (rest := [.int 10]) X hK hP hD hS [] rfl rfl rfl (KX10_code rfl _) (va_cwS 1 hts gX10_bar_X10_code rfl rfl rfl hdX10_code ⟨Nat.le_of_ble_eq_true rfl, Nat.le_of_ble_eq_true rfl⟩) rfl hl rfl (Nat.le_of_ble_eq_true rfl) dX10_bar_115 (Nat.zero_le _) (Nat.zero_le _) (fun H locs hP hS => ?_)
                    refine lv_imul hx hb dX10_bar_118 ?_
                    refine lv_iload hx hb dX10_bar_119 (lv_at hl 5 rfl) ?_
                    refine lv_iadd hx hb dX10_bar_121 ?_
                    refine lv_goto (tgt := 126) hx hb dX10_bar_122 (by decide) ?_
                    exact hJ15 ((10 * (fX10_code x3_1)) + x4_1) hf _ _ _ ⟨hP, hD, hS⟩ (lv_sub hl [1, 2, 4, 5, 6, 0] rfl)
              · intro J17 hJ17 hf
                refine lv_icmp_ge (tgt := 104) hx hb dX10_bar_91 (by decide) (fun c18 => ?_) (fun c18 => ?_)
                · have hf := qob_t hf c18
                  refine lv_iconst (v := 0) hx hb dX10_bar_104 (by decide) ?_
                  exact hJ17 0 hf _ _ _ ⟨hP, hD, hS⟩ (lv_sub hl [1, 2, 3, 4, 5, 0] rfl)
                · have hf := qob_f hf c18
                  refine lv_iload hx hb dX10_bar_94 (lv_at hl 0 rfl) ?_
                  refine lv_iload_n hx hb dX10_bar_96 rfl (lv_at hl 2 rfl) ?_
                  refine lv_icmp_le (tgt := 104) hx hb dX10_bar_97 (by decide) (fun c19 => ?_) (fun c19 => ?_)
                  · have hf := qob_t hf c19
                    refine lv_iconst (v := 0) hx hb dX10_bar_104 (by decide) ?_
                    exact hJ17 0 hf _ _ _ ⟨hP, hD, hS⟩ (lv_sub hl [1, 2, 3, 4, 5, 0] rfl)
                  · have hf := qob_f hf c19
                    refine lv_iconst (v := 1) hx hb dX10_bar_100 (by decide) ?_
                    refine lv_goto (tgt := 105) hx hb dX10_bar_101 (by decide) ?_
                    exact hJ17 1 hf _ _ _ ⟨hP, hD, hS⟩ (lv_sub hl [1, 2, 3, 4, 5, 0] rfl)
abbrev rmX10_goes : Room := { frames := 3, cells := 0, slots := 0, locals := 72 }
theorem hdX10_goes : yX10_goes.cls = RX10 ∧ yX10_goes.cls ≠ "java/lang/invoke/MethodHandle" ∧ yX10_goes.cls ≠ "java/lang/invoke/VarHandle" ∧ (parseMethodDescriptor yX10_goes.desc).map (fun d => d.parameters.length) = some 2 := by decide +kernel
set_option maxHeartbeats 4000000 in
set_option maxRecDepth 100000 in
theorem KX10_goes {l : Launch} {D : va_G} {cy : Nat → ClassId} {mo : Nat} {ma : Nat → Nat} {m_thrown : Int32} {m_textSize : Int32} {m_rows : Int32} {m_columns : Int32} {m_a : Int32} {m_b : Int32} {m_readRows : Int32} {m_readColumns : Int32} {m_at : Int32} {m_looks : Int32} {m_came : Int32} {m_draw : Int64} {m_turnedRows : Int32} {m_turnedColumns : Int32} {m_right : Nat → Int32} {m_down : Nat → Int32} {p1 : Int32} {p2 : Int32} {r : Int32} (hf : fX10_goes m_rows m_columns m_right m_down p1 p2 = some r) : CtI l yX10_goes wsX10_goes rmX10_goes D cy [.ref mo, .int p1, .int p2] ([oX10 mo ma m_thrown m_textSize m_rows m_columns m_a m_b m_readRows m_readColumns m_at m_looks m_came m_draw m_turnedRows m_turnedColumns, aZ cy (ma 1) 36 m_right, aZ cy (ma 2) 36 m_down]) ([oX10 mo ma m_thrown m_textSize m_rows m_columns m_a m_b m_readRows m_readColumns m_at m_looks m_came m_draw m_turnedRows m_turnedColumns, aZ cy (ma 1) 36 m_right, aZ cy (ma 2) 36 m_down]) r := by
  refine CtI.of (cc := cX10_goes) (maxL := 3) (ret := some .int) (own := RX10) (by decide) rfl rfl (Nat.le_of_ble_eq_true rfl) ?_
  intro p e s m args below meth c A Q X hQ hK hP hD hS ls hl
  obtain ⟨hx, hb, hml, hown, hts, hr, hlocks, hA, hZ⟩ := id X
  have hl : lv_has ls 3 [(0, .ref mo), (1, .int p1), (2, .int p2)] := hl
  unfold fX10_goes at hf
  have hf := qob_top hf
  refine lv_iload_n hx hb dX10_goes_0 rfl (lv_at hl 2 rfl) ?_
  refine lv_iconst (v := 4) hx hb dX10_goes_1 (by decide) ?_
  refine lv_icmp_ne (tgt := 9) hx hb dX10_goes_2 (by decide) (fun c1 => ?_) (fun c1 => ?_)
  · have hf := qob_f hf c1
    refine lv_aload_n hx hb dX10_goes_9 rfl (lv_at hl 0 rfl) ?_
    refine lv_iload_n hx hb dX10_goes_10 rfl (lv_at hl 1 rfl) ?_
    refine lv_iload_n hx hb dX10_goes_11 rfl (lv_at hl 2 rfl) ?_
    obtain ⟨r_1, q2, hf⟩ := qcall1 hf
    refine ctV_i0 (r := r_1) (wc := [oX10 mo ma m_thrown m_textSize m_rows m_columns m_a m_b m_readRows m_readColumns m_at m_looks m_came m_draw m_turnedRows m_turnedColumns, aZ cy (ma 1) 36 m_right, aZ cy (ma 2) 36 m_down]) (As := [.int p1, .int p2]) (rest := []) (q0 := 0) X hK hP hD hS [0, 1, 2] rfl rfl rfl (KX10_isOpen q2 _) (cwV 2 hts gX10_goes_X10_isOpen rfl rfl rfl hdX10_isOpen ⟨Nat.le_of_ble_eq_true rfl, Nat.le_of_ble_eq_true rfl⟩) rfl rfl rfl hl rfl (Nat.le_of_ble_eq_true rfl) dX10_goes_12 (Nat.zero_le _) (Nat.zero_le _) (fun H locs hP hS => ?_)
    refine lv_if_eq (tgt := 27) hx hb dX10_goes_15 (by decide) (fun c3 => ?_) (fun c3 => ?_)
    · have hf := qob_t hf c3
      refine lv_bipush (v := (-9)) hx hb dX10_goes_27 (by decide) ?_
      cases qob_ret hf
      exact ct_iret X hQ hK hP hD hS rfl dX10_goes_29
    · have hf := qob_f hf c3
      refine lv_aload_n hx hb dX10_goes_18 rfl (lv_at hl 0 rfl) ?_
      refine lv_iload_n hx hb dX10_goes_19 rfl (lv_at hl 1 rfl) ?_
      refine lv_iload_n hx hb dX10_goes_20 rfl (lv_at hl 2 rfl) ?_
      refine ctV_i0 (r := (fX10_beside m_rows m_columns p1 p2)) (wc := [oX10 mo ma m_thrown m_textSize m_rows m_columns m_a m_b m_readRows m_readColumns m_at m_looks m_came m_draw m_turnedRows m_turnedColumns]) (As := [.int p1, .int p2]) (rest := []) (q0 := 0) X hK hP hD hS [0] rfl rfl rfl (KX10_beside rfl _) (cwV 2 hts gX10_goes_X10_beside rfl rfl rfl hdX10_beside ⟨Nat.le_of_ble_eq_true rfl, Nat.le_of_ble_eq_true rfl⟩) rfl rfl rfl hl rfl (Nat.le_of_ble_eq_true rfl) dX10_goes_21 (Nat.zero_le _) (Nat.zero_le _) (fun H locs hP hS => ?_)
      refine lv_goto (tgt := 29) hx hb dX10_goes_24 (by decide) ?_
      cases qob_ret hf
      exact ct_iret X hQ hK hP hD hS rfl dX10_goes_29
  · have hf := qob_t hf c1
    refine lv_iload_n hx hb dX10_goes_5 rfl (lv_at hl 1 rfl) ?_
    refine lv_goto (tgt := 29) hx hb dX10_goes_6 (by decide) ?_
    cases qob_ret hf
    exact ct_iret X hQ hK hP hD hS rfl dX10_goes_29
theorem inwX10_homeBehind_X10 : ∀ w ∈ wsX100, w ∈ wsX10_homeBehind := fun _ h => List.mem_cons_of_mem _ (List.mem_append_right _ h)
abbrev rmX10_homeBehind : Room := { frames := 4, cells := 0, slots := 0, locals := 94 }
theorem hdX10_homeBehind : yX10_homeBehind.cls = RX10 ∧ yX10_homeBehind.cls ≠ "java/lang/invoke/MethodHandle" ∧ yX10_homeBehind.cls ≠ "java/lang/invoke/VarHandle" ∧ (parseMethodDescriptor yX10_homeBehind.desc).map (fun d => d.parameters.length) = some 2 := by decide +kernel
set_option maxHeartbeats 4000000 in
set_option maxRecDepth 100000 in
theorem KX10_homeBehind {l : Launch} {D : va_G} {cy : Nat → ClassId} {mo : Nat} {ma : Nat → Nat} {m_thrown : Int32} {m_textSize : Int32} {m_rows : Int32} {m_columns : Int32} {m_a : Int32} {m_b : Int32} {m_readRows : Int32} {m_readColumns : Int32} {m_at : Int32} {m_looks : Int32} {m_came : Int32} {m_draw : Int64} {m_turnedRows : Int32} {m_turnedColumns : Int32} {m_right : Nat → Int32} {m_down : Nat → Int32} {m_turns : Nat → Int32} {p1 : Int32} {p2 : Int32} {r : Int32} (hf : fX10_homeBehind m_rows m_columns m_b m_right m_down m_turns p1 p2 = some r) : CtI l yX10_homeBehind wsX10_homeBehind rmX10_homeBehind D cy [.ref mo, .int p1, .int p2] ([oX10 mo ma m_thrown m_textSize m_rows m_columns m_a m_b m_readRows m_readColumns m_at m_looks m_came m_draw m_turnedRows m_turnedColumns, aZ cy (ma 1) 36 m_right, aZ cy (ma 2) 36 m_down, aI cy (ma 17) 1296 m_turns]) ([oX10 mo ma m_thrown m_textSize m_rows m_columns m_a m_b m_readRows m_readColumns m_at m_looks m_came m_draw m_turnedRows m_turnedColumns, aZ cy (ma 1) 36 m_right, aZ cy (ma 2) 36 m_down, aI cy (ma 17) 1296 m_turns]) r := by
  refine CtI.of (cc := cX10_homeBehind) (maxL := 7) (ret := some .int) (own := RX10) (by decide) rfl rfl (Nat.le_of_ble_eq_true rfl) ?_
  intro p e s m args below meth c A Q X hQ hK hP hD hS ls hl
  obtain ⟨hx, hb, hml, hown, hts, hr, hlocks, hA, hZ⟩ := id X
  have hl : lv_has ls 7 [(0, .ref mo), (1, .int p1), (2, .int p2)] := hl
  unfold fX10_homeBehind at hf
  have hf := qob_top hf
  refine lv_iload_n hx hb dX10_homeBehind_0 rfl (lv_at hl 1 rfl) ?_
  refine lv_aload_n hx hb dX10_homeBehind_1 rfl (lv_at hl 0 rfl) ?_
  refine va_get (D := D) (ci := 10) (v := .int m_b) (C := RX10) (T := TX10) (N := 34) hx hb hts inwX10_homeBehind_X10 hown hK hP 0 rfl rfl 8 (by decide) (hts (.fieldLink RX10 106 "HedgeWaysModel" "b" "I") (List.mem_of_getElem? (i := 1) rfl)) (fun _ h9 => h9) rfl dX10_homeBehind_2 ?_
  refine qjoinE0 hf (∀ (H : Heap) (locs : List Loc) (ls : Array Slot), ctW D A s ([oX10 mo ma m_thrown m_textSize m_rows m_columns m_a m_b m_readRows m_readColumns m_at m_looks m_came m_draw m_turnedRows m_turnedColumns, aZ cy (ma 1) 36 m_right, aZ cy (ma 2) 36 m_down, aI cy (ma 17) 1296 m_turns]) H locs → lv_has ls 7 [(0, .ref mo), (1, .int p1), (2, .int p2)] → W p l e rmX10_homeBehind s m args below meth c H locs 0 0 Q (F0 m 15 ls [])) ?_ ?_
  · intro  hf H locs ls ⟨hP, hD, hS⟩ hl
    refine lv_iload_n hx hb dX10_homeBehind_15 rfl (lv_at hl 1 rfl) ?_
    refine lv_iload_n hx hb dX10_homeBehind_16 rfl (lv_at hl 2 rfl) ?_
    refine qjoin1 hf (fun (s_1 : Int32) => ∀ (H : Heap) (locs : List Loc) (ls : Array Slot), ctW D A s ([oX10 mo ma m_thrown m_textSize m_rows m_columns m_a m_b m_readRows m_readColumns m_at m_looks m_came m_draw m_turnedRows m_turnedColumns, aZ cy (ma 1) 36 m_right, aZ cy (ma 2) 36 m_down, aI cy (ma 17) 1296 m_turns]) H locs → lv_has ls 7 [(0, .ref mo), (1, .int p1), (2, .int p2)] → W p l e rmX10_homeBehind s m args below meth c H locs 0 0 Q (F0 m 27 ls [.int s_1])) ?_ ?_
    · intro s_1 hf H locs ls ⟨hP, hD, hS⟩ hl
      refine lv_istore_n (lv' := [(3, .int s_1), (0, .ref mo), (1, .int p1), (2, .int p2)]) hx hb dX10_homeBehind_27 rfl hl (by decide) rfl (fun ls hl => ?_)
      refine lv_iconst (v := 0) hx hb dX10_homeBehind_28 (by decide) ?_
      refine lv_istore (lv' := [(4, .int 0), (3, .int s_1), (0, .ref mo), (1, .int p1), (2, .int p2)]) hx hb dX10_homeBehind_29 hl (by decide) rfl (fun ls hl => ?_)
      refine qjoin1 hf (fun (x3_1 : Int32) => ∀ (H : Heap) (locs : List Loc) (ls : Array Slot), ctW D A s ([oX10 mo ma m_thrown m_textSize m_rows m_columns m_a m_b m_readRows m_readColumns m_at m_looks m_came m_draw m_turnedRows m_turnedColumns, aZ cy (ma 1) 36 m_right, aZ cy (ma 2) 36 m_down, aI cy (ma 17) 1296 m_turns]) H locs → lv_has ls 7 [(3, .int x3_1)] → W p l e rmX10_homeBehind s m args below meth c H locs 0 0 Q (F0 m 105 ls [])) ?_ ?_
      · intro x3_1 hf H locs ls ⟨hP, hD, hS⟩ hl
        refine lv_iload_n hx hb dX10_homeBehind_105 rfl (lv_at hl 0 rfl) ?_
        refine lv_sipush (v := 9999) hx hb dX10_homeBehind_106 (by decide) ?_
        refine lv_icmp_ge (tgt := 118) hx hb dX10_homeBehind_109 (by decide) (fun c1 => ?_) (fun c1 => ?_)
        · have hf := qob_t hf c1
          refine lv_sipush (v := 9999) hx hb dX10_homeBehind_118 (by decide) ?_
          cases qob_ret hf
          exact ct_iret X hQ hK hP hD hS rfl dX10_homeBehind_121
        · have hf := qob_f hf c1
          refine lv_iload_n hx hb dX10_homeBehind_112 rfl (lv_at hl 0 rfl) ?_
          refine lv_iconst (v := 1) hx hb dX10_homeBehind_113 (by decide) ?_
          refine lv_iadd hx hb dX10_homeBehind_114 ?_
          refine lv_goto (tgt := 121) hx hb dX10_homeBehind_115 (by decide) ?_
          cases qob_ret hf
          exact ct_iret X hQ hK hP hD hS rfl dX10_homeBehind_121
      · intro J2 hJ2 hf
        refine qwalk2 (fun (x3_2 : Int32) (x4_1 : Int32) => ∀ (H : Heap) (locs : List Loc) (ls : Array Slot), ctW D A s ([oX10 mo ma m_thrown m_textSize m_rows m_columns m_a m_b m_readRows m_readColumns m_at m_looks m_came m_draw m_turnedRows m_turnedColumns, aZ cy (ma 1) 36 m_right, aZ cy (ma 2) 36 m_down, aI cy (ma 17) 1296 m_turns]) H locs → lv_has ls 7 [(0, .ref mo), (1, .int p1), (2, .int p2), (3, .int x3_2), (4, .int x4_1)] → W p l e rmX10_homeBehind s m args below meth c H locs 0 0 Q (F0 m 31 ls [])) ?_ _ s_1 (0 : Int32) hf _ _ _ ⟨hP, hD, hS⟩ (lv_sub hl [2, 3, 4, 1, 0] rfl)
        intro J3 hL3 x3_2 x4_1 hf H locs ls ⟨hP, hD, hS⟩ hl
        refine lv_iload hx hb dX10_homeBehind_31 (lv_at hl 4 rfl) ?_
        refine lv_iconst (v := 5) hx hb dX10_homeBehind_33 (by decide) ?_
        refine lv_icmp_ge (tgt := 105) hx hb dX10_homeBehind_34 (by decide) (fun c4 => ?_) (fun c4 => ?_)
        · have hf := qob_t hf c4
          have hf := qob_esc hf
          exact hJ2 x3_2 hf _ _ _ ⟨hP, hD, hS⟩ (lv_sub hl [3] rfl)
        · have hf := qob_f hf c4
          refine lv_iload_n hx hb dX10_homeBehind_37 rfl (lv_at hl 3 rfl) ?_
          refine lv_sipush (v := 9999) hx hb dX10_homeBehind_38 (by decide) ?_
          refine lv_icmp_ge (tgt := 105) hx hb dX10_homeBehind_41 (by decide) (fun c5 => ?_) (fun c5 => ?_)
          · have hf := qob_t hf c5
            have hf := qob_esc hf
            exact hJ2 x3_2 hf _ _ _ ⟨hP, hD, hS⟩ (lv_sub hl [3] rfl)
          · have hf := qob_f hf c5
            refine lv_aload_n hx hb dX10_homeBehind_44 rfl (lv_at hl 0 rfl) ?_
            refine lv_iload_n hx hb dX10_homeBehind_45 rfl (lv_at hl 2 rfl) ?_
            refine lv_iload hx hb dX10_homeBehind_46 (lv_at hl 4 rfl) ?_
            obtain ⟨r_1, q6, hf⟩ := qcall1 hf
            refine ctV_i0 (r := r_1) (wc := [oX10 mo ma m_thrown m_textSize m_rows m_columns m_a m_b m_readRows m_readColumns m_at m_looks m_came m_draw m_turnedRows m_turnedColumns, aZ cy (ma 1) 36 m_right, aZ cy (ma 2) 36 m_down]) (As := [.int p2, .int x4_1]) (rest := []) (q0 := 0) X hK hP hD hS [0, 1, 2] rfl rfl rfl (KX10_goes q6 _) (cwV 2 hts gX10_homeBehind_X10_goes rfl rfl rfl hdX10_goes ⟨Nat.le_of_ble_eq_true rfl, Nat.le_of_ble_eq_true rfl⟩) rfl rfl rfl hl rfl (Nat.le_of_ble_eq_true rfl) dX10_homeBehind_48 (Nat.zero_le _) (Nat.zero_le _) (fun H locs hP hS => ?_)
            refine lv_istore (lv' := [(5, .int r_1), (0, .ref mo), (1, .int p1), (2, .int p2), (3, .int x3_2), (4, .int x4_1)]) hx hb dX10_homeBehind_51 hl (by decide) rfl (fun ls hl => ?_)
            refine lv_iload hx hb dX10_homeBehind_53 (lv_at hl 0 rfl) ?_
            refine lv_bipush (v := (-9)) hx hb dX10_homeBehind_55 (by decide) ?_
            refine lv_icmp_eq (tgt := 99) hx hb dX10_homeBehind_57 (by decide) (fun c7 => ?_) (fun c7 => ?_)
            · have hf := qob_t hf c7
              refine lv_iinc (v := (x4_1 + 1)) (lv' := [(4, .int (x4_1 + 1)), (5, .int r_1), (0, .ref mo), (1, .int p1), (2, .int p2), (3, .int x3_2)]) hx hb dX10_homeBehind_99 hl (k := 5) rfl rfl (by decide) rfl (fun ls hl => ?_)
              refine lv_goto (tgt := 31) hx hb dX10_homeBehind_102 (by decide) ?_
              exact hL3 x3_2 (x4_1 + 1) hf _ _ _ ⟨hP, hD, hS⟩ (lv_sub hl [2, 3, 4, 5, 0] rfl)
            · have hf := qob_f hf c7
              refine lv_iload hx hb dX10_homeBehind_60 (lv_at hl 0 rfl) ?_
              refine lv_iload_n hx hb dX10_homeBehind_62 rfl (lv_at hl 2 rfl) ?_
              refine qjoin1 hf (fun (s_2 : Int32) => ∀ (H : Heap) (locs : List Loc) (ls : Array Slot), ctW D A s ([oX10 mo ma m_thrown m_textSize m_rows m_columns m_a m_b m_readRows m_readColumns m_at m_looks m_came m_draw m_turnedRows m_turnedColumns, aZ cy (ma 1) 36 m_right, aZ cy (ma 2) 36 m_down, aI cy (ma 17) 1296 m_turns]) H locs → lv_has ls 7 [(0, .ref mo), (1, .int p1), (2, .int p2), (3, .int x3_2), (4, .int x4_1)] → W p l e rmX10_homeBehind s m args below meth c H locs 0 0 Q (F0 m 84 ls [.int s_2])) ?_ ?_
              · intro s_2 hf H locs ls ⟨hP, hD, hS⟩ hl
                refine lv_istore (lv' := [(6, .int s_2), (0, .ref mo), (1, .int p1), (2, .int p2), (3, .int x3_2), (4, .int x4_1)]) hx hb dX10_homeBehind_84 hl (by decide) rfl (fun ls hl => ?_)
                refine lv_iload hx hb dX10_homeBehind_86 (lv_at hl 0 rfl) ?_
                refine lv_iload_n hx hb dX10_homeBehind_88 rfl (lv_at hl 4 rfl) ?_
                refine lv_icmp_le (tgt := 97) hx hb dX10_homeBehind_89 (by decide) (fun c8 => ?_) (fun c8 => ?_)
                · have hf := qob_t hf c8
                  refine lv_iload_n hx hb dX10_homeBehind_97 rfl (lv_at hl 4 rfl) ?_
                  refine lv_istore_n (lv' := [(3, .int x3_2), (6, .int s_2), (0, .ref mo), (1, .int p1), (2, .int p2), (4, .int x4_1)]) hx hb dX10_homeBehind_98 rfl hl (by decide) rfl (fun ls hl => ?_)
                  refine lv_iinc (v := (x4_1 + 1)) (lv' := [(4, .int (x4_1 + 1)), (3, .int x3_2), (6, .int s_2), (0, .ref mo), (1, .int p1), (2, .int p2)]) hx hb dX10_homeBehind_99 hl (k := 5) rfl rfl (by decide) rfl (fun ls hl => ?_)
                  refine lv_goto (tgt := 31) hx hb dX10_homeBehind_102 (by decide) ?_
                  exact hL3 x3_2 (x4_1 + 1) hf _ _ _ ⟨hP, hD, hS⟩ (lv_sub hl [3, 4, 5, 1, 0] rfl)
                · have hf := qob_f hf c8
                  refine lv_iload hx hb dX10_homeBehind_92 (lv_at hl 0 rfl) ?_
                  refine lv_goto (tgt := 98) hx hb dX10_homeBehind_94 (by decide) ?_
                  refine lv_istore_n (lv' := [(3, .int s_2), (6, .int s_2), (0, .ref mo), (1, .int p1), (2, .int p2), (4, .int x4_1)]) hx hb dX10_homeBehind_98 rfl hl (by decide) rfl (fun ls hl => ?_)
                  refine lv_iinc (v := (x4_1 + 1)) (lv' := [(4, .int (x4_1 + 1)), (3, .int s_2), (6, .int s_2), (0, .ref mo), (1, .int p1), (2, .int p2)]) hx hb dX10_homeBehind_99 hl (k := 5) rfl rfl (by decide) rfl (fun ls hl => ?_)
                  refine lv_goto (tgt := 31) hx hb dX10_homeBehind_102 (by decide) ?_
                  exact hL3 s_2 (x4_1 + 1) hf _ _ _ ⟨hP, hD, hS⟩ (lv_sub hl [3, 4, 5, 1, 0] rfl)
              · intro J9 hJ9 hf
                refine lv_icmp_ne (tgt := 72) hx hb dX10_homeBehind_63 (by decide) (fun c10 => ?_) (fun c10 => ?_)
                · have hf := qob_f hf c10
                  refine lv_aload_n hx hb dX10_homeBehind_72 rfl (lv_at hl 1 rfl) ?_
                  refine va_get (D := D) (ci := 10) (v := .ref (ma 17)) (C := RX10) (T := TX10) (N := 34) hx hb hts inwX10_homeBehind_X10 hown hK hP 0 rfl rfl 28 (by decide) (hts (.fieldLink RX10 70 "HedgeWaysModel" "turns" "[I") (List.mem_of_getElem? (i := 2) rfl)) (fun _ h9 => h9) rfl dX10_homeBehind_73 ?_
                  refine lv_bipush (v := 36) hx hb dX10_homeBehind_76 (by decide) ?_
                  refine lv_iload_n hx hb dX10_homeBehind_78 rfl (lv_at hl 2 rfl) ?_
                  refine lv_imul hx hb dX10_homeBehind_79 ?_
                  refine lv_iload hx hb dX10_homeBehind_80 (lv_at hl 0 rfl) ?_
                  refine lv_iadd hx hb dX10_homeBehind_82 ?_
                  obtain ⟨i11, hf⟩ := qob_gd hf
                  refine va_iald hx hb hK hP 3 0 rfl rfl i11 dX10_homeBehind_83 ?_
                  exact hJ9 (m_turns (((36 * p1) + r_1)).toNatClampNeg) hf _ _ _ ⟨hP, hD, hS⟩ (lv_sub hl [1, 2, 3, 4, 5] rfl)
                · have hf := qob_t hf c10
                  refine lv_sipush (v := 9999) hx hb dX10_homeBehind_66 (by decide) ?_
                  refine lv_goto (tgt := 84) hx hb dX10_homeBehind_69 (by decide) ?_
                  exact hJ9 9999 hf _ _ _ ⟨hP, hD, hS⟩ (lv_sub hl [1, 2, 3, 4, 5] rfl)
    · intro J12 hJ12 hf
      refine lv_icmp_ne (tgt := 26) hx hb dX10_homeBehind_17 (by decide) (fun c13 => ?_) (fun c13 => ?_)
      · have hf := qob_f hf c13
        refine lv_iconst (v := 0) hx hb dX10_homeBehind_26 (by decide) ?_
        exact hJ12 0 hf _ _ _ ⟨hP, hD, hS⟩ hl
      · have hf := qob_t hf c13
        refine lv_sipush (v := 9999) hx hb dX10_homeBehind_20 (by decide) ?_
        refine lv_goto (tgt := 27) hx hb dX10_homeBehind_23 (by decide) ?_
        exact hJ12 9999 hf _ _ _ ⟨hP, hD, hS⟩ hl
  · intro J14 hJ14 hf
    refine lv_icmp_ne (tgt := 15) hx hb dX10_homeBehind_5 (by decide) (fun c15 => ?_) (fun c15 => ?_)
    · have hf := qob_f hf c15
      exact hJ14 hf _ _ _ ⟨hP, hD, hS⟩ hl
    · have hf := qob_t hf c15
      refine lv_iload_n hx hb dX10_homeBehind_8 rfl (lv_at hl 1 rfl) ?_
      refine lv_iload_n hx hb dX10_homeBehind_9 rfl (lv_at hl 2 rfl) ?_
      refine lv_icmp_eq (tgt := 15) hx hb dX10_homeBehind_10 (by decide) (fun c16 => ?_) (fun c16 => ?_)
      · have hf := qob_t hf c16
        exact hJ14 hf _ _ _ ⟨hP, hD, hS⟩ hl
      · have hf := qob_f hf c16
        refine lv_iconst (v := 1) hx hb dX10_homeBehind_13 (by decide) ?_
        have hf := qob_esc hf
        cases qob_ret hf
        exact ct_iret X hQ hK hP hD hS rfl dX10_homeBehind_14
theorem inwX10_caughtBehind_X10 : ∀ w ∈ wsX100, w ∈ wsX10_caughtBehind := fun _ h => List.mem_cons_of_mem _ (List.mem_append_right _ h)
abbrev rmX10_caughtBehind : Room := { frames := 4, cells := 0, slots := 0, locals := 94 }
theorem hdX10_caughtBehind : yX10_caughtBehind.cls = RX10 ∧ yX10_caughtBehind.cls ≠ "java/lang/invoke/MethodHandle" ∧ yX10_caughtBehind.cls ≠ "java/lang/invoke/VarHandle" ∧ (parseMethodDescriptor yX10_caughtBehind.desc).map (fun d => d.parameters.length) = some 2 := by decide +kernel
set_option maxHeartbeats 4000000 in
set_option maxRecDepth 100000 in
theorem KX10_caughtBehind {l : Launch} {D : va_G} {cy : Nat → ClassId} {mo : Nat} {ma : Nat → Nat} {m_thrown : Int32} {m_textSize : Int32} {m_rows : Int32} {m_columns : Int32} {m_a : Int32} {m_b : Int32} {m_readRows : Int32} {m_readColumns : Int32} {m_at : Int32} {m_looks : Int32} {m_came : Int32} {m_draw : Int64} {m_turnedRows : Int32} {m_turnedColumns : Int32} {m_right : Nat → Int32} {m_down : Nat → Int32} {m_turns : Nat → Int32} {p1 : Int32} {p2 : Int32} {r : Int32} (hf : fX10_caughtBehind m_rows m_columns m_b m_right m_down m_turns p1 p2 = some r) : CtI l yX10_caughtBehind wsX10_caughtBehind rmX10_caughtBehind D cy [.ref mo, .int p1, .int p2] ([oX10 mo ma m_thrown m_textSize m_rows m_columns m_a m_b m_readRows m_readColumns m_at m_looks m_came m_draw m_turnedRows m_turnedColumns, aZ cy (ma 1) 36 m_right, aZ cy (ma 2) 36 m_down, aI cy (ma 17) 1296 m_turns]) ([oX10 mo ma m_thrown m_textSize m_rows m_columns m_a m_b m_readRows m_readColumns m_at m_looks m_came m_draw m_turnedRows m_turnedColumns, aZ cy (ma 1) 36 m_right, aZ cy (ma 2) 36 m_down, aI cy (ma 17) 1296 m_turns]) r := by
  refine CtI.of (cc := cX10_caughtBehind) (maxL := 7) (ret := some .int) (own := RX10) (by decide) rfl rfl (Nat.le_of_ble_eq_true rfl) ?_
  intro p e s m args below meth c A Q X hQ hK hP hD hS ls hl
  obtain ⟨hx, hb, hml, hown, hts, hr, hlocks, hA, hZ⟩ := id X
  have hl : lv_has ls 7 [(0, .ref mo), (1, .int p1), (2, .int p2)] := hl
  unfold fX10_caughtBehind at hf
  have hf := qob_top hf
  refine lv_iload_n hx hb dX10_caughtBehind_0 rfl (lv_at hl 1 rfl) ?_
  refine lv_aload_n hx hb dX10_caughtBehind_1 rfl (lv_at hl 0 rfl) ?_
  refine va_get (D := D) (ci := 10) (v := .int m_b) (C := RX10) (T := TX10) (N := 34) hx hb hts inwX10_caughtBehind_X10 hown hK hP 0 rfl rfl 8 (by decide) (hts (.fieldLink RX10 106 "HedgeWaysModel" "b" "I") (List.mem_of_getElem? (i := 1) rfl)) (fun _ h9 => h9) rfl dX10_caughtBehind_2 ?_
  refine qjoinE0 hf (∀ (H : Heap) (locs : List Loc) (ls : Array Slot), ctW D A s ([oX10 mo ma m_thrown m_textSize m_rows m_columns m_a m_b m_readRows m_readColumns m_at m_looks m_came m_draw m_turnedRows m_turnedColumns, aZ cy (ma 1) 36 m_right, aZ cy (ma 2) 36 m_down, aI cy (ma 17) 1296 m_turns]) H locs → lv_has ls 7 [(1, .int p1), (2, .int p2)] → W p l e rmX10_caughtBehind s m args below meth c H locs 0 0 Q (F0 m 13 ls [])) ?_ ?_
  · intro  hf H locs ls ⟨hP, hD, hS⟩ hl
    refine lv_iload_n hx hb dX10_caughtBehind_13 rfl (lv_at hl 0 rfl) ?_
    refine lv_iload_n hx hb dX10_caughtBehind_14 rfl (lv_at hl 1 rfl) ?_
    refine lv_icmp_ne (tgt := 22) hx hb dX10_caughtBehind_15 (by decide) (fun c1 => ?_) (fun c1 => ?_)
    · have hf := qob_f hf c1
      refine lv_sipush (v := 9999) hx hb dX10_caughtBehind_22 (by decide) ?_
      cases qob_ret hf
      exact ct_iret X hQ hK hP hD hS rfl dX10_caughtBehind_25
    · have hf := qob_t hf c1
      refine lv_iconst (v := 0) hx hb dX10_caughtBehind_18 (by decide) ?_
      refine lv_goto (tgt := 25) hx hb dX10_caughtBehind_19 (by decide) ?_
      cases qob_ret hf
      exact ct_iret X hQ hK hP hD hS rfl dX10_caughtBehind_25
  · intro J2 hJ2 hf
    refine lv_icmp_eq (tgt := 13) hx hb dX10_caughtBehind_5 (by decide) (fun c3 => ?_) (fun c3 => ?_)
    · have hf := qob_t hf c3
      exact hJ2 hf _ _ _ ⟨hP, hD, hS⟩ (lv_sub hl [1, 2] rfl)
    · have hf := qob_f hf c3
      refine lv_iload_n hx hb dX10_caughtBehind_8 rfl (lv_at hl 1 rfl) ?_
      refine lv_iload_n hx hb dX10_caughtBehind_9 rfl (lv_at hl 2 rfl) ?_
      refine lv_icmp_ne (tgt := 26) hx hb dX10_caughtBehind_10 (by decide) (fun c4 => ?_) (fun c4 => ?_)
      · have hf := qob_f hf c4
        refine lv_sipush (v := 9999) hx hb dX10_caughtBehind_26 (by decide) ?_
        refine lv_istore_n (lv' := [(3, .int 9999), (0, .ref mo), (1, .int p1), (2, .int p2)]) hx hb dX10_caughtBehind_29 rfl hl (by decide) rfl (fun ls hl => ?_)
        refine lv_iconst (v := 0) hx hb dX10_caughtBehind_30 (by decide) ?_
        refine lv_istore (lv' := [(4, .int 0), (3, .int 9999), (0, .ref mo), (1, .int p1), (2, .int p2)]) hx hb dX10_caughtBehind_31 hl (by decide) rfl (fun ls hl => ?_)
        refine qjoin1 hf (fun (x3_1 : Int32) => ∀ (H : Heap) (locs : List Loc) (ls : Array Slot), ctW D A s ([oX10 mo ma m_thrown m_textSize m_rows m_columns m_a m_b m_readRows m_readColumns m_at m_looks m_came m_draw m_turnedRows m_turnedColumns, aZ cy (ma 1) 36 m_right, aZ cy (ma 2) 36 m_down, aI cy (ma 17) 1296 m_turns]) H locs → lv_has ls 7 [(3, .int x3_1)] → W p l e rmX10_caughtBehind s m args below meth c H locs 0 0 Q (F0 m 98 ls [])) ?_ ?_
        · intro x3_1 hf H locs ls ⟨hP, hD, hS⟩ hl
          refine lv_iload_n hx hb dX10_caughtBehind_98 rfl (lv_at hl 0 rfl) ?_
          refine lv_sipush (v := 9999) hx hb dX10_caughtBehind_99 (by decide) ?_
          refine lv_icmp_ge (tgt := 111) hx hb dX10_caughtBehind_102 (by decide) (fun c5 => ?_) (fun c5 => ?_)
          · have hf := qob_t hf c5
            refine lv_sipush (v := 9999) hx hb dX10_caughtBehind_111 (by decide) ?_
            have hf := qob_esc hf
            cases qob_ret hf
            exact ct_iret X hQ hK hP hD hS rfl dX10_caughtBehind_114
          · have hf := qob_f hf c5
            refine lv_iload_n hx hb dX10_caughtBehind_105 rfl (lv_at hl 0 rfl) ?_
            refine lv_iconst (v := 1) hx hb dX10_caughtBehind_106 (by decide) ?_
            refine lv_iadd hx hb dX10_caughtBehind_107 ?_
            refine lv_goto (tgt := 114) hx hb dX10_caughtBehind_108 (by decide) ?_
            have hf := qob_esc hf
            cases qob_ret hf
            exact ct_iret X hQ hK hP hD hS rfl dX10_caughtBehind_114
        · intro J6 hJ6 hf
          refine qwalk2 (fun (x3_2 : Int32) (x4_1 : Int32) => ∀ (H : Heap) (locs : List Loc) (ls : Array Slot), ctW D A s ([oX10 mo ma m_thrown m_textSize m_rows m_columns m_a m_b m_readRows m_readColumns m_at m_looks m_came m_draw m_turnedRows m_turnedColumns, aZ cy (ma 1) 36 m_right, aZ cy (ma 2) 36 m_down, aI cy (ma 17) 1296 m_turns]) H locs → lv_has ls 7 [(0, .ref mo), (1, .int p1), (2, .int p2), (3, .int x3_2), (4, .int x4_1)] → W p l e rmX10_caughtBehind s m args below meth c H locs 0 0 Q (F0 m 33 ls [])) ?_ _ (9999 : Int32) (0 : Int32) hf _ _ _ ⟨hP, hD, hS⟩ (lv_sub hl [2, 3, 4, 1, 0] rfl)
          intro J7 hL7 x3_2 x4_1 hf H locs ls ⟨hP, hD, hS⟩ hl
          refine lv_iload hx hb dX10_caughtBehind_33 (lv_at hl 4 rfl) ?_
          refine lv_iconst (v := 5) hx hb dX10_caughtBehind_35 (by decide) ?_
          refine lv_icmp_ge (tgt := 98) hx hb dX10_caughtBehind_36 (by decide) (fun c8 => ?_) (fun c8 => ?_)
          · have hf := qob_t hf c8
            have hf := qob_esc hf
            exact hJ6 x3_2 hf _ _ _ ⟨hP, hD, hS⟩ (lv_sub hl [3] rfl)
          · have hf := qob_f hf c8
            refine lv_aload_n hx hb dX10_caughtBehind_39 rfl (lv_at hl 0 rfl) ?_
            refine lv_iload_n hx hb dX10_caughtBehind_40 rfl (lv_at hl 2 rfl) ?_
            refine lv_iload hx hb dX10_caughtBehind_41 (lv_at hl 4 rfl) ?_
            obtain ⟨r_1, q9, hf⟩ := qcall1 hf
            refine ctV_i0 (r := r_1) (wc := [oX10 mo ma m_thrown m_textSize m_rows m_columns m_a m_b m_readRows m_readColumns m_at m_looks m_came m_draw m_turnedRows m_turnedColumns, aZ cy (ma 1) 36 m_right, aZ cy (ma 2) 36 m_down]) (As := [.int p2, .int x4_1]) (rest := []) (q0 := 0) X hK hP hD hS [0, 1, 2] rfl rfl rfl (KX10_goes q9 _) (cwV 2 hts gX10_caughtBehind_X10_goes rfl rfl rfl hdX10_goes ⟨Nat.le_of_ble_eq_true rfl, Nat.le_of_ble_eq_true rfl⟩) rfl rfl rfl hl rfl (Nat.le_of_ble_eq_true rfl) dX10_caughtBehind_43 (Nat.zero_le _) (Nat.zero_le _) (fun H locs hP hS => ?_)
            refine lv_istore (lv' := [(5, .int r_1), (0, .ref mo), (1, .int p1), (2, .int p2), (3, .int x3_2), (4, .int x4_1)]) hx hb dX10_caughtBehind_46 hl (by decide) rfl (fun ls hl => ?_)
            refine lv_iload hx hb dX10_caughtBehind_48 (lv_at hl 0 rfl) ?_
            refine lv_bipush (v := (-9)) hx hb dX10_caughtBehind_50 (by decide) ?_
            refine lv_icmp_eq (tgt := 92) hx hb dX10_caughtBehind_52 (by decide) (fun c10 => ?_) (fun c10 => ?_)
            · have hf := qob_t hf c10
              refine lv_iinc (v := (x4_1 + 1)) (lv' := [(4, .int (x4_1 + 1)), (5, .int r_1), (0, .ref mo), (1, .int p1), (2, .int p2), (3, .int x3_2)]) hx hb dX10_caughtBehind_92 hl (k := 5) rfl rfl (by decide) rfl (fun ls hl => ?_)
              refine lv_goto (tgt := 33) hx hb dX10_caughtBehind_95 (by decide) ?_
              exact hL7 x3_2 (x4_1 + 1) hf _ _ _ ⟨hP, hD, hS⟩ (lv_sub hl [2, 3, 4, 5, 0] rfl)
            · have hf := qob_f hf c10
              refine lv_iload hx hb dX10_caughtBehind_55 (lv_at hl 0 rfl) ?_
              refine lv_iload_n hx hb dX10_caughtBehind_57 rfl (lv_at hl 2 rfl) ?_
              refine qjoin1 hf (fun (s_1 : Int32) => ∀ (H : Heap) (locs : List Loc) (ls : Array Slot), ctW D A s ([oX10 mo ma m_thrown m_textSize m_rows m_columns m_a m_b m_readRows m_readColumns m_at m_looks m_came m_draw m_turnedRows m_turnedColumns, aZ cy (ma 1) 36 m_right, aZ cy (ma 2) 36 m_down, aI cy (ma 17) 1296 m_turns]) H locs → lv_has ls 7 [(0, .ref mo), (1, .int p1), (2, .int p2), (3, .int x3_2), (4, .int x4_1)] → W p l e rmX10_caughtBehind s m args below meth c H locs 0 0 Q (F0 m 77 ls [.int s_1])) ?_ ?_
              · intro s_1 hf H locs ls ⟨hP, hD, hS⟩ hl
                refine lv_istore (lv' := [(6, .int s_1), (0, .ref mo), (1, .int p1), (2, .int p2), (3, .int x3_2), (4, .int x4_1)]) hx hb dX10_caughtBehind_77 hl (by decide) rfl (fun ls hl => ?_)
                refine lv_iload hx hb dX10_caughtBehind_79 (lv_at hl 0 rfl) ?_
                refine lv_iload_n hx hb dX10_caughtBehind_81 rfl (lv_at hl 4 rfl) ?_
                refine lv_icmp_ge (tgt := 90) hx hb dX10_caughtBehind_82 (by decide) (fun c11 => ?_) (fun c11 => ?_)
                · have hf := qob_t hf c11
                  refine lv_iload_n hx hb dX10_caughtBehind_90 rfl (lv_at hl 4 rfl) ?_
                  refine lv_istore_n (lv' := [(3, .int x3_2), (6, .int s_1), (0, .ref mo), (1, .int p1), (2, .int p2), (4, .int x4_1)]) hx hb dX10_caughtBehind_91 rfl hl (by decide) rfl (fun ls hl => ?_)
                  refine lv_iinc (v := (x4_1 + 1)) (lv' := [(4, .int (x4_1 + 1)), (3, .int x3_2), (6, .int s_1), (0, .ref mo), (1, .int p1), (2, .int p2)]) hx hb dX10_caughtBehind_92 hl (k := 5) rfl rfl (by decide) rfl (fun ls hl => ?_)
                  refine lv_goto (tgt := 33) hx hb dX10_caughtBehind_95 (by decide) ?_
                  exact hL7 x3_2 (x4_1 + 1) hf _ _ _ ⟨hP, hD, hS⟩ (lv_sub hl [3, 4, 5, 1, 0] rfl)
                · have hf := qob_f hf c11
                  refine lv_iload hx hb dX10_caughtBehind_85 (lv_at hl 0 rfl) ?_
                  refine lv_goto (tgt := 91) hx hb dX10_caughtBehind_87 (by decide) ?_
                  refine lv_istore_n (lv' := [(3, .int s_1), (6, .int s_1), (0, .ref mo), (1, .int p1), (2, .int p2), (4, .int x4_1)]) hx hb dX10_caughtBehind_91 rfl hl (by decide) rfl (fun ls hl => ?_)
                  refine lv_iinc (v := (x4_1 + 1)) (lv' := [(4, .int (x4_1 + 1)), (3, .int s_1), (6, .int s_1), (0, .ref mo), (1, .int p1), (2, .int p2)]) hx hb dX10_caughtBehind_92 hl (k := 5) rfl rfl (by decide) rfl (fun ls hl => ?_)
                  refine lv_goto (tgt := 33) hx hb dX10_caughtBehind_95 (by decide) ?_
                  exact hL7 s_1 (x4_1 + 1) hf _ _ _ ⟨hP, hD, hS⟩ (lv_sub hl [3, 4, 5, 1, 0] rfl)
              · intro J12 hJ12 hf
                refine lv_icmp_ne (tgt := 65) hx hb dX10_caughtBehind_58 (by decide) (fun c13 => ?_) (fun c13 => ?_)
                · have hf := qob_f hf c13
                  refine lv_aload_n hx hb dX10_caughtBehind_65 rfl (lv_at hl 1 rfl) ?_
                  refine va_get (D := D) (ci := 10) (v := .ref (ma 17)) (C := RX10) (T := TX10) (N := 34) hx hb hts inwX10_caughtBehind_X10 hown hK hP 0 rfl rfl 28 (by decide) (hts (.fieldLink RX10 70 "HedgeWaysModel" "turns" "[I") (List.mem_of_getElem? (i := 2) rfl)) (fun _ h9 => h9) rfl dX10_caughtBehind_66 ?_
                  refine lv_bipush (v := 36) hx hb dX10_caughtBehind_69 (by decide) ?_
                  refine lv_iload_n hx hb dX10_caughtBehind_71 rfl (lv_at hl 2 rfl) ?_
                  refine lv_imul hx hb dX10_caughtBehind_72 ?_
                  refine lv_iload hx hb dX10_caughtBehind_73 (lv_at hl 0 rfl) ?_
                  refine lv_iadd hx hb dX10_caughtBehind_75 ?_
                  obtain ⟨i14, hf⟩ := qob_gd hf
                  refine va_iald hx hb hK hP 3 0 rfl rfl i14 dX10_caughtBehind_76 ?_
                  exact hJ12 (m_turns (((36 * p1) + r_1)).toNatClampNeg) hf _ _ _ ⟨hP, hD, hS⟩ (lv_sub hl [1, 2, 3, 4, 5] rfl)
                · have hf := qob_t hf c13
                  refine lv_iconst (v := 0) hx hb dX10_caughtBehind_61 (by decide) ?_
                  refine lv_goto (tgt := 77) hx hb dX10_caughtBehind_62 (by decide) ?_
                  exact hJ12 0 hf _ _ _ ⟨hP, hD, hS⟩ (lv_sub hl [1, 2, 3, 4, 5] rfl)
      · have hf := qob_t hf c4
        exact hJ2 hf _ _ _ ⟨hP, hD, hS⟩ (lv_sub hl [1, 2] rfl)
theorem inwX10_turnsOf_X10 : ∀ w ∈ wsX100, w ∈ wsX10_turnsOf := fun _ h => List.mem_cons_of_mem _ (List.mem_append_right _ h)
abbrev rmX10_turnsOf : Room := { frames := 5, cells := 0, slots := 0, locals := 120 }
theorem hdX10_turnsOf : yX10_turnsOf.cls = RX10 ∧ yX10_turnsOf.cls ≠ "java/lang/invoke/MethodHandle" ∧ yX10_turnsOf.cls ≠ "java/lang/invoke/VarHandle" ∧ (parseMethodDescriptor yX10_turnsOf.desc).map (fun d => d.parameters.length) = some 3 := by decide +kernel
set_option maxHeartbeats 4000000 in
set_option maxRecDepth 100000 in
theorem KX10_turnsOf {l : Launch} {D : va_G} {cy : Nat → ClassId} {mo : Nat} {ma : Nat → Nat} {m_thrown : Int32} {m_textSize : Int32} {m_rows : Int32} {m_columns : Int32} {m_a : Int32} {m_b : Int32} {m_readRows : Int32} {m_readColumns : Int32} {m_at : Int32} {m_looks : Int32} {m_came : Int32} {m_draw : Int64} {m_turnedRows : Int32} {m_turnedColumns : Int32} {m_right : Nat → Int32} {m_down : Nat → Int32} {m_turns : Nat → Int32} {p1 : Int32} {p2 : Int32} {p3 : Int32} {r : Int32} (hf : fX10_turnsOf m_rows m_columns m_b m_right m_down m_turns p1 p2 p3 = some r) : CtI l yX10_turnsOf wsX10_turnsOf rmX10_turnsOf D cy [.ref mo, .int p1, .int p2, .int p3] ([oX10 mo ma m_thrown m_textSize m_rows m_columns m_a m_b m_readRows m_readColumns m_at m_looks m_came m_draw m_turnedRows m_turnedColumns, aZ cy (ma 1) 36 m_right, aZ cy (ma 2) 36 m_down, aI cy (ma 17) 1296 m_turns]) ([oX10 mo ma m_thrown m_textSize m_rows m_columns m_a m_b m_readRows m_readColumns m_at m_looks m_came m_draw m_turnedRows m_turnedColumns, aZ cy (ma 1) 36 m_right, aZ cy (ma 2) 36 m_down, aI cy (ma 17) 1296 m_turns]) r := by
  refine CtI.of (cc := cX10_turnsOf) (maxL := 8) (ret := some .int) (own := RX10) (by decide) rfl rfl (Nat.le_of_ble_eq_true rfl) ?_
  intro p e s m args below meth c A Q X hQ hK hP hD hS ls hl
  obtain ⟨hx, hb, hml, hown, hts, hr, hlocks, hA, hZ⟩ := id X
  have hl : lv_has ls 8 [(0, .ref mo), (1, .int p1), (2, .int p2), (3, .int p3)] := hl
  unfold fX10_turnsOf at hf
  have hf := qob_top hf
  refine lv_iload_n hx hb dX10_turnsOf_0 rfl (lv_at hl 1 rfl) ?_
  refine lv_aload_n hx hb dX10_turnsOf_1 rfl (lv_at hl 0 rfl) ?_
  refine va_get (D := D) (ci := 10) (v := .int m_b) (C := RX10) (T := TX10) (N := 34) hx hb hts inwX10_turnsOf_X10 hown hK hP 0 rfl rfl 8 (by decide) (hts (.fieldLink RX10 106 "HedgeWaysModel" "b" "I") (List.mem_of_getElem? (i := 1) rfl)) (fun _ h9 => h9) rfl dX10_turnsOf_2 ?_
  refine lv_icmp_ne (tgt := 20) hx hb dX10_turnsOf_5 (by decide) (fun c1 => ?_) (fun c1 => ?_)
  · have hf := qob_f hf c1
    refine lv_iload_n hx hb dX10_turnsOf_20 rfl (lv_at hl 1 rfl) ?_
    refine lv_iload_n hx hb dX10_turnsOf_21 rfl (lv_at hl 2 rfl) ?_
    refine lv_icmp_ne (tgt := 37) hx hb dX10_turnsOf_22 (by decide) (fun c2 => ?_) (fun c2 => ?_)
    · have hf := qob_f hf c2
      refine lv_iload_n hx hb dX10_turnsOf_37 rfl (lv_at hl 3 rfl) ?_
      refine qjoin1 hf (fun (s_1 : Int32) => ∀ (H : Heap) (locs : List Loc) (ls : Array Slot), ctW D A s ([oX10 mo ma m_thrown m_textSize m_rows m_columns m_a m_b m_readRows m_readColumns m_at m_looks m_came m_draw m_turnedRows m_turnedColumns, aZ cy (ma 1) 36 m_right, aZ cy (ma 2) 36 m_down, aI cy (ma 17) 1296 m_turns]) H locs → lv_has ls 8 [(0, .ref mo), (1, .int p1), (2, .int p2), (3, .int p3)] → W p l e rmX10_turnsOf s m args below meth c H locs 0 0 Q (F0 m 48 ls [.int s_1])) ?_ ?_
      · intro s_1 hf H locs ls ⟨hP, hD, hS⟩ hl
        refine lv_istore (lv' := [(4, .int s_1), (0, .ref mo), (1, .int p1), (2, .int p2), (3, .int p3)]) hx hb dX10_turnsOf_48 hl (by decide) rfl (fun ls hl => ?_)
        refine lv_iconst (v := 0) hx hb dX10_turnsOf_50 (by decide) ?_
        refine lv_istore (lv' := [(5, .int 0), (4, .int s_1), (0, .ref mo), (1, .int p1), (2, .int p2), (3, .int p3)]) hx hb dX10_turnsOf_51 hl (by decide) rfl (fun ls hl => ?_)
        refine qjoin1 hf (fun (x4_1 : Int32) => ∀ (H : Heap) (locs : List Loc) (ls : Array Slot), ctW D A s ([oX10 mo ma m_thrown m_textSize m_rows m_columns m_a m_b m_readRows m_readColumns m_at m_looks m_came m_draw m_turnedRows m_turnedColumns, aZ cy (ma 1) 36 m_right, aZ cy (ma 2) 36 m_down, aI cy (ma 17) 1296 m_turns]) H locs → lv_has ls 8 [(4, .int x4_1)] → W p l e rmX10_turnsOf s m args below meth c H locs 0 0 Q (F0 m 141 ls [])) ?_ ?_
        · intro x4_1 hf H locs ls ⟨hP, hD, hS⟩ hl
          refine lv_iload hx hb dX10_turnsOf_141 (lv_at hl 0 rfl) ?_
          cases qob_ret hf
          exact ct_iret X hQ hK hP hD hS rfl dX10_turnsOf_143
        · intro J3 hJ3 hf
          refine qwalk2 (fun (x4_2 : Int32) (x5_1 : Int32) => ∀ (H : Heap) (locs : List Loc) (ls : Array Slot), ctW D A s ([oX10 mo ma m_thrown m_textSize m_rows m_columns m_a m_b m_readRows m_readColumns m_at m_looks m_came m_draw m_turnedRows m_turnedColumns, aZ cy (ma 1) 36 m_right, aZ cy (ma 2) 36 m_down, aI cy (ma 17) 1296 m_turns]) H locs → lv_has ls 8 [(0, .ref mo), (1, .int p1), (2, .int p2), (3, .int p3), (4, .int x4_2), (5, .int x5_1)] → W p l e rmX10_turnsOf s m args below meth c H locs 0 0 Q (F0 m 53 ls [])) ?_ _ s_1 (0 : Int32) hf _ _ _ ⟨hP, hD, hS⟩ (lv_sub hl [2, 3, 4, 5, 1, 0] rfl)
          intro J4 hL4 x4_2 x5_1 hf H locs ls ⟨hP, hD, hS⟩ hl
          refine lv_iload hx hb dX10_turnsOf_53 (lv_at hl 5 rfl) ?_
          refine lv_iconst (v := 5) hx hb dX10_turnsOf_55 (by decide) ?_
          refine lv_icmp_ge (tgt := 141) hx hb dX10_turnsOf_56 (by decide) (fun c5 => ?_) (fun c5 => ?_)
          · have hf := qob_t hf c5
            have hf := qob_esc hf
            exact hJ3 x4_2 hf _ _ _ ⟨hP, hD, hS⟩ (lv_sub hl [4] rfl)
          · have hf := qob_f hf c5
            refine lv_aload_n hx hb dX10_turnsOf_59 rfl (lv_at hl 0 rfl) ?_
            refine lv_iload_n hx hb dX10_turnsOf_60 rfl (lv_at hl 1 rfl) ?_
            refine lv_iload hx hb dX10_turnsOf_61 (lv_at hl 5 rfl) ?_
            obtain ⟨r_1, q6, hf⟩ := qcall1 hf
            refine ctV_i0 (r := r_1) (wc := [oX10 mo ma m_thrown m_textSize m_rows m_columns m_a m_b m_readRows m_readColumns m_at m_looks m_came m_draw m_turnedRows m_turnedColumns, aZ cy (ma 1) 36 m_right, aZ cy (ma 2) 36 m_down]) (As := [.int p1, .int x5_1]) (rest := []) (q0 := 0) X hK hP hD hS [0, 1, 2] rfl rfl rfl (KX10_goes q6 _) (cwV 2 hts gX10_turnsOf_X10_goes rfl rfl rfl hdX10_goes ⟨Nat.le_of_ble_eq_true rfl, Nat.le_of_ble_eq_true rfl⟩) rfl rfl rfl hl rfl (Nat.le_of_ble_eq_true rfl) dX10_turnsOf_63 (Nat.zero_le _) (Nat.zero_le _) (fun H locs hP hS => ?_)
            refine lv_istore (lv' := [(6, .int r_1), (0, .ref mo), (1, .int p1), (2, .int p2), (3, .int p3), (4, .int x4_2), (5, .int x5_1)]) hx hb dX10_turnsOf_66 hl (by decide) rfl (fun ls hl => ?_)
            refine lv_iload hx hb dX10_turnsOf_68 (lv_at hl 0 rfl) ?_
            refine lv_bipush (v := (-9)) hx hb dX10_turnsOf_70 (by decide) ?_
            refine lv_icmp_eq (tgt := 135) hx hb dX10_turnsOf_72 (by decide) (fun c7 => ?_) (fun c7 => ?_)
            · have hf := qob_t hf c7
              refine lv_iinc (v := (x5_1 + 1)) (lv' := [(5, .int (x5_1 + 1)), (6, .int r_1), (0, .ref mo), (1, .int p1), (2, .int p2), (3, .int p3), (4, .int x4_2)]) hx hb dX10_turnsOf_135 hl (k := 6) rfl rfl (by decide) rfl (fun ls hl => ?_)
              refine lv_goto (tgt := 53) hx hb dX10_turnsOf_138 (by decide) ?_
              exact hL4 x4_2 (x5_1 + 1) hf _ _ _ ⟨hP, hD, hS⟩ (lv_sub hl [2, 3, 4, 5, 6, 0] rfl)
            · have hf := qob_f hf c7
              refine lv_iload_n hx hb dX10_turnsOf_75 rfl (lv_at hl 4 rfl) ?_
              refine qjoin1 hf (fun (s_2 : Int32) => ∀ (H : Heap) (locs : List Loc) (ls : Array Slot), ctW D A s ([oX10 mo ma m_thrown m_textSize m_rows m_columns m_a m_b m_readRows m_readColumns m_at m_looks m_came m_draw m_turnedRows m_turnedColumns, aZ cy (ma 1) 36 m_right, aZ cy (ma 2) 36 m_down, aI cy (ma 17) 1296 m_turns]) H locs → lv_has ls 8 [(0, .ref mo), (1, .int p1), (2, .int p2), (3, .int p3), (4, .int x4_2), (5, .int x5_1)] → W p l e rmX10_turnsOf s m args below meth c H locs 0 0 Q (F0 m 96 ls [.int s_2])) ?_ ?_
              · intro s_2 hf H locs ls ⟨hP, hD, hS⟩ hl
                refine lv_istore (lv' := [(7, .int s_2), (0, .ref mo), (1, .int p1), (2, .int p2), (3, .int p3), (4, .int x4_2), (5, .int x5_1)]) hx hb dX10_turnsOf_96 hl (by decide) rfl (fun ls hl => ?_)
                refine lv_iload_n hx hb dX10_turnsOf_98 rfl (lv_at hl 4 rfl) ?_
                refine lv_if_eq (tgt := 119) hx hb dX10_turnsOf_99 (by decide) (fun c8 => ?_) (fun c8 => ?_)
                · have hf := qob_t hf c8
                  refine lv_iload hx hb dX10_turnsOf_119 (lv_at hl 0 rfl) ?_
                  refine lv_iload hx hb dX10_turnsOf_121 (lv_at hl 5 rfl) ?_
                  refine lv_icmp_le (tgt := 131) hx hb dX10_turnsOf_123 (by decide) (fun c9 => ?_) (fun c9 => ?_)
                  · have hf := qob_t hf c9
                    refine lv_iload hx hb dX10_turnsOf_131 (lv_at hl 5 rfl) ?_
                    refine lv_istore (lv' := [(4, .int x4_2), (7, .int s_2), (0, .ref mo), (1, .int p1), (2, .int p2), (3, .int p3), (5, .int x5_1)]) hx hb dX10_turnsOf_133 hl (by decide) rfl (fun ls hl => ?_)
                    refine lv_iinc (v := (x5_1 + 1)) (lv' := [(5, .int (x5_1 + 1)), (4, .int x4_2), (7, .int s_2), (0, .ref mo), (1, .int p1), (2, .int p2), (3, .int p3)]) hx hb dX10_turnsOf_135 hl (k := 6) rfl rfl (by decide) rfl (fun ls hl => ?_)
                    refine lv_goto (tgt := 53) hx hb dX10_turnsOf_138 (by decide) ?_
                    exact hL4 x4_2 (x5_1 + 1) hf _ _ _ ⟨hP, hD, hS⟩ (lv_sub hl [3, 4, 5, 6, 1, 0] rfl)
                  · have hf := qob_f hf c9
                    refine lv_iload hx hb dX10_turnsOf_126 (lv_at hl 0 rfl) ?_
                    refine lv_goto (tgt := 133) hx hb dX10_turnsOf_128 (by decide) ?_
                    refine lv_istore (lv' := [(4, .int s_2), (7, .int s_2), (0, .ref mo), (1, .int p1), (2, .int p2), (3, .int p3), (5, .int x5_1)]) hx hb dX10_turnsOf_133 hl (by decide) rfl (fun ls hl => ?_)
                    refine lv_iinc (v := (x5_1 + 1)) (lv' := [(5, .int (x5_1 + 1)), (4, .int s_2), (7, .int s_2), (0, .ref mo), (1, .int p1), (2, .int p2), (3, .int p3)]) hx hb dX10_turnsOf_135 hl (k := 6) rfl rfl (by decide) rfl (fun ls hl => ?_)
                    refine lv_goto (tgt := 53) hx hb dX10_turnsOf_138 (by decide) ?_
                    exact hL4 s_2 (x5_1 + 1) hf _ _ _ ⟨hP, hD, hS⟩ (lv_sub hl [3, 4, 5, 6, 1, 0] rfl)
                · have hf := qob_f hf c8
                  refine lv_iload hx hb dX10_turnsOf_102 (lv_at hl 0 rfl) ?_
                  refine lv_iload hx hb dX10_turnsOf_104 (lv_at hl 5 rfl) ?_
                  refine lv_icmp_ge (tgt := 114) hx hb dX10_turnsOf_106 (by decide) (fun c10 => ?_) (fun c10 => ?_)
                  · have hf := qob_t hf c10
                    refine lv_iload hx hb dX10_turnsOf_114 (lv_at hl 5 rfl) ?_
                    refine lv_goto (tgt := 133) hx hb dX10_turnsOf_116 (by decide) ?_
                    refine lv_istore (lv' := [(4, .int x4_2), (7, .int s_2), (0, .ref mo), (1, .int p1), (2, .int p2), (3, .int p3), (5, .int x5_1)]) hx hb dX10_turnsOf_133 hl (by decide) rfl (fun ls hl => ?_)
                    refine lv_iinc (v := (x5_1 + 1)) (lv' := [(5, .int (x5_1 + 1)), (4, .int x4_2), (7, .int s_2), (0, .ref mo), (1, .int p1), (2, .int p2), (3, .int p3)]) hx hb dX10_turnsOf_135 hl (k := 6) rfl rfl (by decide) rfl (fun ls hl => ?_)
                    refine lv_goto (tgt := 53) hx hb dX10_turnsOf_138 (by decide) ?_
                    exact hL4 x4_2 (x5_1 + 1) hf _ _ _ ⟨hP, hD, hS⟩ (lv_sub hl [3, 4, 5, 6, 1, 0] rfl)
                  · have hf := qob_f hf c10
                    refine lv_iload hx hb dX10_turnsOf_109 (lv_at hl 0 rfl) ?_
                    refine lv_goto (tgt := 133) hx hb dX10_turnsOf_111 (by decide) ?_
                    refine lv_istore (lv' := [(4, .int s_2), (7, .int s_2), (0, .ref mo), (1, .int p1), (2, .int p2), (3, .int p3), (5, .int x5_1)]) hx hb dX10_turnsOf_133 hl (by decide) rfl (fun ls hl => ?_)
                    refine lv_iinc (v := (x5_1 + 1)) (lv' := [(5, .int (x5_1 + 1)), (4, .int s_2), (7, .int s_2), (0, .ref mo), (1, .int p1), (2, .int p2), (3, .int p3)]) hx hb dX10_turnsOf_135 hl (k := 6) rfl rfl (by decide) rfl (fun ls hl => ?_)
                    refine lv_goto (tgt := 53) hx hb dX10_turnsOf_138 (by decide) ?_
                    exact hL4 s_2 (x5_1 + 1) hf _ _ _ ⟨hP, hD, hS⟩ (lv_sub hl [3, 4, 5, 6, 1, 0] rfl)
              · intro J11 hJ11 hf
                refine lv_if_eq (tgt := 89) hx hb dX10_turnsOf_76 (by decide) (fun c12 => ?_) (fun c12 => ?_)
                · have hf := qob_t hf c12
                  refine lv_aload_n hx hb dX10_turnsOf_89 rfl (lv_at hl 1 rfl) ?_
                  refine lv_iload hx hb dX10_turnsOf_90 (lv_at hl 0 rfl) ?_
                  refine lv_iload_n hx hb dX10_turnsOf_92 rfl (lv_at hl 3 rfl) ?_
                  obtain ⟨r_2, q13, hf⟩ := qcall1 hf
                  refine ctV_i0 (r := r_2) (wc := [oX10 mo ma m_thrown m_textSize m_rows m_columns m_a m_b m_readRows m_readColumns m_at m_looks m_came m_draw m_turnedRows m_turnedColumns, aZ cy (ma 1) 36 m_right, aZ cy (ma 2) 36 m_down, aI cy (ma 17) 1296 m_turns]) (As := [.int r_1, .int p2]) (rest := []) (q0 := 0) X hK hP hD hS [0, 1, 2, 3] rfl rfl rfl (KX10_caughtBehind q13 _) (cwV 2 hts gX10_turnsOf_X10_caughtBehind rfl rfl rfl hdX10_caughtBehind ⟨Nat.le_of_ble_eq_true rfl, Nat.le_of_ble_eq_true rfl⟩) rfl rfl rfl hl rfl (Nat.le_of_ble_eq_true rfl) dX10_turnsOf_93 (Nat.zero_le _) (Nat.zero_le _) (fun H locs hP hS => ?_)
                  exact hJ11 r_2 hf _ _ _ ⟨hP, hD, hS⟩ (lv_sub hl [1, 2, 3, 4, 5, 6] rfl)
                · have hf := qob_f hf c12
                  refine lv_aload_n hx hb dX10_turnsOf_79 rfl (lv_at hl 1 rfl) ?_
                  refine lv_iload hx hb dX10_turnsOf_80 (lv_at hl 0 rfl) ?_
                  refine lv_iload_n hx hb dX10_turnsOf_82 rfl (lv_at hl 3 rfl) ?_
                  obtain ⟨r_3, q14, hf⟩ := qcall1 hf
                  refine ctV_i0 (r := r_3) (wc := [oX10 mo ma m_thrown m_textSize m_rows m_columns m_a m_b m_readRows m_readColumns m_at m_looks m_came m_draw m_turnedRows m_turnedColumns, aZ cy (ma 1) 36 m_right, aZ cy (ma 2) 36 m_down, aI cy (ma 17) 1296 m_turns]) (As := [.int r_1, .int p2]) (rest := []) (q0 := 0) X hK hP hD hS [0, 1, 2, 3] rfl rfl rfl (KX10_homeBehind q14 _) (cwV 2 hts gX10_turnsOf_X10_homeBehind rfl rfl rfl hdX10_homeBehind ⟨Nat.le_of_ble_eq_true rfl, Nat.le_of_ble_eq_true rfl⟩) rfl rfl rfl hl rfl (Nat.le_of_ble_eq_true rfl) dX10_turnsOf_83 (Nat.zero_le _) (Nat.zero_le _) (fun H locs hP hS => ?_)
                  refine lv_goto (tgt := 96) hx hb dX10_turnsOf_86 (by decide) ?_
                  exact hJ11 r_3 hf _ _ _ ⟨hP, hD, hS⟩ (lv_sub hl [1, 2, 3, 4, 5, 6] rfl)
      · intro J15 hJ15 hf
        refine lv_if_eq (tgt := 47) hx hb dX10_turnsOf_38 (by decide) (fun c16 => ?_) (fun c16 => ?_)
        · have hf := qob_t hf c16
          refine lv_iconst (v := 0) hx hb dX10_turnsOf_47 (by decide) ?_
          exact hJ15 0 hf _ _ _ ⟨hP, hD, hS⟩ hl
        · have hf := qob_f hf c16
          refine lv_sipush (v := 9999) hx hb dX10_turnsOf_41 (by decide) ?_
          refine lv_goto (tgt := 48) hx hb dX10_turnsOf_44 (by decide) ?_
          exact hJ15 9999 hf _ _ _ ⟨hP, hD, hS⟩ hl
    · have hf := qob_t hf c2
      refine lv_iload_n hx hb dX10_turnsOf_25 rfl (lv_at hl 3 rfl) ?_
      refine lv_if_eq (tgt := 35) hx hb dX10_turnsOf_26 (by decide) (fun c17 => ?_) (fun c17 => ?_)
      · have hf := qob_t hf c17
        refine lv_iconst (v := 0) hx hb dX10_turnsOf_35 (by decide) ?_
        cases qob_ret hf
        exact ct_iret X hQ hK hP hD hS rfl dX10_turnsOf_36
      · have hf := qob_f hf c17
        refine lv_sipush (v := 9999) hx hb dX10_turnsOf_29 (by decide) ?_
        refine lv_goto (tgt := 36) hx hb dX10_turnsOf_32 (by decide) ?_
        cases qob_ret hf
        exact ct_iret X hQ hK hP hD hS rfl dX10_turnsOf_36
  · have hf := qob_t hf c1
    refine lv_iload_n hx hb dX10_turnsOf_8 rfl (lv_at hl 3 rfl) ?_
    refine lv_if_eq (tgt := 16) hx hb dX10_turnsOf_9 (by decide) (fun c18 => ?_) (fun c18 => ?_)
    · have hf := qob_t hf c18
      refine lv_sipush (v := 9999) hx hb dX10_turnsOf_16 (by decide) ?_
      cases qob_ret hf
      exact ct_iret X hQ hK hP hD hS rfl dX10_turnsOf_19
    · have hf := qob_f hf c18
      refine lv_iconst (v := 0) hx hb dX10_turnsOf_12 (by decide) ?_
      refine lv_goto (tgt := 19) hx hb dX10_turnsOf_13 (by decide) ?_
      cases qob_ret hf
      exact ct_iret X hQ hK hP hD hS rfl dX10_turnsOf_19
theorem inwX10_layTurns_X10 : ∀ w ∈ wsX100, w ∈ wsX10_layTurns := fun _ h => List.mem_cons_of_mem _ (List.mem_append_right _ h)
abbrev rmX10_layTurns : Room := { frames := 6, cells := 0, slots := 0, locals := 147 }
theorem hdX10_layTurns : yX10_layTurns.cls = RX10 ∧ yX10_layTurns.cls ≠ "java/lang/invoke/MethodHandle" ∧ yX10_layTurns.cls ≠ "java/lang/invoke/VarHandle" ∧ (parseMethodDescriptor yX10_layTurns.desc).map (fun d => d.parameters.length) = some 1 := by decide +kernel
set_option maxHeartbeats 4000000 in
set_option maxRecDepth 100000 in
theorem KX10_layTurns {l : Launch} {D : va_G} {cy : Nat → ClassId} {mo : Nat} {ma : Nat → Nat} {m_thrown : Int32} {m_textSize : Int32} {m_rows : Int32} {m_columns : Int32} {m_a : Int32} {m_b : Int32} {m_readRows : Int32} {m_readColumns : Int32} {m_at : Int32} {m_looks : Int32} {m_came : Int32} {m_draw : Int64} {m_turnedRows : Int32} {m_turnedColumns : Int32} {m_right : Nat → Int32} {m_down : Nat → Int32} {m_turns : Nat → Int32} {p1 : Int32} {m_turns' : Nat → Int32} (hf : fX10_layTurns m_rows m_columns m_b m_right m_down m_turns p1 = some m_turns') : CtV l yX10_layTurns wsX10_layTurns rmX10_layTurns D cy [.ref mo, .int p1] ([oX10 mo ma m_thrown m_textSize m_rows m_columns m_a m_b m_readRows m_readColumns m_at m_looks m_came m_draw m_turnedRows m_turnedColumns, aZ cy (ma 1) 36 m_right, aZ cy (ma 2) 36 m_down, aI cy (ma 17) 1296 m_turns]) ([oX10 mo ma m_thrown m_textSize m_rows m_columns m_a m_b m_readRows m_readColumns m_at m_looks m_came m_draw m_turnedRows m_turnedColumns, aZ cy (ma 1) 36 m_right, aZ cy (ma 2) 36 m_down, aI cy (ma 17) 1296 m_turns']) := by
  refine CtV.of (cc := cX10_layTurns) (maxL := 6) (ret := none) (own := RX10) (by decide) rfl rfl (Nat.le_of_ble_eq_true rfl) ?_
  intro p e s m args below meth c A Q X hQ hK hP hD hS ls hl
  obtain ⟨hx, hb, hml, hown, hts, hr, hlocks, hA, hZ⟩ := id X
  have hl : lv_has ls 6 [(0, .ref mo), (1, .int p1)] := hl
  unfold fX10_layTurns at hf
  have hf := qob_top hf
  refine lv_iconst (v := 0) hx hb dX10_layTurns_0 (by decide) ?_
  refine lv_istore_n (lv' := [(2, .int 0), (0, .ref mo), (1, .int p1)]) hx hb dX10_layTurns_1 rfl hl (by decide) rfl (fun ls hl => ?_)
  refine qjoin1 hf (fun (m_turns_1 : Nat → Int32) => ∀ (H : Heap) (locs : List Loc) (ls : Array Slot), ctW D A s ([oX10 mo ma m_thrown m_textSize m_rows m_columns m_a m_b m_readRows m_readColumns m_at m_looks m_came m_draw m_turnedRows m_turnedColumns, aZ cy (ma 1) 36 m_right, aZ cy (ma 2) 36 m_down, aI cy (ma 17) 1296 m_turns_1]) H locs → lv_has ls 6 [(0, .ref mo), (1, .int p1)] → W p l e rmX10_layTurns s m args below meth c H locs 0 0 Q (F0 m 24 ls [])) ?_ ?_
  · intro m_turns_1 hf H locs ls ⟨hP, hD, hS⟩ hl
    refine lv_iconst (v := 1) hx hb dX10_layTurns_24 (by decide) ?_
    refine lv_istore_n (lv' := [(2, .int 1), (0, .ref mo), (1, .int p1)]) hx hb dX10_layTurns_25 rfl hl (by decide) rfl (fun ls hl => ?_)
    refine lv_iconst (v := 0) hx hb dX10_layTurns_26 (by decide) ?_
    refine lv_istore_n (lv' := [(3, .int 0), (2, .int 1), (0, .ref mo), (1, .int p1)]) hx hb dX10_layTurns_27 rfl hl (by decide) rfl (fun ls hl => ?_)
    refine qjoin1 hf (fun (m_turns_2 : Nat → Int32) => ∀ (H : Heap) (locs : List Loc) (ls : Array Slot), ctW D A s ([oX10 mo ma m_thrown m_textSize m_rows m_columns m_a m_b m_readRows m_readColumns m_at m_looks m_came m_draw m_turnedRows m_turnedColumns, aZ cy (ma 1) 36 m_right, aZ cy (ma 2) 36 m_down, aI cy (ma 17) 1296 m_turns_2]) H locs → lv_has ls 6 [] → W p l e rmX10_layTurns s m args below meth c H locs 0 0 Q (F0 m 135 ls [])) ?_ ?_
    · intro m_turns_2 hf H locs ls ⟨hP, hD, hS⟩ hl
      cases qob_ret hf
      exact ct_vret X hQ hK hP hD hS dX10_layTurns_135
    · intro J1 hJ1 hf
      refine qwalk3 (fun (x2_1 : Int32) (x3_1 : Int32) (m_turns_3 : Nat → Int32) => ∀ (H : Heap) (locs : List Loc) (ls : Array Slot), ctW D A s ([oX10 mo ma m_thrown m_textSize m_rows m_columns m_a m_b m_readRows m_readColumns m_at m_looks m_came m_draw m_turnedRows m_turnedColumns, aZ cy (ma 1) 36 m_right, aZ cy (ma 2) 36 m_down, aI cy (ma 17) 1296 m_turns_3]) H locs → lv_has ls 6 [(0, .ref mo), (1, .int p1), (2, .int x2_1), (3, .int x3_1)] → W p l e rmX10_layTurns s m args below meth c H locs 0 0 Q (F0 m 28 ls [])) ?_ _ (1 : Int32) (0 : Int32) m_turns_1 hf _ _ _ ⟨hP, hD, hS⟩ (lv_sub hl [2, 3, 1, 0] rfl)
      intro J2 hL2 x2_1 x3_1 m_turns_3 hf H locs ls ⟨hP, hD, hS⟩ hl
      refine lv_iload_n hx hb dX10_layTurns_28 rfl (lv_at hl 2 rfl) ?_
      refine lv_if_eq (tgt := 135) hx hb dX10_layTurns_29 (by decide) (fun c3 => ?_) (fun c3 => ?_)
      · have hf := qob_t hf c3
        have hf := qob_esc hf
        exact hJ1 m_turns_3 hf _ _ _ ⟨hP, hD, hS⟩ (lv_sub hl [] rfl)
      · have hf := qob_f hf c3
        refine lv_iconst (v := 0) hx hb dX10_layTurns_32 (by decide) ?_
        refine lv_istore_n (lv' := [(2, .int 0), (0, .ref mo), (1, .int p1), (3, .int x3_1)]) hx hb dX10_layTurns_33 rfl hl (by decide) rfl (fun ls hl => ?_)
        refine lv_iconst (v := 0) hx hb dX10_layTurns_34 (by decide) ?_
        refine lv_istore (lv' := [(4, .int 0), (2, .int 0), (0, .ref mo), (1, .int p1), (3, .int x3_1)]) hx hb dX10_layTurns_35 hl (by decide) rfl (fun ls hl => ?_)
        refine qjoin2 hf (fun (x2_2 : Int32) (m_turns_4 : Nat → Int32) => ∀ (H : Heap) (locs : List Loc) (ls : Array Slot), ctW D A s ([oX10 mo ma m_thrown m_textSize m_rows m_columns m_a m_b m_readRows m_readColumns m_at m_looks m_came m_draw m_turnedRows m_turnedColumns, aZ cy (ma 1) 36 m_right, aZ cy (ma 2) 36 m_down, aI cy (ma 17) 1296 m_turns_4]) H locs → lv_has ls 6 [(0, .ref mo), (1, .int p1), (2, .int x2_2), (3, .int x3_1)] → W p l e rmX10_layTurns s m args below meth c H locs 0 0 Q (F0 m 129 ls [])) ?_ ?_
        · intro x2_2 m_turns_4 hf H locs ls ⟨hP, hD, hS⟩ hl
          refine lv_iinc (v := (x3_1 + 1)) (lv' := [(3, .int (x3_1 + 1)), (0, .ref mo), (1, .int p1), (2, .int x2_2)]) hx hb dX10_layTurns_129 hl (k := 3) rfl rfl (by decide) rfl (fun ls hl => ?_)
          refine lv_goto (tgt := 28) hx hb dX10_layTurns_132 (by decide) ?_
          exact hL2 x2_2 (x3_1 + 1) m_turns_4 hf _ _ _ ⟨hP, hD, hS⟩ (lv_sub hl [1, 2, 3, 0] rfl)
        · intro J4 hJ4 hf
          refine qwalk3 (fun (x2_3 : Int32) (x4_1 : Int32) (m_turns_5 : Nat → Int32) => ∀ (H : Heap) (locs : List Loc) (ls : Array Slot), ctW D A s ([oX10 mo ma m_thrown m_textSize m_rows m_columns m_a m_b m_readRows m_readColumns m_at m_looks m_came m_draw m_turnedRows m_turnedColumns, aZ cy (ma 1) 36 m_right, aZ cy (ma 2) 36 m_down, aI cy (ma 17) 1296 m_turns_5]) H locs → lv_has ls 6 [(0, .ref mo), (1, .int p1), (2, .int x2_3), (3, .int x3_1), (4, .int x4_1)] → W p l e rmX10_layTurns s m args below meth c H locs 0 0 Q (F0 m 37 ls [])) ?_ _ (0 : Int32) (0 : Int32) m_turns_3 hf _ _ _ ⟨hP, hD, hS⟩ (lv_sub hl [2, 3, 1, 4, 0] rfl)
          intro J5 hL5 x2_3 x4_1 m_turns_5 hf H locs ls ⟨hP, hD, hS⟩ hl
          refine lv_iload hx hb dX10_layTurns_37 (lv_at hl 4 rfl) ?_
          refine lv_sipush (v := 1296) hx hb dX10_layTurns_39 (by decide) ?_
          refine lv_icmp_ge (tgt := 129) hx hb dX10_layTurns_42 (by decide) (fun c6 => ?_) (fun c6 => ?_)
          · have hf := qob_t hf c6
            have hf := qob_esc hf
            exact hJ4 x2_3 m_turns_5 hf _ _ _ ⟨hP, hD, hS⟩ (lv_sub hl [0, 1, 2, 3] rfl)
          · have hf := qob_f hf c6
            refine lv_aload_n hx hb dX10_layTurns_45 rfl (lv_at hl 0 rfl) ?_
            refine lv_iload hx hb dX10_layTurns_46 (lv_at hl 4 rfl) ?_
            refine lv_bipush (v := 36) hx hb dX10_layTurns_48 (by decide) ?_
            refine lv_idiv hx hb dX10_layTurns_50 (by decide) ?_
            refine ctV_i0 (r := (fX10_isThere m_rows m_columns (x4_1 / 36))) (wc := [oX10 mo ma m_thrown m_textSize m_rows m_columns m_a m_b m_readRows m_readColumns m_at m_looks m_came m_draw m_turnedRows m_turnedColumns]) (As := [.int (x4_1 / 36)]) (rest := []) (q0 := 0) X hK hP hD hS [0] rfl rfl rfl (KX10_isThere rfl _) (cwV 1 hts gX10_layTurns_X10_isThere rfl rfl rfl hdX10_isThere ⟨Nat.le_of_ble_eq_true rfl, Nat.le_of_ble_eq_true rfl⟩) rfl rfl rfl hl rfl (Nat.le_of_ble_eq_true rfl) dX10_layTurns_51 (Nat.zero_le _) (Nat.zero_le _) (fun H locs hP hS => ?_)
            refine qjoin1 hf (fun (s_1 : Int32) => ∀ (H : Heap) (locs : List Loc) (ls : Array Slot), ctW D A s ([oX10 mo ma m_thrown m_textSize m_rows m_columns m_a m_b m_readRows m_readColumns m_at m_looks m_came m_draw m_turnedRows m_turnedColumns, aZ cy (ma 1) 36 m_right, aZ cy (ma 2) 36 m_down, aI cy (ma 17) 1296 m_turns_5]) H locs → lv_has ls 6 [(0, .ref mo), (1, .int p1), (2, .int x2_3), (3, .int x3_1), (4, .int x4_1)] → W p l e rmX10_layTurns s m args below meth c H locs 0 0 Q (F0 m 87 ls [.int s_1])) ?_ ?_
            · intro s_1 hf H locs ls ⟨hP, hD, hS⟩ hl
              refine lv_istore (lv' := [(5, .int s_1), (0, .ref mo), (1, .int p1), (2, .int x2_3), (3, .int x3_1), (4, .int x4_1)]) hx hb dX10_layTurns_87 hl (by decide) rfl (fun ls hl => ?_)
              refine lv_iload hx hb dX10_layTurns_89 (lv_at hl 0 rfl) ?_
              refine lv_if_eq (tgt := 123) hx hb dX10_layTurns_91 (by decide) (fun c7 => ?_) (fun c7 => ?_)
              · have hf := qob_t hf c7
                refine lv_iinc (v := (x4_1 + 1)) (lv' := [(4, .int (x4_1 + 1)), (5, .int s_1), (0, .ref mo), (1, .int p1), (2, .int x2_3), (3, .int x3_1)]) hx hb dX10_layTurns_123 hl (k := 5) rfl rfl (by decide) rfl (fun ls hl => ?_)
                refine lv_goto (tgt := 37) hx hb dX10_layTurns_126 (by decide) ?_
                exact hL5 x2_3 (x4_1 + 1) m_turns_5 hf _ _ _ ⟨hP, hD, hS⟩ (lv_sub hl [2, 3, 4, 5, 0] rfl)
              · have hf := qob_f hf c7
                refine lv_aload_n hx hb dX10_layTurns_94 rfl (lv_at hl 1 rfl) ?_
                refine lv_iload hx hb dX10_layTurns_95 (lv_at hl 5 rfl) ?_
                refine lv_bipush (v := 36) hx hb dX10_layTurns_97 (by decide) ?_
                refine lv_idiv hx hb dX10_layTurns_99 (by decide) ?_
                refine lv_iload hx hb dX10_layTurns_100 (lv_at hl 5 rfl) ?_
                refine lv_bipush (v := 36) hx hb dX10_layTurns_102 (by decide) ?_
                refine lv_irem hx hb dX10_layTurns_104 (by decide) ?_
                refine lv_iload_n hx hb dX10_layTurns_105 rfl (lv_at hl 2 rfl) ?_
                obtain ⟨r_1, q8, hf⟩ := qcall1 hf
                refine ctV_i0 (r := r_1) (wc := [oX10 mo ma m_thrown m_textSize m_rows m_columns m_a m_b m_readRows m_readColumns m_at m_looks m_came m_draw m_turnedRows m_turnedColumns, aZ cy (ma 1) 36 m_right, aZ cy (ma 2) 36 m_down, aI cy (ma 17) 1296 m_turns_5]) (As := [.int (x4_1 / 36), .int (qrem x4_1 36), .int p1]) (rest := []) (q0 := 0) X hK hP hD hS [0, 1, 2, 3] rfl rfl rfl (KX10_turnsOf q8 _) (cwV 3 hts gX10_layTurns_X10_turnsOf rfl rfl rfl hdX10_turnsOf ⟨Nat.le_of_ble_eq_true rfl, Nat.le_of_ble_eq_true rfl⟩) rfl rfl rfl hl rfl (Nat.le_of_ble_eq_true rfl) dX10_layTurns_106 (Nat.zero_le _) (Nat.zero_le _) (fun H locs hP hS => ?_)
                refine lv_iload_n hx hb dX10_layTurns_109 rfl (lv_at hl 4 rfl) ?_
                refine lv_icmp_ne (tgt := 123) hx hb dX10_layTurns_110 (by decide) (fun c9 => ?_) (fun c9 => ?_)
                · have hf := qob_f hf c9
                  refine lv_iinc (v := (x4_1 + 1)) (lv' := [(4, .int (x4_1 + 1)), (5, .int s_1), (0, .ref mo), (1, .int p1), (2, .int x2_3), (3, .int x3_1)]) hx hb dX10_layTurns_123 hl (k := 5) rfl rfl (by decide) rfl (fun ls hl => ?_)
                  refine lv_goto (tgt := 37) hx hb dX10_layTurns_126 (by decide) ?_
                  exact hL5 x2_3 (x4_1 + 1) m_turns_5 hf _ _ _ ⟨hP, hD, hS⟩ (lv_sub hl [2, 3, 4, 5, 0] rfl)
                · have hf := qob_t hf c9
                  refine lv_aload_n hx hb dX10_layTurns_113 rfl (lv_at hl 1 rfl) ?_
                  refine va_get (D := D) (ci := 10) (v := .ref (ma 17)) (C := RX10) (T := TX10) (N := 34) hx hb hts inwX10_layTurns_X10 hown hK hP 0 rfl rfl 28 (by decide) (hts (.fieldLink RX10 70 "HedgeWaysModel" "turns" "[I") (List.mem_of_getElem? (i := 1) rfl)) (fun _ h9 => h9) rfl dX10_layTurns_114 ?_
                  refine lv_iload hx hb dX10_layTurns_117 (lv_at hl 5 rfl) ?_
                  refine lv_iload_n hx hb dX10_layTurns_119 rfl (lv_at hl 4 rfl) ?_
                  obtain ⟨i10, hf⟩ := qob_gd hf
                  refine va_iast hx hb hK hP hD hS 3 0 rfl rfl i10 dX10_layTurns_120 (fun H locs hP hD hS => ?_)
                  have hP : va_P D vwCl ([oX10 mo ma m_thrown m_textSize m_rows m_columns m_a m_b m_readRows m_readColumns m_at m_looks m_came m_draw m_turnedRows m_turnedColumns, aZ cy (ma 1) 36 m_right, aZ cy (ma 2) 36 m_down, aI cy (ma 17) 1296 (upd m_turns_5 x4_1.toNatClampNeg x3_1)]) H := hP
                  have hD : va_D A ([oX10 mo ma m_thrown m_textSize m_rows m_columns m_a m_b m_readRows m_readColumns m_at m_looks m_came m_draw m_turnedRows m_turnedColumns, aZ cy (ma 1) 36 m_right, aZ cy (ma 2) 36 m_down, aI cy (ma 17) 1296 (upd m_turns_5 x4_1.toNatClampNeg x3_1)]) := hD
                  refine lv_iconst (v := 1) hx hb dX10_layTurns_121 (by decide) ?_
                  refine lv_istore_n (lv' := [(2, .int 1), (5, .int s_1), (0, .ref mo), (1, .int p1), (3, .int x3_1), (4, .int x4_1)]) hx hb dX10_layTurns_122 rfl hl (by decide) rfl (fun ls hl => ?_)
                  refine lv_iinc (v := (x4_1 + 1)) (lv' := [(4, .int (x4_1 + 1)), (2, .int 1), (5, .int s_1), (0, .ref mo), (1, .int p1), (3, .int x3_1)]) hx hb dX10_layTurns_123 hl (k := 5) rfl rfl (by decide) rfl (fun ls hl => ?_)
                  refine lv_goto (tgt := 37) hx hb dX10_layTurns_126 (by decide) ?_
                  exact hL5 1 (x4_1 + 1) (upd m_turns_5 x4_1.toNatClampNeg x3_1) hf _ _ _ ⟨hP, hD, hS⟩ (lv_sub hl [3, 4, 1, 5, 0] rfl)
            · intro J11 hJ11 hf
              refine lv_if_eq (tgt := 86) hx hb dX10_layTurns_54 (by decide) (fun c12 => ?_) (fun c12 => ?_)
              · have hf := qob_t hf c12
                refine lv_iconst (v := 0) hx hb dX10_layTurns_86 (by decide) ?_
                exact hJ11 0 hf _ _ _ ⟨hP, hD, hS⟩ hl
              · have hf := qob_f hf c12
                refine lv_aload_n hx hb dX10_layTurns_57 rfl (lv_at hl 0 rfl) ?_
                refine lv_iload hx hb dX10_layTurns_58 (lv_at hl 4 rfl) ?_
                refine lv_bipush (v := 36) hx hb dX10_layTurns_60 (by decide) ?_
                refine lv_irem hx hb dX10_layTurns_62 (by decide) ?_
                refine ctV_i0 (r := (fX10_isThere m_rows m_columns (qrem x4_1 36))) (wc := [oX10 mo ma m_thrown m_textSize m_rows m_columns m_a m_b m_readRows m_readColumns m_at m_looks m_came m_draw m_turnedRows m_turnedColumns]) (As := [.int (qrem x4_1 36)]) (rest := []) (q0 := 0) X hK hP hD hS [0] rfl rfl rfl (KX10_isThere rfl _) (cwV 1 hts gX10_layTurns_X10_isThere rfl rfl rfl hdX10_isThere ⟨Nat.le_of_ble_eq_true rfl, Nat.le_of_ble_eq_true rfl⟩) rfl rfl rfl hl rfl (Nat.le_of_ble_eq_true rfl) dX10_layTurns_63 (Nat.zero_le _) (Nat.zero_le _) (fun H locs hP hS => ?_)
                refine lv_if_eq (tgt := 86) hx hb dX10_layTurns_66 (by decide) (fun c13 => ?_) (fun c13 => ?_)
                · have hf := qob_t hf c13
                  refine lv_iconst (v := 0) hx hb dX10_layTurns_86 (by decide) ?_
                  exact hJ11 0 hf _ _ _ ⟨hP, hD, hS⟩ hl
                · have hf := qob_f hf c13
                  refine lv_aload_n hx hb dX10_layTurns_69 rfl (lv_at hl 0 rfl) ?_
                  refine va_get (D := D) (ci := 10) (v := .ref (ma 17)) (C := RX10) (T := TX10) (N := 34) hx hb hts inwX10_layTurns_X10 hown hK hP 0 rfl rfl 28 (by decide) (hts (.fieldLink RX10 70 "HedgeWaysModel" "turns" "[I") (List.mem_of_getElem? (i := 1) rfl)) (fun _ h9 => h9) rfl dX10_layTurns_70 ?_
                  refine lv_iload hx hb dX10_layTurns_73 (lv_at hl 4 rfl) ?_
                  obtain ⟨i14, hf⟩ := qob_gd hf
                  refine va_iald hx hb hK hP 3 0 rfl rfl i14 dX10_layTurns_75 ?_
                  refine lv_sipush (v := 9999) hx hb dX10_layTurns_76 (by decide) ?_
                  refine lv_icmp_ne (tgt := 86) hx hb dX10_layTurns_79 (by decide) (fun c15 => ?_) (fun c15 => ?_)
                  · have hf := qob_f hf c15
                    refine lv_iconst (v := 0) hx hb dX10_layTurns_86 (by decide) ?_
                    exact hJ11 0 hf _ _ _ ⟨hP, hD, hS⟩ hl
                  · have hf := qob_t hf c15
                    refine lv_iconst (v := 1) hx hb dX10_layTurns_82 (by decide) ?_
                    refine lv_goto (tgt := 87) hx hb dX10_layTurns_83 (by decide) ?_
                    exact hJ11 1 hf _ _ _ ⟨hP, hD, hS⟩ hl
  · intro J16 hJ16 hf
    refine qwalk2 (fun (x2_4 : Int32) (m_turns_6 : Nat → Int32) => ∀ (H : Heap) (locs : List Loc) (ls : Array Slot), ctW D A s ([oX10 mo ma m_thrown m_textSize m_rows m_columns m_a m_b m_readRows m_readColumns m_at m_looks m_came m_draw m_turnedRows m_turnedColumns, aZ cy (ma 1) 36 m_right, aZ cy (ma 2) 36 m_down, aI cy (ma 17) 1296 m_turns_6]) H locs → lv_has ls 6 [(0, .ref mo), (1, .int p1), (2, .int x2_4)] → W p l e rmX10_layTurns s m args below meth c H locs 0 0 Q (F0 m 2 ls [])) ?_ _ (0 : Int32) m_turns hf _ _ _ ⟨hP, hD, hS⟩ (lv_sub hl [1, 2, 0] rfl)
    intro J17 hL17 x2_4 m_turns_6 hf H locs ls ⟨hP, hD, hS⟩ hl
    refine lv_iload_n hx hb dX10_layTurns_2 rfl (lv_at hl 2 rfl) ?_
    refine lv_sipush (v := 1296) hx hb dX10_layTurns_3 (by decide) ?_
    refine lv_icmp_ge (tgt := 24) hx hb dX10_layTurns_6 (by decide) (fun c18 => ?_) (fun c18 => ?_)
    · have hf := qob_t hf c18
      have hf := qob_esc hf
      exact hJ16 m_turns_6 hf _ _ _ ⟨hP, hD, hS⟩ (lv_sub hl [0, 1] rfl)
    · have hf := qob_f hf c18
      refine lv_aload_n hx hb dX10_layTurns_9 rfl (lv_at hl 0 rfl) ?_
      refine va_get (D := D) (ci := 10) (v := .ref (ma 17)) (C := RX10) (T := TX10) (N := 34) hx hb hts inwX10_layTurns_X10 hown hK hP 0 rfl rfl 28 (by decide) (hts (.fieldLink RX10 70 "HedgeWaysModel" "turns" "[I") (List.mem_of_getElem? (i := 1) rfl)) (fun _ h9 => h9) rfl dX10_layTurns_10 ?_
      refine lv_iload_n hx hb dX10_layTurns_13 rfl (lv_at hl 2 rfl) ?_
      refine lv_sipush (v := 9999) hx hb dX10_layTurns_14 (by decide) ?_
      obtain ⟨i19, hf⟩ := qob_gd hf
      refine va_iast hx hb hK hP hD hS 3 0 rfl rfl i19 dX10_layTurns_17 (fun H locs hP hD hS => ?_)
      have hP : va_P D vwCl ([oX10 mo ma m_thrown m_textSize m_rows m_columns m_a m_b m_readRows m_readColumns m_at m_looks m_came m_draw m_turnedRows m_turnedColumns, aZ cy (ma 1) 36 m_right, aZ cy (ma 2) 36 m_down, aI cy (ma 17) 1296 (upd m_turns_6 x2_4.toNatClampNeg 9999)]) H := hP
      have hD : va_D A ([oX10 mo ma m_thrown m_textSize m_rows m_columns m_a m_b m_readRows m_readColumns m_at m_looks m_came m_draw m_turnedRows m_turnedColumns, aZ cy (ma 1) 36 m_right, aZ cy (ma 2) 36 m_down, aI cy (ma 17) 1296 (upd m_turns_6 x2_4.toNatClampNeg 9999)]) := hD
      refine lv_iinc (v := (x2_4 + 1)) (lv' := [(2, .int (x2_4 + 1)), (0, .ref mo), (1, .int p1)]) hx hb dX10_layTurns_18 hl (k := 2) rfl rfl (by decide) rfl (fun ls hl => ?_)
      refine lv_goto (tgt := 2) hx hb dX10_layTurns_21 (by decide) ?_
      exact hL17 (x2_4 + 1) (upd m_turns_6 x2_4.toNatClampNeg 9999) hf _ _ _ ⟨hP, hD, hS⟩ (lv_sub hl [1, 2, 0] rfl)

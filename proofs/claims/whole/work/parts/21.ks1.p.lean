theorem inwX4_firstInto_X4 : ∀ w ∈ wsX40, w ∈ wsX4_firstInto := fun _ h => List.mem_cons_of_mem _ (List.mem_append_left _ (List.mem_append_right _ h))
abbrev rmX4_firstInto : Room := { frames := 3, cells := 0, slots := 0, locals := 67 }
theorem hdX4_firstInto : yX4_firstInto.cls = RX4 ∧ yX4_firstInto.cls ≠ "java/lang/invoke/MethodHandle" ∧ yX4_firstInto.cls ≠ "java/lang/invoke/VarHandle" ∧ (parseMethodDescriptor yX4_firstInto.desc).map (fun d => d.parameters.length) = some 2 := by decide +kernel
set_option maxHeartbeats 4000000 in
set_option maxRecDepth 100000 in
theorem KX4_firstInto {l : Launch} {D : va_G} {cy : Nat → ClassId} {ro g q_ro_within q_ro_counts : Nat} {ro_within : Nat → Int64} {ro_counts : Nat → Int64} {g_rows : Int32} {g_columns : Int32} {g_a : Int32} {g_b : Int32} {g_cells : Int64} {g_right : Int64} {g_down : Int64} {p1 : Int32} {p2 : Int32} {r : Int32} (hf : fX4_firstInto ro_within g_cells g_right g_down p1 p2 = some r) : CtI l yX4_firstInto wsX4_firstInto rmX4_firstInto D cy [.ref ro, .int p1, .int p2] ([oX4 ro g q_ro_within q_ro_counts, aJ cy q_ro_within 36 ro_within, aJ cy q_ro_counts 48 ro_counts, oX1 g g_rows g_columns g_a g_b g_cells g_right g_down]) ([oX4 ro g q_ro_within q_ro_counts, aJ cy q_ro_within 36 ro_within, aJ cy q_ro_counts 48 ro_counts, oX1 g g_rows g_columns g_a g_b g_cells g_right g_down]) r := by
  refine CtI.of (cc := cX4_firstInto) (maxL := 5) (ret := some .int) (own := RX4) (by decide) rfl rfl (Nat.le_of_ble_eq_true rfl) ?_
  intro p e s m args below meth c A Q X hQ hK hP hD hS ls hl
  obtain ⟨hx, hb, hml, hown, hts, hr, hlocks, hA, hZ⟩ := id X
  have hl : lv_has ls 5 [(0, .ref ro), (1, .int p1), (2, .int p2)] := hl
  unfold fX4_firstInto at hf
  have hf := qob_top hf
  refine lv_iconst (v := 0) hx hb dX4_firstInto_0 (by decide) ?_
  refine lv_istore_n (lv' := [(3, .int 0), (0, .ref ro), (1, .int p1), (2, .int p2)]) hx hb dX4_firstInto_1 rfl hl (by decide) rfl (fun ls hl => ?_)
  refine qjoinE0 hf (∀ (H : Heap) (locs : List Loc) (ls : Array Slot), ctW D A s ([oX4 ro g q_ro_within q_ro_counts, aJ cy q_ro_within 36 ro_within, aJ cy q_ro_counts 48 ro_counts, oX1 g g_rows g_columns g_a g_b g_cells g_right g_down]) H locs → lv_has ls 5 [(1, .int p1)] → W p l e rmX4_firstInto s m args below meth c H locs 0 0 Q (F0 m 57 ls [])) ?_ ?_
  · intro  hf H locs ls ⟨hP, hD, hS⟩ hl
    refine lv_iload_n hx hb dX4_firstInto_57 rfl (lv_at hl 0 rfl) ?_
    cases qob_ret hf
    exact ct_iret X hQ hK hP hD hS rfl dX4_firstInto_58
  · intro J1 hJ1 hf
    refine qwalk1 (fun (x3_1 : Int32) => ∀ (H : Heap) (locs : List Loc) (ls : Array Slot), ctW D A s ([oX4 ro g q_ro_within q_ro_counts, aJ cy q_ro_within 36 ro_within, aJ cy q_ro_counts 48 ro_counts, oX1 g g_rows g_columns g_a g_b g_cells g_right g_down]) H locs → lv_has ls 5 [(0, .ref ro), (1, .int p1), (2, .int p2), (3, .int x3_1)] → W p l e rmX4_firstInto s m args below meth c H locs 0 0 Q (F0 m 2 ls [])) ?_ _ (0 : Int32) hf _ _ _ ⟨hP, hD, hS⟩ (lv_sub hl [1, 2, 3, 0] rfl)
    intro J2 hL2 x3_1 hf H locs ls ⟨hP, hD, hS⟩ hl
    refine lv_iload_n hx hb dX4_firstInto_2 rfl (lv_at hl 3 rfl) ?_
    refine lv_iconst (v := 4) hx hb dX4_firstInto_3 (by decide) ?_
    refine lv_icmp_ge (tgt := 57) hx hb dX4_firstInto_4 (by decide) (fun c3 => ?_) (fun c3 => ?_)
    · have hf := qob_t hf c3
      have hf := qob_esc hf
      exact hJ1 hf _ _ _ ⟨hP, hD, hS⟩ (lv_sub hl [1] rfl)
    · have hf := qob_f hf c3
      refine lv_iload_n hx hb dX4_firstInto_7 rfl (lv_at hl 2 rfl) ?_
      refine lv_if_lt (tgt := 57) hx hb dX4_firstInto_8 (by decide) (fun c4 => ?_) (fun c4 => ?_)
      · have hf := qob_t hf c4
        have hf := qob_esc hf
        exact hJ1 hf _ _ _ ⟨hP, hD, hS⟩ (lv_sub hl [1] rfl)
      · have hf := qob_f hf c4
        refine lv_iload_n hx hb dX4_firstInto_11 rfl (lv_at hl 2 rfl) ?_
        refine lv_bipush (v := 36) hx hb dX4_firstInto_12 (by decide) ?_
        refine lv_icmp_ge (tgt := 57) hx hb dX4_firstInto_14 (by decide) (fun c5 => ?_) (fun c5 => ?_)
        · have hf := qob_t hf c5
          have hf := qob_esc hf
          exact hJ1 hf _ _ _ ⟨hP, hD, hS⟩ (lv_sub hl [1] rfl)
        · have hf := qob_f hf c5
          refine lv_aload_n hx hb dX4_firstInto_17 rfl (lv_at hl 0 rfl) ?_
          refine va_get (D := D) (ci := 4) (v := .ref g) (C := RX4) (T := TX4) (N := 3) hx hb hts inwX4_firstInto_X4 hown hK hP 0 rfl rfl 0 (by decide) (hts (.fieldLink RX4 9 "HedgeWays$Routes" "grid" "LHedgeWays$Grid;") (List.mem_of_getElem? (i := 1) rfl)) (fun _ h9 => h9) rfl dX4_firstInto_18 ?_
          refine lv_iload_n hx hb dX4_firstInto_21 rfl (lv_at hl 1 rfl) ?_
          refine lv_iload_n hx hb dX4_firstInto_22 rfl (lv_at hl 3 rfl) ?_
          refine ctV_i0 (r := (fX1_neighbour g_cells g_right g_down p1 x3_1)) (wc := [oX1 g g_rows g_columns g_a g_b g_cells g_right g_down]) (As := [.int p1, .int x3_1]) (rest := []) (q0 := 3) X hK hP hD hS [3] rfl rfl rfl (KX1_neighbour rfl _) (cwV 2 hts gX4_firstInto_X1_neighbour rfl rfl rfl hdX1_neighbour ⟨Nat.le_of_ble_eq_true rfl, Nat.le_of_ble_eq_true rfl⟩) rfl rfl rfl hl rfl (Nat.le_of_ble_eq_true rfl) dX4_firstInto_23 (Nat.zero_le _) (Nat.zero_le _) (fun H locs hP hS => ?_)
          refine lv_topi (fun x4_1 e6 => ?_)
          have hf := qob_bd hf e6
          refine lv_istore (lv' := [(4, .int x4_1), (0, .ref ro), (1, .int p1), (2, .int p2), (3, .int x3_1)]) hx hb dX4_firstInto_26 hl (by decide) rfl (fun ls hl => ?_)
          refine lv_iload hx hb dX4_firstInto_28 (lv_at hl 0 rfl) ?_
          refine lv_iconst (v := (-1)) hx hb dX4_firstInto_30 (by decide) ?_
          refine lv_icmp_eq (tgt := 51) hx hb dX4_firstInto_31 (by decide) (fun c7 => ?_) (fun c7 => ?_)
          · have hf := qob_t hf c7
            refine lv_iinc (v := (x3_1 + 1)) (lv' := [(3, .int (x3_1 + 1)), (4, .int x4_1), (0, .ref ro), (1, .int p1), (2, .int p2)]) hx hb dX4_firstInto_51 hl (k := 4) rfl rfl (by decide) rfl (fun ls hl => ?_)
            refine lv_goto (tgt := 2) hx hb dX4_firstInto_54 (by decide) ?_
            exact hL2 (x3_1 + 1) hf _ _ _ ⟨hP, hD, hS⟩ (lv_sub hl [2, 3, 4, 0] rfl)
          · have hf := qob_f hf c7
            refine lv_aload_n hx hb dX4_firstInto_34 rfl (lv_at hl 1 rfl) ?_
            refine va_get (D := D) (ci := 4) (v := .ref q_ro_within) (C := RX4) (T := TX4) (N := 3) hx hb hts inwX4_firstInto_X4 hown hK hP 0 rfl rfl 1 (by decide) (hts (.fieldLink RX4 15 "HedgeWays$Routes" "within" "[J") (List.mem_of_getElem? (i := 2) rfl)) (fun _ h9 => h9) rfl dX4_firstInto_35 ?_
            refine lv_iload_n hx hb dX4_firstInto_38 rfl (lv_at hl 3 rfl) ?_
            obtain ⟨i8, hf⟩ := qob_gd hf
            refine va_lald hx hb hK hP 1 1 rfl rfl i8 dX4_firstInto_39 ?_
            refine lv_iload hx hb dX4_firstInto_40 (lv_at hl 0 rfl) ?_
            refine ctS_i0 (r := (fX1_has (ro_within p2.toNatClampNeg) x4_1)) (wc := []) (As := [.long (ro_within p2.toNatClampNeg), .int x4_1]) (rest := []) X hK hP hD hS [] rfl rfl rfl (KX1_has rfl _) (va_cwS 2 hts gX4_firstInto_X1_has rfl rfl rfl hdX1_has ⟨Nat.le_of_ble_eq_true rfl, Nat.le_of_ble_eq_true rfl⟩) rfl hl rfl (Nat.le_of_ble_eq_true rfl) dX4_firstInto_42 (Nat.zero_le _) (Nat.zero_le _) (fun H locs hP hS => ?_)
            refine lv_if_eq (tgt := 51) hx hb dX4_firstInto_45 (by decide) (fun c9 => ?_) (fun c9 => ?_)
            · have hf := qob_t hf c9
              refine lv_iinc (v := (x3_1 + 1)) (lv' := [(3, .int (x3_1 + 1)), (4, .int x4_1), (0, .ref ro), (1, .int p1), (2, .int p2)]) hx hb dX4_firstInto_51 hl (k := 4) rfl rfl (by decide) rfl (fun ls hl => ?_)
              refine lv_goto (tgt := 2) hx hb dX4_firstInto_54 (by decide) ?_
              exact hL2 (x3_1 + 1) hf _ _ _ ⟨hP, hD, hS⟩ (lv_sub hl [2, 3, 4, 0] rfl)
            · have hf := qob_f hf c9
              refine lv_iload hx hb dX4_firstInto_48 (lv_at hl 0 rfl) ?_
              have hf := qob_esc hf
              have hf := qob_esc hf
              cases qob_ret hf
              exact ct_iret X hQ hK hP hD hS rfl dX4_firstInto_50
theorem inwX4_placeOnFirst_X4 : ∀ w ∈ wsX40, w ∈ wsX4_placeOnFirst := fun _ h => List.mem_cons_of_mem _ (List.mem_append_left _ (List.mem_append_right _ h))
abbrev rmX4_placeOnFirst : Room := { frames := 4, cells := 0, slots := 0, locals := 91 }
theorem hdX4_placeOnFirst : yX4_placeOnFirst.cls = RX4 ∧ yX4_placeOnFirst.cls ≠ "java/lang/invoke/MethodHandle" ∧ yX4_placeOnFirst.cls ≠ "java/lang/invoke/VarHandle" ∧ (parseMethodDescriptor yX4_placeOnFirst.desc).map (fun d => d.parameters.length) = some 3 := by decide +kernel
set_option maxHeartbeats 4000000 in
set_option maxRecDepth 100000 in
theorem KX4_placeOnFirst {l : Launch} {D : va_G} {cy : Nat → ClassId} {ro g q_ro_within q_ro_counts : Nat} {ro_within : Nat → Int64} {ro_counts : Nat → Int64} {g_rows : Int32} {g_columns : Int32} {g_a : Int32} {g_b : Int32} {g_cells : Int64} {g_right : Int64} {g_down : Int64} {p1 : Int32} {p2 : Int32} {p3 : Int32} {r : Int32} {ro_within' : Nat → Int64} (hf : fX4_placeOnFirst ro_within g_cells g_right g_down p1 p2 p3 = some (r, ro_within')) : CtI l yX4_placeOnFirst wsX4_placeOnFirst rmX4_placeOnFirst D cy [.ref ro, .int p1, .int p2, .int p3] ([oX4 ro g q_ro_within q_ro_counts, aJ cy q_ro_within 36 ro_within, aJ cy q_ro_counts 48 ro_counts, oX1 g g_rows g_columns g_a g_b g_cells g_right g_down]) ([oX4 ro g q_ro_within q_ro_counts, aJ cy q_ro_within 36 ro_within', aJ cy q_ro_counts 48 ro_counts, oX1 g g_rows g_columns g_a g_b g_cells g_right g_down]) r := by
  refine CtI.of (cc := cX4_placeOnFirst) (maxL := 7) (ret := some .int) (own := RX4) (by decide) rfl rfl (Nat.le_of_ble_eq_true rfl) ?_
  intro p e s m args below meth c A Q X hQ hK hP hD hS ls hl
  obtain ⟨hx, hb, hml, hown, hts, hr, hlocks, hA, hZ⟩ := id X
  have hl : lv_has ls 7 [(0, .ref ro), (1, .int p1), (2, .int p2), (3, .int p3)] := hl
  unfold fX4_placeOnFirst at hf
  have hf := qob_top hf
  refine lv_aload_n hx hb dX4_placeOnFirst_0 rfl (lv_at hl 0 rfl) ?_
  refine va_get (D := D) (ci := 4) (v := .ref g) (C := RX4) (T := TX4) (N := 3) hx hb hts inwX4_placeOnFirst_X4 hown hK hP 0 rfl rfl 0 (by decide) (hts (.fieldLink RX4 9 "HedgeWays$Routes" "grid" "LHedgeWays$Grid;") (List.mem_of_getElem? (i := 1) rfl)) (fun _ h9 => h9) rfl dX4_placeOnFirst_1 ?_
  refine lv_iload_n hx hb dX4_placeOnFirst_4 rfl (lv_at hl 1 rfl) ?_
  refine lv_iload_n hx hb dX4_placeOnFirst_5 rfl (lv_at hl 2 rfl) ?_
  obtain ⟨r_1, q1, hf⟩ := qcall1 hf
  refine ctV_i0 (r := r_1) (wc := [oX1 g g_rows g_columns g_a g_b g_cells g_right g_down]) (As := [.int p1, .int p2]) (rest := []) (q0 := 3) X hK hP hD hS [3] rfl rfl rfl (KX1_distance q1 _) (cwV 2 hts gX4_placeOnFirst_X1_distance rfl rfl rfl hdX1_distance ⟨Nat.le_of_ble_eq_true rfl, Nat.le_of_ble_eq_true rfl⟩) rfl rfl rfl hl rfl (Nat.le_of_ble_eq_true rfl) dX4_placeOnFirst_6 (Nat.zero_le _) (Nat.zero_le _) (fun H locs hP hS => ?_)
  refine lv_istore (lv' := [(4, .int r_1), (0, .ref ro), (1, .int p1), (2, .int p2), (3, .int p3)]) hx hb dX4_placeOnFirst_9 hl (by decide) rfl (fun ls hl => ?_)
  refine lv_iload hx hb dX4_placeOnFirst_11 (lv_at hl 0 rfl) ?_
  refine lv_bipush (v := (-9)) hx hb dX4_placeOnFirst_13 (by decide) ?_
  refine lv_icmp_eq (tgt := 28) hx hb dX4_placeOnFirst_15 (by decide) (fun c2 => ?_) (fun c2 => ?_)
  · have hf := qob_t hf c2
    refine lv_iconst (v := (-1)) hx hb dX4_placeOnFirst_28 (by decide) ?_
    cases qob_ret hf
    exact ct_iret X hQ hK hP hD hS rfl dX4_placeOnFirst_29
  · have hf := qob_f hf c2
    refine lv_iload_n hx hb dX4_placeOnFirst_18 rfl (lv_at hl 4 rfl) ?_
    refine lv_if_lt (tgt := 28) hx hb dX4_placeOnFirst_19 (by decide) (fun c3 => ?_) (fun c3 => ?_)
    · have hf := qob_t hf c3
      refine lv_iconst (v := (-1)) hx hb dX4_placeOnFirst_28 (by decide) ?_
      cases qob_ret hf
      exact ct_iret X hQ hK hP hD hS rfl dX4_placeOnFirst_29
    · have hf := qob_f hf c3
      refine lv_iload_n hx hb dX4_placeOnFirst_22 rfl (lv_at hl 4 rfl) ?_
      refine lv_iload hx hb dX4_placeOnFirst_23 (lv_at hl 0 rfl) ?_
      refine lv_icmp_le (tgt := 30) hx hb dX4_placeOnFirst_25 (by decide) (fun c4 => ?_) (fun c4 => ?_)
      · have hf := qob_t hf c4
        refine lv_aload_n hx hb dX4_placeOnFirst_30 rfl (lv_at hl 1 rfl) ?_
        refine va_get (D := D) (ci := 4) (v := .ref q_ro_within) (C := RX4) (T := TX4) (N := 3) hx hb hts inwX4_placeOnFirst_X4 hown hK hP 0 rfl rfl 1 (by decide) (hts (.fieldLink RX4 15 "HedgeWays$Routes" "within" "[J") (List.mem_of_getElem? (i := 2) rfl)) (fun _ h9 => h9) rfl dX4_placeOnFirst_31 ?_
        refine lv_iconst (v := 0) hx hb dX4_placeOnFirst_34 (by decide) ?_
        refine lv_iload_n hx hb dX4_placeOnFirst_35 rfl (lv_at hl 3 rfl) ?_
        refine ctS_l0 (r := (fX1_bit p2)) (wc := []) (As := [.int p2]) (rest := [.int 0, .ref q_ro_within]) X hK hP hD hS [] rfl rfl rfl (KX1_bit rfl _) (va_cwS 1 hts gX4_placeOnFirst_X1_bit rfl rfl rfl hdX1_bit ⟨Nat.le_of_ble_eq_true rfl, Nat.le_of_ble_eq_true rfl⟩) rfl hl rfl (Nat.le_of_ble_eq_true rfl) dX4_placeOnFirst_36 (Nat.zero_le _) (Nat.zero_le _) (fun H locs hP hS => ?_)
        obtain ⟨i5, hf⟩ := qob_gd hf
        refine va_last hx hb hK hP hD hS 1 1 rfl rfl i5 dX4_placeOnFirst_39 (fun H locs hP hD hS => ?_)
        have hP : va_P D vwCl ([oX4 ro g q_ro_within q_ro_counts, aJ cy q_ro_within 36 (vp_updL ro_within (0 : Int32).toNatClampNeg (fX1_bit p2)), aJ cy q_ro_counts 48 ro_counts, oX1 g g_rows g_columns g_a g_b g_cells g_right g_down]) H := hP
        have hD : va_D A ([oX4 ro g q_ro_within q_ro_counts, aJ cy q_ro_within 36 (vp_updL ro_within (0 : Int32).toNatClampNeg (fX1_bit p2)), aJ cy q_ro_counts 48 ro_counts, oX1 g g_rows g_columns g_a g_b g_cells g_right g_down]) := hD
        refine lv_iconst (v := 1) hx hb dX4_placeOnFirst_40 (by decide) ?_
        refine lv_istore (lv' := [(5, .int 1), (4, .int r_1), (0, .ref ro), (1, .int p1), (2, .int p2), (3, .int p3)]) hx hb dX4_placeOnFirst_41 hl (by decide) rfl (fun ls hl => ?_)
        refine qjoin1 hf (fun (ro_within_1 : Nat → Int64) => ∀ (H : Heap) (locs : List Loc) (ls : Array Slot), ctW D A s ([oX4 ro g q_ro_within q_ro_counts, aJ cy q_ro_within 36 ro_within_1, aJ cy q_ro_counts 48 ro_counts, oX1 g g_rows g_columns g_a g_b g_cells g_right g_down]) H locs → lv_has ls 7 [(0, .ref ro), (1, .int p1), (3, .int p3), (4, .int r_1)] → W p l e rmX4_placeOnFirst s m args below meth c H locs 0 0 Q (F0 m 86 ls [])) ?_ ?_
        · intro ro_within_1 hf H locs ls ⟨hP, hD, hS⟩ hl
          refine lv_iload_n hx hb dX4_placeOnFirst_86 rfl (lv_at hl 1 rfl) ?_
          refine lv_istore (lv' := [(5, .int p1), (0, .ref ro), (1, .int p1), (3, .int p3), (4, .int r_1)]) hx hb dX4_placeOnFirst_87 hl (by decide) rfl (fun ls hl => ?_)
          refine lv_iconst (v := 1) hx hb dX4_placeOnFirst_89 (by decide) ?_
          refine lv_istore (lv' := [(6, .int 1), (5, .int p1), (0, .ref ro), (1, .int p1), (3, .int p3), (4, .int r_1)]) hx hb dX4_placeOnFirst_90 hl (by decide) rfl (fun ls hl => ?_)
          refine qjoin1 hf (fun (x5_1 : Int32) => ∀ (H : Heap) (locs : List Loc) (ls : Array Slot), ctW D A s ([oX4 ro g q_ro_within q_ro_counts, aJ cy q_ro_within 36 ro_within_1, aJ cy q_ro_counts 48 ro_counts, oX1 g g_rows g_columns g_a g_b g_cells g_right g_down]) H locs → lv_has ls 7 [(5, .int x5_1)] → W p l e rmX4_placeOnFirst s m args below meth c H locs 0 0 Q (F0 m 117 ls [])) ?_ ?_
          · intro x5_1 hf H locs ls ⟨hP, hD, hS⟩ hl
            refine lv_iload hx hb dX4_placeOnFirst_117 (lv_at hl 0 rfl) ?_
            cases qob_ret hf
            exact ct_iret X hQ hK hP hD hS rfl dX4_placeOnFirst_119
          · intro J6 hJ6 hf
            refine qwalk2 (fun (x5_2 : Int32) (x6_1 : Int32) => ∀ (H : Heap) (locs : List Loc) (ls : Array Slot), ctW D A s ([oX4 ro g q_ro_within q_ro_counts, aJ cy q_ro_within 36 ro_within_1, aJ cy q_ro_counts 48 ro_counts, oX1 g g_rows g_columns g_a g_b g_cells g_right g_down]) H locs → lv_has ls 7 [(0, .ref ro), (3, .int p3), (4, .int r_1), (5, .int x5_2), (6, .int x6_1)] → W p l e rmX4_placeOnFirst s m args below meth c H locs 0 0 Q (F0 m 92 ls [])) ?_ _ p1 (1 : Int32) hf _ _ _ ⟨hP, hD, hS⟩ (lv_sub hl [2, 4, 5, 1, 0] rfl)
            intro J7 hL7 x5_2 x6_1 hf H locs ls ⟨hP, hD, hS⟩ hl
            refine lv_iload hx hb dX4_placeOnFirst_92 (lv_at hl 4 rfl) ?_
            refine lv_iload_n hx hb dX4_placeOnFirst_94 rfl (lv_at hl 1 rfl) ?_
            refine lv_icmp_gt (tgt := 117) hx hb dX4_placeOnFirst_95 (by decide) (fun c8 => ?_) (fun c8 => ?_)
            · have hf := qob_t hf c8
              have hf := qob_esc hf
              exact hJ6 x5_2 hf _ _ _ ⟨hP, hD, hS⟩ (lv_sub hl [3] rfl)
            · have hf := qob_f hf c8
              refine lv_aload_n hx hb dX4_placeOnFirst_98 rfl (lv_at hl 0 rfl) ?_
              refine lv_iload hx hb dX4_placeOnFirst_99 (lv_at hl 3 rfl) ?_
              refine lv_iload hx hb dX4_placeOnFirst_101 (lv_at hl 2 rfl) ?_
              refine lv_iload hx hb dX4_placeOnFirst_103 (lv_at hl 4 rfl) ?_
              refine lv_isub hx hb dX4_placeOnFirst_105 ?_
              obtain ⟨r_2, q9, hf⟩ := qcall1 hf
              refine ctV_i0 (r := r_2) (wc := [oX4 ro g q_ro_within q_ro_counts, aJ cy q_ro_within 36 ro_within_1, aJ cy q_ro_counts 48 ro_counts, oX1 g g_rows g_columns g_a g_b g_cells g_right g_down]) (As := [.int x5_2, .int (r_1 - x6_1)]) (rest := []) (q0 := 0) X hK hP hD hS [0, 1, 2, 3] rfl rfl rfl (KX4_firstInto q9 _) (cwV 2 hts gX4_placeOnFirst_X4_firstInto rfl rfl rfl hdX4_firstInto ⟨Nat.le_of_ble_eq_true rfl, Nat.le_of_ble_eq_true rfl⟩) rfl rfl rfl hl rfl (Nat.le_of_ble_eq_true rfl) dX4_placeOnFirst_106 (Nat.zero_le _) (Nat.zero_le _) (fun H locs hP hS => ?_)
              refine lv_istore (lv' := [(5, .int r_2), (0, .ref ro), (3, .int p3), (4, .int r_1), (6, .int x6_1)]) hx hb dX4_placeOnFirst_109 hl (by decide) rfl (fun ls hl => ?_)
              refine lv_iinc (v := (x6_1 + 1)) (lv' := [(6, .int (x6_1 + 1)), (5, .int r_2), (0, .ref ro), (3, .int p3), (4, .int r_1)]) hx hb dX4_placeOnFirst_111 hl (k := 4) rfl rfl (by decide) rfl (fun ls hl => ?_)
              refine lv_goto (tgt := 92) hx hb dX4_placeOnFirst_114 (by decide) ?_
              exact hL7 r_2 (x6_1 + 1) hf _ _ _ ⟨hP, hD, hS⟩ (lv_sub hl [2, 3, 4, 1, 0] rfl)
        · intro J10 hJ10 hf
          refine qwalk2 (fun (x5_3 : Int32) (ro_within_2 : Nat → Int64) => ∀ (H : Heap) (locs : List Loc) (ls : Array Slot), ctW D A s ([oX4 ro g q_ro_within q_ro_counts, aJ cy q_ro_within 36 ro_within_2, aJ cy q_ro_counts 48 ro_counts, oX1 g g_rows g_columns g_a g_b g_cells g_right g_down]) H locs → lv_has ls 7 [(0, .ref ro), (1, .int p1), (3, .int p3), (4, .int r_1), (5, .int x5_3)] → W p l e rmX4_placeOnFirst s m args below meth c H locs 0 0 Q (F0 m 43 ls [])) ?_ _ (1 : Int32) (vp_updL ro_within (0 : Int32).toNatClampNeg (fX1_bit p2)) hf _ _ _ ⟨hP, hD, hS⟩ (lv_sub hl [2, 3, 5, 1, 0] rfl)
          intro J11 hL11 x5_3 ro_within_2 hf H locs ls ⟨hP, hD, hS⟩ hl
          refine lv_iload hx hb dX4_placeOnFirst_43 (lv_at hl 4 rfl) ?_
          refine lv_iload hx hb dX4_placeOnFirst_45 (lv_at hl 3 rfl) ?_
          refine lv_icmp_ge (tgt := 86) hx hb dX4_placeOnFirst_47 (by decide) (fun c12 => ?_) (fun c12 => ?_)
          · have hf := qob_t hf c12
            have hf := qob_esc hf
            exact hJ10 ro_within_2 hf _ _ _ ⟨hP, hD, hS⟩ (lv_sub hl [0, 1, 2, 3] rfl)
          · have hf := qob_f hf c12
            refine lv_iload hx hb dX4_placeOnFirst_50 (lv_at hl 4 rfl) ?_
            refine lv_bipush (v := 36) hx hb dX4_placeOnFirst_52 (by decide) ?_
            refine lv_icmp_ge (tgt := 86) hx hb dX4_placeOnFirst_54 (by decide) (fun c13 => ?_) (fun c13 => ?_)
            · have hf := qob_t hf c13
              have hf := qob_esc hf
              exact hJ10 ro_within_2 hf _ _ _ ⟨hP, hD, hS⟩ (lv_sub hl [0, 1, 2, 3] rfl)
            · have hf := qob_f hf c13
              refine lv_aload_n hx hb dX4_placeOnFirst_57 rfl (lv_at hl 0 rfl) ?_
              refine va_get (D := D) (ci := 4) (v := .ref q_ro_within) (C := RX4) (T := TX4) (N := 3) hx hb hts inwX4_placeOnFirst_X4 hown hK hP 0 rfl rfl 1 (by decide) (hts (.fieldLink RX4 15 "HedgeWays$Routes" "within" "[J") (List.mem_of_getElem? (i := 2) rfl)) (fun _ h9 => h9) rfl dX4_placeOnFirst_58 ?_
              refine lv_iload hx hb dX4_placeOnFirst_61 (lv_at hl 4 rfl) ?_
              refine lv_aload_n hx hb dX4_placeOnFirst_63 rfl (lv_at hl 0 rfl) ?_
              refine va_get (D := D) (ci := 4) (v := .ref g) (C := RX4) (T := TX4) (N := 3) hx hb hts inwX4_placeOnFirst_X4 hown hK hP 0 rfl rfl 0 (by decide) (hts (.fieldLink RX4 9 "HedgeWays$Routes" "grid" "LHedgeWays$Grid;") (List.mem_of_getElem? (i := 1) rfl)) (fun _ h9 => h9) rfl dX4_placeOnFirst_64 ?_
              refine lv_aload_n hx hb dX4_placeOnFirst_67 rfl (lv_at hl 0 rfl) ?_
              refine va_get (D := D) (ci := 4) (v := .ref q_ro_within) (C := RX4) (T := TX4) (N := 3) hx hb hts inwX4_placeOnFirst_X4 hown hK hP 0 rfl rfl 1 (by decide) (hts (.fieldLink RX4 15 "HedgeWays$Routes" "within" "[J") (List.mem_of_getElem? (i := 2) rfl)) (fun _ h9 => h9) rfl dX4_placeOnFirst_68 ?_
              refine lv_iload hx hb dX4_placeOnFirst_71 (lv_at hl 4 rfl) ?_
              refine lv_iconst (v := 1) hx hb dX4_placeOnFirst_73 (by decide) ?_
              refine lv_isub hx hb dX4_placeOnFirst_74 ?_
              obtain ⟨i14, hf⟩ := qob_gd hf
              refine va_lald hx hb hK hP 1 1 rfl rfl i14 dX4_placeOnFirst_75 ?_
              refine ctV_l0 (r := (fX1_near g_right g_down (ro_within_2 ((x5_3 - 1)).toNatClampNeg))) (wc := [oX1 g g_rows g_columns g_a g_b g_cells g_right g_down]) (As := [.long (ro_within_2 ((x5_3 - 1)).toNatClampNeg)]) (rest := [.int x5_3, .ref q_ro_within]) (q0 := 3) X hK hP hD hS [3] rfl rfl rfl (KX1_near rfl _) (cwV 1 hts gX4_placeOnFirst_X1_near rfl rfl rfl hdX1_near ⟨Nat.le_of_ble_eq_true rfl, Nat.le_of_ble_eq_true rfl⟩) rfl rfl rfl hl rfl (Nat.le_of_ble_eq_true rfl) dX4_placeOnFirst_76 (Nat.zero_le _) (Nat.zero_le _) (fun H locs hP hS => ?_)
              obtain ⟨i15, hf⟩ := qob_gd hf
              obtain ⟨ro_within_3, e16⟩ : ∃ z, z = (vp_updL ro_within_2 x5_3.toNatClampNeg (fX1_near g_right g_down (ro_within_2 ((x5_3 - 1)).toNatClampNeg))) := ⟨_, rfl⟩
              have hf := qob_bd hf e16
              refine va_last hx hb hK hP hD hS 1 1 rfl rfl i15 dX4_placeOnFirst_79 (fun H locs hP hD hS => ?_)
              have hP : va_P D vwCl ([oX4 ro g q_ro_within q_ro_counts, aJ cy q_ro_within 36 ro_within_3, aJ cy q_ro_counts 48 ro_counts, oX1 g g_rows g_columns g_a g_b g_cells g_right g_down]) H := by rw [e16]; exact hP
              have hD : va_D A ([oX4 ro g q_ro_within q_ro_counts, aJ cy q_ro_within 36 ro_within_3, aJ cy q_ro_counts 48 ro_counts, oX1 g g_rows g_columns g_a g_b g_cells g_right g_down]) := by rw [e16]; exact hD
              refine lv_iinc (v := (x5_3 + 1)) (lv' := [(5, .int (x5_3 + 1)), (0, .ref ro), (1, .int p1), (3, .int p3), (4, .int r_1)]) hx hb dX4_placeOnFirst_80 hl (k := 4) rfl rfl (by decide) rfl (fun ls hl => ?_)
              refine lv_goto (tgt := 43) hx hb dX4_placeOnFirst_83 (by decide) ?_
              exact hL11 (x5_3 + 1) ro_within_3 hf _ _ _ ⟨hP, hD, hS⟩ (lv_sub hl [1, 2, 3, 4, 0] rfl)
      · have hf := qob_f hf c4
        refine lv_iconst (v := (-1)) hx hb dX4_placeOnFirst_28 (by decide) ?_
        cases qob_ret hf
        exact ct_iret X hQ hK hP hD hS rfl dX4_placeOnFirst_29
theorem inwX4_stepsToAll_X4 : ∀ w ∈ wsX40, w ∈ wsX4_stepsToAll := fun _ h => List.mem_cons_of_mem _ (List.mem_append_left _ (List.mem_append_right _ h))
abbrev rmX4_stepsToAll : Room := { frames := 1, cells := 0, slots := 0, locals := 22 }
theorem hdX4_stepsToAll : yX4_stepsToAll.cls = RX4 ∧ yX4_stepsToAll.cls ≠ "java/lang/invoke/MethodHandle" ∧ yX4_stepsToAll.cls ≠ "java/lang/invoke/VarHandle" ∧ (parseMethodDescriptor yX4_stepsToAll.desc).map (fun d => d.parameters.length) = some 2 := by decide +kernel
set_option maxHeartbeats 4000000 in
set_option maxRecDepth 100000 in
theorem KX4_stepsToAll {l : Launch} {D : va_G} {cy : Nat → ClassId} {ro g q_ro_within q_ro_counts : Nat} {ro_within : Nat → Int64} {ro_counts : Nat → Int64} {g_rows : Int32} {g_columns : Int32} {g_a : Int32} {g_b : Int32} {g_cells : Int64} {g_right : Int64} {g_down : Int64} {p1 : Int32} {p2 : Int64} {r : Int32} (hf : fX4_stepsToAll g_right g_down p1 p2 = some r) : CtI l yX4_stepsToAll wsX4_stepsToAll rmX4_stepsToAll D cy [.ref ro, .int p1, .long p2] ([oX4 ro g q_ro_within q_ro_counts, aJ cy q_ro_within 36 ro_within, aJ cy q_ro_counts 48 ro_counts, oX1 g g_rows g_columns g_a g_b g_cells g_right g_down]) ([oX4 ro g q_ro_within q_ro_counts, aJ cy q_ro_within 36 ro_within, aJ cy q_ro_counts 48 ro_counts, oX1 g g_rows g_columns g_a g_b g_cells g_right g_down]) r := by
  refine CtI.of (cc := cX4_stepsToAll) (maxL := 7) (ret := some .int) (own := RX4) (by decide) rfl rfl (Nat.le_of_ble_eq_true rfl) ?_
  intro p e s m args below meth c A Q X hQ hK hP hD hS ls hl
  obtain ⟨hx, hb, hml, hown, hts, hr, hlocks, hA, hZ⟩ := id X
  have hl : lv_has ls 7 [(0, .ref ro), (1, .int p1), (2, .long p2)] := hl
  unfold fX4_stepsToAll at hf
  have hf := qob_top hf
  refine lv_iload_n hx hb dX4_stepsToAll_0 rfl (lv_at hl 1 rfl) ?_
  refine ctS_l0 (r := (fX1_bit p1)) (wc := []) (As := [.int p1]) (rest := []) X hK hP hD hS [] rfl rfl rfl (KX1_bit rfl _) (va_cwS 1 hts gX4_stepsToAll_X1_bit rfl rfl rfl hdX1_bit ⟨Nat.le_of_ble_eq_true rfl, Nat.le_of_ble_eq_true rfl⟩) rfl hl rfl (Nat.le_of_ble_eq_true rfl) dX4_stepsToAll_1 (Nat.zero_le _) (Nat.zero_le _) (fun H locs hP hS => ?_)
  refine lv_lstore (lv' := [(4, .long (fX1_bit p1)), (0, .ref ro), (1, .int p1), (2, .long p2)]) hx hb dX4_stepsToAll_4 hl (by decide) rfl (fun ls hl => ?_)
  refine lv_iconst (v := 0) hx hb dX4_stepsToAll_6 (by decide) ?_
  refine lv_istore (lv' := [(6, .int 0), (4, .long (fX1_bit p1)), (0, .ref ro), (1, .int p1), (2, .long p2)]) hx hb dX4_stepsToAll_7 hl (by decide) rfl (fun ls hl => ?_)
  refine qjoin1 hf (fun (x6_1 : Int32) => ∀ (H : Heap) (locs : List Loc) (ls : Array Slot), ctW D A s ([oX4 ro g q_ro_within q_ro_counts, aJ cy q_ro_within 36 ro_within, aJ cy q_ro_counts 48 ro_counts, oX1 g g_rows g_columns g_a g_b g_cells g_right g_down]) H locs → lv_has ls 7 [(6, .int x6_1)] → W p l e rmX4_stepsToAll s m args below meth c H locs 0 0 Q (F0 m 40 ls [])) ?_ ?_
  · intro x6_1 hf H locs ls ⟨hP, hD, hS⟩ hl
    refine lv_iload hx hb dX4_stepsToAll_40 (lv_at hl 0 rfl) ?_
    cases qob_ret hf
    exact ct_iret X hQ hK hP hD hS rfl dX4_stepsToAll_42
  · intro J1 hJ1 hf
    refine qwalk2 (fun (x4_1 : Int64) (x6_2 : Int32) => ∀ (H : Heap) (locs : List Loc) (ls : Array Slot), ctW D A s ([oX4 ro g q_ro_within q_ro_counts, aJ cy q_ro_within 36 ro_within, aJ cy q_ro_counts 48 ro_counts, oX1 g g_rows g_columns g_a g_b g_cells g_right g_down]) H locs → lv_has ls 7 [(0, .ref ro), (2, .long p2), (4, .long x4_1), (6, .int x6_2)] → W p l e rmX4_stepsToAll s m args below meth c H locs 0 0 Q (F0 m 9 ls [])) ?_ _ (fX1_bit p1) (0 : Int32) hf _ _ _ ⟨hP, hD, hS⟩ (lv_sub hl [2, 4, 1, 0] rfl)
    intro J2 hL2 x4_1 x6_2 hf H locs ls ⟨hP, hD, hS⟩ hl
    refine lv_iload hx hb dX4_stepsToAll_9 (lv_at hl 3 rfl) ?_
    refine lv_bipush (v := 36) hx hb dX4_stepsToAll_11 (by decide) ?_
    refine lv_icmp_ge (tgt := 40) hx hb dX4_stepsToAll_13 (by decide) (fun c3 => ?_) (fun c3 => ?_)
    · have hf := qob_t hf c3
      have hf := qob_esc hf
      exact hJ1 x6_2 hf _ _ _ ⟨hP, hD, hS⟩ (lv_sub hl [3] rfl)
    · have hf := qob_f hf c3
      refine lv_lload hx hb dX4_stepsToAll_16 (lv_at hl 2 rfl) ?_
      refine lv_lload_n hx hb dX4_stepsToAll_18 rfl (lv_at hl 1 rfl) ?_
      refine W.lcmp hx hb dX4_stepsToAll_19 ?_
      refine lv_if_eq (tgt := 40) hx hb dX4_stepsToAll_20 (by decide) (fun c4 => ?_) (fun c4 => ?_)
      · have hf := qob_t hf c4
        have hf := qob_esc hf
        exact hJ1 x6_2 hf _ _ _ ⟨hP, hD, hS⟩ (lv_sub hl [3] rfl)
      · have hf := qob_f hf c4
        refine lv_aload_n hx hb dX4_stepsToAll_23 rfl (lv_at hl 0 rfl) ?_
        refine va_get (D := D) (ci := 4) (v := .ref g) (C := RX4) (T := TX4) (N := 3) hx hb hts inwX4_stepsToAll_X4 hown hK hP 0 rfl rfl 0 (by decide) (hts (.fieldLink RX4 9 "HedgeWays$Routes" "grid" "LHedgeWays$Grid;") (List.mem_of_getElem? (i := 1) rfl)) (fun _ h9 => h9) rfl dX4_stepsToAll_24 ?_
        refine lv_lload hx hb dX4_stepsToAll_27 (lv_at hl 2 rfl) ?_
        refine ctV_l0 (r := (fX1_near g_right g_down x4_1)) (wc := [oX1 g g_rows g_columns g_a g_b g_cells g_right g_down]) (As := [.long x4_1]) (rest := []) (q0 := 3) X hK hP hD hS [3] rfl rfl rfl (KX1_near rfl _) (cwV 1 hts gX4_stepsToAll_X1_near rfl rfl rfl hdX1_near ⟨Nat.le_of_ble_eq_true rfl, Nat.le_of_ble_eq_true rfl⟩) rfl rfl rfl hl rfl (Nat.le_of_ble_eq_true rfl) dX4_stepsToAll_29 (Nat.zero_le _) (Nat.zero_le _) (fun H locs hP hS => ?_)
        refine lv_lstore (lv' := [(4, .long (fX1_near g_right g_down x4_1)), (0, .ref ro), (2, .long p2), (6, .int x6_2)]) hx hb dX4_stepsToAll_32 hl (by decide) rfl (fun ls hl => ?_)
        refine lv_iinc (v := (x6_2 + 1)) (lv' := [(6, .int (x6_2 + 1)), (4, .long (fX1_near g_right g_down x4_1)), (0, .ref ro), (2, .long p2)]) hx hb dX4_stepsToAll_34 hl (k := 3) rfl rfl (by decide) rfl (fun ls hl => ?_)
        refine lv_goto (tgt := 9) hx hb dX4_stepsToAll_37 (by decide) ?_
        exact hL2 (fX1_near g_right g_down x4_1) (x6_2 + 1) hf _ _ _ ⟨hP, hD, hS⟩ (lv_sub hl [2, 3, 1, 0] rfl)
abbrev rmX4_greatestDistance : Room := { frames := 2, cells := 0, slots := 0, locals := 48 }
theorem hdX4_greatestDistance : yX4_greatestDistance.cls = RX4 ∧ yX4_greatestDistance.cls ≠ "java/lang/invoke/MethodHandle" ∧ yX4_greatestDistance.cls ≠ "java/lang/invoke/VarHandle" ∧ (parseMethodDescriptor yX4_greatestDistance.desc).map (fun d => d.parameters.length) = some 1 := by decide +kernel
set_option maxHeartbeats 4000000 in
set_option maxRecDepth 100000 in
theorem KX4_greatestDistance {l : Launch} {D : va_G} {cy : Nat → ClassId} {ro g q_ro_within q_ro_counts : Nat} {ro_within : Nat → Int64} {ro_counts : Nat → Int64} {g_rows : Int32} {g_columns : Int32} {g_a : Int32} {g_b : Int32} {g_cells : Int64} {g_right : Int64} {g_down : Int64} {p1 : Int64} {r : Int32} (hf : fX4_greatestDistance g_right g_down p1 = some r) : CtI l yX4_greatestDistance wsX4_greatestDistance rmX4_greatestDistance D cy [.ref ro, .long p1] ([oX4 ro g q_ro_within q_ro_counts, aJ cy q_ro_within 36 ro_within, aJ cy q_ro_counts 48 ro_counts, oX1 g g_rows g_columns g_a g_b g_cells g_right g_down]) ([oX4 ro g q_ro_within q_ro_counts, aJ cy q_ro_within 36 ro_within, aJ cy q_ro_counts 48 ro_counts, oX1 g g_rows g_columns g_a g_b g_cells g_right g_down]) r := by
  refine CtI.of (cc := cX4_greatestDistance) (maxL := 5) (ret := some .int) (own := RX4) (by decide) rfl rfl (Nat.le_of_ble_eq_true rfl) ?_
  intro p e s m args below meth c A Q X hQ hK hP hD hS ls hl
  obtain ⟨hx, hb, hml, hown, hts, hr, hlocks, hA, hZ⟩ := id X
  have hl : lv_has ls 5 [(0, .ref ro), (1, .long p1)] := hl
  unfold fX4_greatestDistance at hf
  have hf := qob_top hf
  refine lv_iconst (v := 0) hx hb dX4_greatestDistance_0 (by decide) ?_
  refine lv_istore_n (lv' := [(3, .int 0), (0, .ref ro), (1, .long p1)]) hx hb dX4_greatestDistance_1 rfl hl (by decide) rfl (fun ls hl => ?_)
  refine lv_iconst (v := 0) hx hb dX4_greatestDistance_2 (by decide) ?_
  refine lv_istore (lv' := [(4, .int 0), (3, .int 0), (0, .ref ro), (1, .long p1)]) hx hb dX4_greatestDistance_3 hl (by decide) rfl (fun ls hl => ?_)
  refine qjoin1 hf (fun (x3_1 : Int32) => ∀ (H : Heap) (locs : List Loc) (ls : Array Slot), ctW D A s ([oX4 ro g q_ro_within q_ro_counts, aJ cy q_ro_within 36 ro_within, aJ cy q_ro_counts 48 ro_counts, oX1 g g_rows g_columns g_a g_b g_cells g_right g_down]) H locs → lv_has ls 5 [(3, .int x3_1)] → W p l e rmX4_greatestDistance s m args below meth c H locs 0 0 Q (F0 m 39 ls [])) ?_ ?_
  · intro x3_1 hf H locs ls ⟨hP, hD, hS⟩ hl
    refine lv_iload_n hx hb dX4_greatestDistance_39 rfl (lv_at hl 0 rfl) ?_
    cases qob_ret hf
    exact ct_iret X hQ hK hP hD hS rfl dX4_greatestDistance_40
  · intro J1 hJ1 hf
    refine qwalk2 (fun (x3_2 : Int32) (x4_1 : Int32) => ∀ (H : Heap) (locs : List Loc) (ls : Array Slot), ctW D A s ([oX4 ro g q_ro_within q_ro_counts, aJ cy q_ro_within 36 ro_within, aJ cy q_ro_counts 48 ro_counts, oX1 g g_rows g_columns g_a g_b g_cells g_right g_down]) H locs → lv_has ls 5 [(0, .ref ro), (1, .long p1), (3, .int x3_2), (4, .int x4_1)] → W p l e rmX4_greatestDistance s m args below meth c H locs 0 0 Q (F0 m 5 ls [])) ?_ _ (0 : Int32) (0 : Int32) hf _ _ _ ⟨hP, hD, hS⟩ (lv_sub hl [2, 3, 1, 0] rfl)
    intro J2 hL2 x3_2 x4_1 hf H locs ls ⟨hP, hD, hS⟩ hl
    refine lv_iload hx hb dX4_greatestDistance_5 (lv_at hl 3 rfl) ?_
    refine lv_bipush (v := 48) hx hb dX4_greatestDistance_7 (by decide) ?_
    refine lv_icmp_ge (tgt := 39) hx hb dX4_greatestDistance_9 (by decide) (fun c3 => ?_) (fun c3 => ?_)
    · have hf := qob_t hf c3
      have hf := qob_esc hf
      exact hJ1 x3_2 hf _ _ _ ⟨hP, hD, hS⟩ (lv_sub hl [2] rfl)
    · have hf := qob_f hf c3
      refine lv_lload_n hx hb dX4_greatestDistance_12 rfl (lv_at hl 1 rfl) ?_
      refine lv_iload hx hb dX4_greatestDistance_13 (lv_at hl 3 rfl) ?_
      refine ctS_i0 (r := (fX1_has p1 x4_1)) (wc := []) (As := [.long p1, .int x4_1]) (rest := []) X hK hP hD hS [] rfl rfl rfl (KX1_has rfl _) (va_cwS 2 hts gX4_greatestDistance_X1_has rfl rfl rfl hdX1_has ⟨Nat.le_of_ble_eq_true rfl, Nat.le_of_ble_eq_true rfl⟩) rfl hl rfl (Nat.le_of_ble_eq_true rfl) dX4_greatestDistance_15 (Nat.zero_le _) (Nat.zero_le _) (fun H locs hP hS => ?_)
      refine lv_if_eq (tgt := 33) hx hb dX4_greatestDistance_18 (by decide) (fun c4 => ?_) (fun c4 => ?_)
      · have hf := qob_t hf c4
        refine lv_iinc (v := (x4_1 + 1)) (lv' := [(4, .int (x4_1 + 1)), (0, .ref ro), (1, .long p1), (3, .int x3_2)]) hx hb dX4_greatestDistance_33 hl (k := 3) rfl rfl (by decide) rfl (fun ls hl => ?_)
        refine lv_goto (tgt := 5) hx hb dX4_greatestDistance_36 (by decide) ?_
        exact hL2 x3_2 (x4_1 + 1) hf _ _ _ ⟨hP, hD, hS⟩ (lv_sub hl [1, 2, 3, 0] rfl)
      · have hf := qob_f hf c4
        refine lv_iload_n hx hb dX4_greatestDistance_21 rfl (lv_at hl 2 rfl) ?_
        refine lv_aload_n hx hb dX4_greatestDistance_22 rfl (lv_at hl 0 rfl) ?_
        refine lv_iload hx hb dX4_greatestDistance_23 (lv_at hl 3 rfl) ?_
        refine lv_lload_n hx hb dX4_greatestDistance_25 rfl (lv_at hl 1 rfl) ?_
        obtain ⟨r_1, q5, hf⟩ := qcall1 hf
        refine ctV_i0 (r := r_1) (wc := [oX4 ro g q_ro_within q_ro_counts, aJ cy q_ro_within 36 ro_within, aJ cy q_ro_counts 48 ro_counts, oX1 g g_rows g_columns g_a g_b g_cells g_right g_down]) (As := [.int x4_1, .long p1]) (rest := [.int x3_2]) (q0 := 0) X hK hP hD hS [0, 1, 2, 3] rfl rfl rfl (KX4_stepsToAll q5 _) (cwV 2 hts gX4_greatestDistance_X4_stepsToAll rfl rfl rfl hdX4_stepsToAll ⟨Nat.le_of_ble_eq_true rfl, Nat.le_of_ble_eq_true rfl⟩) rfl rfl rfl hl rfl (Nat.le_of_ble_eq_true rfl) dX4_greatestDistance_26 (Nat.zero_le _) (Nat.zero_le _) (fun H locs hP hS => ?_)
        refine va_mmax hx hb (hml.trans hl.1.symm) hown (hts (.methodLink RX4 60 Lib.Math.max.name) (List.mem_of_getElem? (i := 1) rfl)) (hts (.static Lib.Math.max.name) (List.mem_of_getElem? (i := 2) rfl)) (hts (.initialized "java/lang/Math") (List.mem_of_getElem? (i := 3) rfl)) (hts (.code Lib.Math.max.name Lib.Math.max.code 2 (some .int)) (List.mem_of_getElem? (i := 4) rfl)) (Nat.le_of_ble_eq_true rfl) (Nat.le_of_ble_eq_true rfl) (Nat.zero_le _) (Nat.zero_le _) dX4_greatestDistance_29 ?_
        refine lv_istore_n (lv' := [(3, .int (qmax x3_2 r_1)), (0, .ref ro), (1, .long p1), (4, .int x4_1)]) hx hb dX4_greatestDistance_32 rfl hl (by decide) rfl (fun ls hl => ?_)
        refine lv_iinc (v := (x4_1 + 1)) (lv' := [(4, .int (x4_1 + 1)), (3, .int (qmax x3_2 r_1)), (0, .ref ro), (1, .long p1)]) hx hb dX4_greatestDistance_33 hl (k := 3) rfl rfl (by decide) rfl (fun ls hl => ?_)
        refine lv_goto (tgt := 5) hx hb dX4_greatestDistance_36 (by decide) ?_
        exact hL2 (qmax x3_2 r_1) (x4_1 + 1) hf _ _ _ ⟨hP, hD, hS⟩ (lv_sub hl [2, 3, 1, 0] rfl)

abbrev rmX1_bit : Room := { frames := 0, cells := 0, slots := 0, locals := 0 }
theorem hdX1_bit : yX1_bit.cls ≠ "java/lang/invoke/MethodHandle" ∧ yX1_bit.cls ≠ "java/lang/invoke/VarHandle" ∧ (parseMethodDescriptor yX1_bit.desc).map (fun d => d.parameters.length) = some 1 := by decide +kernel
set_option maxHeartbeats 4000000 in
set_option maxRecDepth 100000 in
theorem KX1_bit {l : Launch} {D : va_G} {cy : Nat → ClassId}  {p1 : Int32} {r : Int64} (hf : fX1_bit p1 = r) : CtL l yX1_bit wsX1_bit rmX1_bit D cy [.int p1] ([]) ([]) r := by
  refine CtL.of (cc := cX1_bit) (maxL := 1) (ret := some .long) (own := RX1) (by decide) rfl rfl (Nat.le_of_ble_eq_true rfl) ?_
  intro p e s m args below meth c A Q X hQ hK hP hD hS ls hl
  obtain ⟨hx, hb, hml, hown, hts, hr, hlocks, hA, hZ⟩ := id X
  have hl : lv_has ls 1 [(0, .int p1)] := hl
  unfold fX1_bit at hf
  have hf := qbb_top hf
  refine lv_iload_n hx hb dX1_bit_0 rfl (lv_at hl 0 rfl) ?_
  refine lv_if_lt (tgt := 10) hx hb dX1_bit_1 (by decide) (fun c1 => ?_) (fun c1 => ?_)
  · have hf := qbb_t hf c1
    refine lv_lconst (v := 0) hx hb dX1_bit_10 (by decide) ?_
    refine lv_goto (tgt := 17) hx hb dX1_bit_11 (by decide) ?_
    cases qbb_ret hf
    exact ct_lret X hQ hK hP hD hS rfl dX1_bit_17
  · have hf := qbb_f hf c1
    refine lv_iload_n hx hb dX1_bit_4 rfl (lv_at hl 0 rfl) ?_
    refine lv_bipush (v := 48) hx hb dX1_bit_5 (by decide) ?_
    refine lv_icmp_lt (tgt := 14) hx hb dX1_bit_7 (by decide) (fun c2 => ?_) (fun c2 => ?_)
    · have hf := qbb_t hf c2
      refine lv_lconst (v := 1) hx hb dX1_bit_14 (by decide) ?_
      refine lv_iload_n hx hb dX1_bit_15 rfl (lv_at hl 0 rfl) ?_
      refine lv_lshl (v := (qshl 1 p1)) hx hb dX1_bit_16 rfl ?_
      cases qbb_ret hf
      exact ct_lret X hQ hK hP hD hS rfl dX1_bit_17
    · have hf := qbb_f hf c2
      refine lv_lconst (v := 0) hx hb dX1_bit_10 (by decide) ?_
      refine lv_goto (tgt := 17) hx hb dX1_bit_11 (by decide) ?_
      cases qbb_ret hf
      exact ct_lret X hQ hK hP hD hS rfl dX1_bit_17
abbrev rmX1_has : Room := { frames := 0, cells := 0, slots := 0, locals := 0 }
theorem hdX1_has : yX1_has.cls ≠ "java/lang/invoke/MethodHandle" ∧ yX1_has.cls ≠ "java/lang/invoke/VarHandle" ∧ (parseMethodDescriptor yX1_has.desc).map (fun d => d.parameters.length) = some 2 := by decide +kernel
set_option maxHeartbeats 4000000 in
set_option maxRecDepth 100000 in
theorem KX1_has {l : Launch} {D : va_G} {cy : Nat → ClassId}  {p1 : Int64} {p2 : Int32} {r : Int32} (hf : fX1_has p1 p2 = r) : CtI l yX1_has wsX1_has rmX1_has D cy [.long p1, .int p2] ([]) ([]) r := by
  refine CtI.of (cc := cX1_has) (maxL := 3) (ret := some .boolean) (own := RX1) (by decide) rfl rfl (Nat.le_of_ble_eq_true rfl) ?_
  intro p e s m args below meth c A Q X hQ hK hP hD hS ls hl
  obtain ⟨hx, hb, hml, hown, hts, hr, hlocks, hA, hZ⟩ := id X
  have hl : lv_has ls 3 [(0, .long p1), (2, .int p2)] := hl
  unfold fX1_has at hf
  have hf := qbb_top hf
  refine lv_iload_n hx hb dX1_has_0 rfl (lv_at hl 1 rfl) ?_
  refine lv_if_lt (tgt := 24) hx hb dX1_has_1 (by decide) (fun c1 => ?_) (fun c1 => ?_)
  · have hf := qbb_t hf c1
    refine lv_iconst (v := 0) hx hb dX1_has_24 (by decide) ?_
    cases qbb_ret hf
    exact ct_zret X hQ hK hP hD hS qnb0 dX1_has_25
  · have hf := qbb_f hf c1
    refine lv_iload_n hx hb dX1_has_4 rfl (lv_at hl 1 rfl) ?_
    refine lv_bipush (v := 48) hx hb dX1_has_5 (by decide) ?_
    refine lv_icmp_ge (tgt := 24) hx hb dX1_has_7 (by decide) (fun c2 => ?_) (fun c2 => ?_)
    · have hf := qbb_t hf c2
      refine lv_iconst (v := 0) hx hb dX1_has_24 (by decide) ?_
      cases qbb_ret hf
      exact ct_zret X hQ hK hP hD hS qnb0 dX1_has_25
    · have hf := qbb_f hf c2
      refine lv_lload_n hx hb dX1_has_10 rfl (lv_at hl 0 rfl) ?_
      refine lv_iload_n hx hb dX1_has_11 rfl (lv_at hl 1 rfl) ?_
      refine lv_lushr (v := (qushr p1 p2)) hx hb dX1_has_12 rfl ?_
      refine lv_lconst (v := 1) hx hb dX1_has_13 (by decide) ?_
      refine lv_land hx hb dX1_has_14 ?_
      refine lv_lconst (v := 0) hx hb dX1_has_15 (by decide) ?_
      refine W.lcmp hx hb dX1_has_16 ?_
      refine lv_if_eq (tgt := 24) hx hb dX1_has_17 (by decide) (fun c3 => ?_) (fun c3 => ?_)
      · have hf := qbb_t hf c3
        refine lv_iconst (v := 0) hx hb dX1_has_24 (by decide) ?_
        cases qbb_ret hf
        exact ct_zret X hQ hK hP hD hS qnb0 dX1_has_25
      · have hf := qbb_f hf c3
        refine lv_iconst (v := 1) hx hb dX1_has_20 (by decide) ?_
        refine lv_goto (tgt := 25) hx hb dX1_has_21 (by decide) ?_
        cases qbb_ret hf
        exact ct_zret X hQ hK hP hD hS qnb1 dX1_has_25
abbrev rmX1_told : Room := { frames := 0, cells := 0, slots := 0, locals := 0 }
theorem hdX1_told : yX1_told.cls ≠ "java/lang/invoke/MethodHandle" ∧ yX1_told.cls ≠ "java/lang/invoke/VarHandle" ∧ (parseMethodDescriptor yX1_told.desc).map (fun d => d.parameters.length) = some 1 := by decide +kernel
set_option maxHeartbeats 4000000 in
set_option maxRecDepth 100000 in
theorem KX1_told {l : Launch} {D : va_G} {cy : Nat → ClassId}  {p1 : Int32} {r : Int32} (hf : fX1_told p1 = r) : CtI l yX1_told wsX1_told rmX1_told D cy [.int p1] ([]) ([]) r := by
  refine CtI.of (cc := cX1_told) (maxL := 1) (ret := some .int) (own := RX1) (by decide) rfl rfl (Nat.le_of_ble_eq_true rfl) ?_
  intro p e s m args below meth c A Q X hQ hK hP hD hS ls hl
  obtain ⟨hx, hb, hml, hown, hts, hr, hlocks, hA, hZ⟩ := id X
  have hl : lv_has ls 1 [(0, .int p1)] := hl
  unfold fX1_told at hf
  have hf := qbb_top hf
  refine lv_bipush (v := 10) hx hb dX1_told_0 (by decide) ?_
  refine lv_iload_n hx hb dX1_told_2 rfl (lv_at hl 0 rfl) ?_
  refine lv_bipush (v := 8) hx hb dX1_told_3 (by decide) ?_
  refine lv_idiv hx hb dX1_told_5 (by decide) ?_
  refine lv_imul hx hb dX1_told_6 ?_
  refine lv_iload_n hx hb dX1_told_7 rfl (lv_at hl 0 rfl) ?_
  refine lv_bipush (v := 8) hx hb dX1_told_8 (by decide) ?_
  refine lv_irem hx hb dX1_told_10 (by decide) ?_
  refine lv_iadd hx hb dX1_told_11 ?_
  cases qbb_ret hf
  exact ct_iret X hQ hK hP hD hS rfl dX1_told_12
abbrev rmJ13_bitCount_95d88 : Room := { frames := 0, cells := 0, slots := 0, locals := 0 }
theorem hdJ13_bitCount_95d88 : yJ13_bitCount_95d88.cls ≠ "java/lang/invoke/MethodHandle" ∧ yJ13_bitCount_95d88.cls ≠ "java/lang/invoke/VarHandle" ∧ (parseMethodDescriptor yJ13_bitCount_95d88.desc).map (fun d => d.parameters.length) = some 1 := by decide +kernel
set_option maxHeartbeats 4000000 in
set_option maxRecDepth 100000 in
theorem KJ13_bitCount_95d88 {l : Launch} {D : va_G} {cy : Nat → ClassId}  {p1 : Int64} {r : Int32} (hf : fJ13_bitCount_95d88 p1 = r) : CtI l yJ13_bitCount_95d88 wsJ13_bitCount_95d88 rmJ13_bitCount_95d88 D cy [.long p1] ([]) ([]) r := by
  refine CtI.of (cc := cJ13_bitCount_95d88) (maxL := 2) (ret := some .int) (own := RJ13) (by decide) rfl rfl (Nat.le_of_ble_eq_true rfl) ?_
  intro p e s m args below meth c A Q X hQ hK hP hD hS ls hl
  obtain ⟨hx, hb, hml, hown, hts, hr, hlocks, hA, hZ⟩ := id X
  have hl : lv_has ls 2 [(0, .long p1)] := hl
  unfold fJ13_bitCount_95d88 at hf
  have hf := qbb_top hf
  refine lv_lload_n hx hb dJ13_bitCount_95d88_0 rfl (lv_at hl 0 rfl) ?_
  refine lv_lload_n hx hb dJ13_bitCount_95d88_1 rfl (lv_at hl 0 rfl) ?_
  refine lv_iconst (v := 1) hx hb dJ13_bitCount_95d88_2 (by decide) ?_
  refine lv_lushr (v := (qushr p1 1)) hx hb dJ13_bitCount_95d88_3 rfl ?_
  refine lv_ldc2 hx hb hown (hts (.constantLong RJ13 314 (6148914691236517205)) (List.mem_of_getElem? (i := 1) rfl)) dJ13_bitCount_95d88_4 ?_
  refine lv_land hx hb dJ13_bitCount_95d88_7 ?_
  refine lv_lsub hx hb dJ13_bitCount_95d88_8 ?_
  refine lv_topl (fun x0_1 e1 => ?_)
  have hf := qbb_bd hf e1
  refine lv_lstore_n (lv' := [(0, .long x0_1)]) hx hb dJ13_bitCount_95d88_9 rfl hl (by decide) rfl (fun ls hl => ?_)
  refine lv_lload_n hx hb dJ13_bitCount_95d88_10 rfl (lv_at hl 0 rfl) ?_
  refine lv_ldc2 hx hb hown (hts (.constantLong RJ13 316 (3689348814741910323)) (List.mem_of_getElem? (i := 2) rfl)) dJ13_bitCount_95d88_11 ?_
  refine lv_land hx hb dJ13_bitCount_95d88_14 ?_
  refine lv_lload_n hx hb dJ13_bitCount_95d88_15 rfl (lv_at hl 0 rfl) ?_
  refine lv_iconst (v := 2) hx hb dJ13_bitCount_95d88_16 (by decide) ?_
  refine lv_lushr (v := (qushr x0_1 2)) hx hb dJ13_bitCount_95d88_17 rfl ?_
  refine lv_ldc2 hx hb hown (hts (.constantLong RJ13 316 (3689348814741910323)) (List.mem_of_getElem? (i := 2) rfl)) dJ13_bitCount_95d88_18 ?_
  refine lv_land hx hb dJ13_bitCount_95d88_21 ?_
  refine lv_ladd hx hb dJ13_bitCount_95d88_22 ?_
  refine lv_topl (fun x0_2 e2 => ?_)
  have hf := qbb_bd hf e2
  refine lv_lstore_n (lv' := [(0, .long x0_2)]) hx hb dJ13_bitCount_95d88_23 rfl hl (by decide) rfl (fun ls hl => ?_)
  refine lv_lload_n hx hb dJ13_bitCount_95d88_24 rfl (lv_at hl 0 rfl) ?_
  refine lv_lload_n hx hb dJ13_bitCount_95d88_25 rfl (lv_at hl 0 rfl) ?_
  refine lv_iconst (v := 4) hx hb dJ13_bitCount_95d88_26 (by decide) ?_
  refine lv_lushr (v := (qushr x0_2 4)) hx hb dJ13_bitCount_95d88_27 rfl ?_
  refine lv_ladd hx hb dJ13_bitCount_95d88_28 ?_
  refine lv_ldc2 hx hb hown (hts (.constantLong RJ13 318 (1085102592571150095)) (List.mem_of_getElem? (i := 3) rfl)) dJ13_bitCount_95d88_29 ?_
  refine lv_land hx hb dJ13_bitCount_95d88_32 ?_
  refine lv_topl (fun x0_3 e3 => ?_)
  have hf := qbb_bd hf e3
  refine lv_lstore_n (lv' := [(0, .long x0_3)]) hx hb dJ13_bitCount_95d88_33 rfl hl (by decide) rfl (fun ls hl => ?_)
  refine lv_lload_n hx hb dJ13_bitCount_95d88_34 rfl (lv_at hl 0 rfl) ?_
  refine lv_lload_n hx hb dJ13_bitCount_95d88_35 rfl (lv_at hl 0 rfl) ?_
  refine lv_bipush (v := 8) hx hb dJ13_bitCount_95d88_36 (by decide) ?_
  refine lv_lushr (v := (qushr x0_3 8)) hx hb dJ13_bitCount_95d88_38 rfl ?_
  refine lv_ladd hx hb dJ13_bitCount_95d88_39 ?_
  refine lv_lstore_n (lv' := [(0, .long (x0_3 + (qushr x0_3 8)))]) hx hb dJ13_bitCount_95d88_40 rfl hl (by decide) rfl (fun ls hl => ?_)
  refine lv_lload_n hx hb dJ13_bitCount_95d88_41 rfl (lv_at hl 0 rfl) ?_
  refine lv_lload_n hx hb dJ13_bitCount_95d88_42 rfl (lv_at hl 0 rfl) ?_
  refine lv_bipush (v := 16) hx hb dJ13_bitCount_95d88_43 (by decide) ?_
  refine lv_lushr (v := (qushr (x0_3 + (qushr x0_3 8)) 16)) hx hb dJ13_bitCount_95d88_45 rfl ?_
  refine lv_ladd hx hb dJ13_bitCount_95d88_46 ?_
  refine lv_topl (fun x0_4 e4 => ?_)
  have hf := qbb_bd hf e4
  refine lv_lstore_n (lv' := [(0, .long x0_4)]) hx hb dJ13_bitCount_95d88_47 rfl hl (by decide) rfl (fun ls hl => ?_)
  refine lv_lload_n hx hb dJ13_bitCount_95d88_48 rfl (lv_at hl 0 rfl) ?_
  refine lv_lload_n hx hb dJ13_bitCount_95d88_49 rfl (lv_at hl 0 rfl) ?_
  refine lv_bipush (v := 32) hx hb dJ13_bitCount_95d88_50 (by decide) ?_
  refine lv_lushr (v := (qushr x0_4 32)) hx hb dJ13_bitCount_95d88_52 rfl ?_
  refine lv_ladd hx hb dJ13_bitCount_95d88_53 ?_
  refine lv_lstore_n (lv' := [(0, .long (x0_4 + (qushr x0_4 32)))]) hx hb dJ13_bitCount_95d88_54 rfl hl (by decide) rfl (fun ls hl => ?_)
  refine lv_lload_n hx hb dJ13_bitCount_95d88_55 rfl (lv_at hl 0 rfl) ?_
  refine lv_l2i (v := (x0_4 + (qushr x0_4 32)).toInt32) hx hb dJ13_bitCount_95d88_56 rfl ?_
  refine lv_bipush (v := 127) hx hb dJ13_bitCount_95d88_57 (by decide) ?_
  refine lv_iand hx hb dJ13_bitCount_95d88_59 ?_
  cases qbb_ret hf
  exact ct_iret X hQ hK hP hD hS rfl dJ13_bitCount_95d88_60
abbrev rmX1_least : Room := { frames := 1, cells := 0, slots := 0, locals := 21 }
theorem hdX1_least : yX1_least.cls ≠ "java/lang/invoke/MethodHandle" ∧ yX1_least.cls ≠ "java/lang/invoke/VarHandle" ∧ (parseMethodDescriptor yX1_least.desc).map (fun d => d.parameters.length) = some 1 := by decide +kernel
set_option maxHeartbeats 4000000 in
set_option maxRecDepth 100000 in
theorem KX1_least {l : Launch} {D : va_G} {cy : Nat → ClassId}  {p1 : Int64} {r : Int32} (hf : fX1_least p1 = r) : CtI l yX1_least wsX1_least rmX1_least D cy [.long p1] ([]) ([]) r := by
  refine CtI.of (cc := cX1_least) (maxL := 2) (ret := some .int) (own := RX1) (by decide) rfl rfl (Nat.le_of_ble_eq_true rfl) ?_
  intro p e s m args below meth c A Q X hQ hK hP hD hS ls hl
  obtain ⟨hx, hb, hml, hown, hts, hr, hlocks, hA, hZ⟩ := id X
  have hl : lv_has ls 2 [(0, .long p1)] := hl
  unfold fX1_least at hf
  have hf := qbb_top hf
  refine lv_lload_n hx hb dX1_least_0 rfl (lv_at hl 0 rfl) ?_
  refine lv_lconst (v := 0) hx hb dX1_least_1 (by decide) ?_
  refine W.lcmp hx hb dX1_least_2 ?_
  refine lv_if_ne (tgt := 10) hx hb dX1_least_3 (by decide) (fun c1 => ?_) (fun c1 => ?_)
  · have hf := qbb_f hf c1
    refine lv_lload_n hx hb dX1_least_10 rfl (lv_at hl 0 rfl) ?_
    refine lv_lload_n hx hb dX1_least_11 rfl (lv_at hl 0 rfl) ?_
    refine lv_lneg hx hb dX1_least_12 ?_
    refine lv_land hx hb dX1_least_13 ?_
    refine lv_lconst (v := 1) hx hb dX1_least_14 (by decide) ?_
    refine lv_lsub hx hb dX1_least_15 ?_
    refine ctS_i0 (r := (fJ13_bitCount_95d88 ((p1 &&& (-p1)) - 1))) (wc := []) (As := [.long ((p1 &&& (-p1)) - 1)]) (rest := []) X hK hP hD hS [] rfl rfl rfl (KJ13_bitCount_95d88 rfl _) (va_cwS 1 hts gX1_least_J13_bitCount_95d88 rfl rfl rfl hdJ13_bitCount_95d88 ⟨Nat.le_of_ble_eq_true rfl, Nat.le_of_ble_eq_true rfl⟩) rfl hl rfl (Nat.le_of_ble_eq_true rfl) dX1_least_16 (Nat.zero_le _) (Nat.zero_le _) (fun H locs hP hS => ?_)
    cases qbb_ret hf
    exact ct_iret X hQ hK hP hD hS rfl dX1_least_19
  · have hf := qbb_t hf c1
    refine lv_iconst (v := (-1)) hx hb dX1_least_6 (by decide) ?_
    refine lv_goto (tgt := 19) hx hb dX1_least_7 (by decide) ?_
    cases qbb_ret hf
    exact ct_iret X hQ hK hP hD hS rfl dX1_least_19
theorem inwX1_placeOf_X1 : ∀ w ∈ wsX10, w ∈ wsX1_placeOf := fun _ h => List.mem_cons_of_mem _ (List.mem_append_right _ h)
abbrev rmX1_placeOf : Room := { frames := 0, cells := 0, slots := 0, locals := 0 }
theorem hdX1_placeOf : yX1_placeOf.cls = RX1 ∧ yX1_placeOf.cls ≠ "java/lang/invoke/MethodHandle" ∧ yX1_placeOf.cls ≠ "java/lang/invoke/VarHandle" ∧ (parseMethodDescriptor yX1_placeOf.desc).map (fun d => d.parameters.length) = some 1 := by decide +kernel
set_option maxHeartbeats 4000000 in
set_option maxRecDepth 100000 in
theorem KX1_placeOf {l : Launch} {D : va_G} {cy : Nat → ClassId} {g : Nat} {g_rows : Int32} {g_columns : Int32} {g_a : Int32} {g_b : Int32} {g_cells : Int64} {g_right : Int64} {g_down : Int64} {p1 : Int32} {r : Int32} (hf : fX1_placeOf g_rows g_columns p1 = r) : CtI l yX1_placeOf wsX1_placeOf rmX1_placeOf D cy [.ref g, .int p1] ([oX1 g g_rows g_columns g_a g_b g_cells g_right g_down]) ([oX1 g g_rows g_columns g_a g_b g_cells g_right g_down]) r := by
  refine CtI.of (cc := cX1_placeOf) (maxL := 4) (ret := some .int) (own := RX1) (by decide) rfl rfl (Nat.le_of_ble_eq_true rfl) ?_
  intro p e s m args below meth c A Q X hQ hK hP hD hS ls hl
  obtain ⟨hx, hb, hml, hown, hts, hr, hlocks, hA, hZ⟩ := id X
  have hl : lv_has ls 4 [(0, .ref g), (1, .int p1)] := hl
  unfold fX1_placeOf at hf
  have hf := qbb_top hf
  refine lv_iload_n hx hb dX1_placeOf_0 rfl (lv_at hl 1 rfl) ?_
  refine lv_bipush (v := 10) hx hb dX1_placeOf_1 (by decide) ?_
  refine lv_idiv hx hb dX1_placeOf_3 (by decide) ?_
  refine lv_istore_n (lv' := [(2, .int (p1 / 10)), (0, .ref g), (1, .int p1)]) hx hb dX1_placeOf_4 rfl hl (by decide) rfl (fun ls hl => ?_)
  refine lv_iload_n hx hb dX1_placeOf_5 rfl (lv_at hl 2 rfl) ?_
  refine lv_bipush (v := 10) hx hb dX1_placeOf_6 (by decide) ?_
  refine lv_irem hx hb dX1_placeOf_8 (by decide) ?_
  refine lv_istore_n (lv' := [(3, .int (qrem p1 10)), (2, .int (p1 / 10)), (0, .ref g), (1, .int p1)]) hx hb dX1_placeOf_9 rfl hl (by decide) rfl (fun ls hl => ?_)
  refine lv_iload_n hx hb dX1_placeOf_10 rfl (lv_at hl 3 rfl) ?_
  refine lv_if_lt (tgt := 30) hx hb dX1_placeOf_11 (by decide) (fun c1 => ?_) (fun c1 => ?_)
  · have hf := qbb_t hf c1
    refine lv_iconst (v := (-1)) hx hb dX1_placeOf_30 (by decide) ?_
    refine lv_goto (tgt := 40) hx hb dX1_placeOf_31 (by decide) ?_
    cases qbb_ret hf
    exact ct_iret X hQ hK hP hD hS rfl dX1_placeOf_40
  · have hf := qbb_f hf c1
    refine lv_iload_n hx hb dX1_placeOf_14 rfl (lv_at hl 1 rfl) ?_
    refine lv_aload_n hx hb dX1_placeOf_15 rfl (lv_at hl 2 rfl) ?_
    refine va_get (D := D) (ci := 1) (v := .int g_rows) (C := RX1) (T := TX1) (N := 7) hx hb hts inwX1_placeOf_X1 hown hK hP 0 rfl rfl 0 (by decide) (hts (.fieldLink RX1 21 "HedgeWays$Grid" "rows" "I") (List.mem_of_getElem? (i := 1) rfl)) (fun _ h9 => h9) rfl dX1_placeOf_16 ?_
    refine lv_icmp_ge (tgt := 30) hx hb dX1_placeOf_19 (by decide) (fun c2 => ?_) (fun c2 => ?_)
    · have hf := qbb_t hf c2
      refine lv_iconst (v := (-1)) hx hb dX1_placeOf_30 (by decide) ?_
      refine lv_goto (tgt := 40) hx hb dX1_placeOf_31 (by decide) ?_
      cases qbb_ret hf
      exact ct_iret X hQ hK hP hD hS rfl dX1_placeOf_40
    · have hf := qbb_f hf c2
      refine lv_iload_n hx hb dX1_placeOf_22 rfl (lv_at hl 0 rfl) ?_
      refine lv_aload_n hx hb dX1_placeOf_23 rfl (lv_at hl 2 rfl) ?_
      refine va_get (D := D) (ci := 1) (v := .int g_columns) (C := RX1) (T := TX1) (N := 7) hx hb hts inwX1_placeOf_X1 hown hK hP 0 rfl rfl 1 (by decide) (hts (.fieldLink RX1 25 "HedgeWays$Grid" "columns" "I") (List.mem_of_getElem? (i := 2) rfl)) (fun _ h9 => h9) rfl dX1_placeOf_24 ?_
      refine lv_icmp_lt (tgt := 34) hx hb dX1_placeOf_27 (by decide) (fun c3 => ?_) (fun c3 => ?_)
      · have hf := qbb_t hf c3
        refine lv_iload_n hx hb dX1_placeOf_34 rfl (lv_at hl 1 rfl) ?_
        refine lv_bipush (v := 8) hx hb dX1_placeOf_35 (by decide) ?_
        refine lv_imul hx hb dX1_placeOf_37 ?_
        refine lv_iload_n hx hb dX1_placeOf_38 rfl (lv_at hl 0 rfl) ?_
        refine lv_iadd hx hb dX1_placeOf_39 ?_
        cases qbb_ret hf
        exact ct_iret X hQ hK hP hD hS rfl dX1_placeOf_40
      · have hf := qbb_f hf c3
        refine lv_iconst (v := (-1)) hx hb dX1_placeOf_30 (by decide) ?_
        refine lv_goto (tgt := 40) hx hb dX1_placeOf_31 (by decide) ?_
        cases qbb_ret hf
        exact ct_iret X hQ hK hP hD hS rfl dX1_placeOf_40
theorem inwX1_size_X1 : ∀ w ∈ wsX10, w ∈ wsX1_size := fun _ h => List.mem_cons_of_mem _ (List.mem_append_right _ h)
abbrev rmX1_size : Room := { frames := 0, cells := 0, slots := 0, locals := 0 }
theorem hdX1_size : yX1_size.cls = RX1 ∧ yX1_size.cls ≠ "java/lang/invoke/MethodHandle" ∧ yX1_size.cls ≠ "java/lang/invoke/VarHandle" ∧ (parseMethodDescriptor yX1_size.desc).map (fun d => d.parameters.length) = some 0 := by decide +kernel
set_option maxHeartbeats 4000000 in
set_option maxRecDepth 100000 in
theorem KX1_size {l : Launch} {D : va_G} {cy : Nat → ClassId} {g : Nat} {g_rows : Int32} {g_columns : Int32} {g_a : Int32} {g_b : Int32} {g_cells : Int64} {g_right : Int64} {g_down : Int64}  {r : Int32} (hf : fX1_size g_rows g_columns = r) : CtI l yX1_size wsX1_size rmX1_size D cy [.ref g] ([oX1 g g_rows g_columns g_a g_b g_cells g_right g_down]) ([oX1 g g_rows g_columns g_a g_b g_cells g_right g_down]) r := by
  refine CtI.of (cc := cX1_size) (maxL := 1) (ret := some .int) (own := RX1) (by decide) rfl rfl (Nat.le_of_ble_eq_true rfl) ?_
  intro p e s m args below meth c A Q X hQ hK hP hD hS ls hl
  obtain ⟨hx, hb, hml, hown, hts, hr, hlocks, hA, hZ⟩ := id X
  have hl : lv_has ls 1 [(0, .ref g)] := hl
  unfold fX1_size at hf
  have hf := qbb_top hf
  refine lv_aload_n hx hb dX1_size_0 rfl (lv_at hl 0 rfl) ?_
  refine va_get (D := D) (ci := 1) (v := .int g_rows) (C := RX1) (T := TX1) (N := 7) hx hb hts inwX1_size_X1 hown hK hP 0 rfl rfl 0 (by decide) (hts (.fieldLink RX1 21 "HedgeWays$Grid" "rows" "I") (List.mem_of_getElem? (i := 1) rfl)) (fun _ h9 => h9) rfl dX1_size_1 ?_
  refine lv_aload_n hx hb dX1_size_4 rfl (lv_at hl 0 rfl) ?_
  refine va_get (D := D) (ci := 1) (v := .int g_columns) (C := RX1) (T := TX1) (N := 7) hx hb hts inwX1_size_X1 hown hK hP 0 rfl rfl 1 (by decide) (hts (.fieldLink RX1 25 "HedgeWays$Grid" "columns" "I") (List.mem_of_getElem? (i := 2) rfl)) (fun _ h9 => h9) rfl dX1_size_5 ?_
  refine lv_imul hx hb dX1_size_8 ?_
  cases qbb_ret hf
  exact ct_iret X hQ hK hP hD hS rfl dX1_size_9
theorem inwX1_openings_X1 : ∀ w ∈ wsX10, w ∈ wsX1_openings := fun _ h => List.mem_cons_of_mem _ (List.mem_append_right _ h)
abbrev rmX1_openings : Room := { frames := 1, cells := 0, slots := 0, locals := 21 }
theorem hdX1_openings : yX1_openings.cls = RX1 ∧ yX1_openings.cls ≠ "java/lang/invoke/MethodHandle" ∧ yX1_openings.cls ≠ "java/lang/invoke/VarHandle" ∧ (parseMethodDescriptor yX1_openings.desc).map (fun d => d.parameters.length) = some 0 := by decide +kernel
set_option maxHeartbeats 4000000 in
set_option maxRecDepth 100000 in
theorem KX1_openings {l : Launch} {D : va_G} {cy : Nat → ClassId} {g : Nat} {g_rows : Int32} {g_columns : Int32} {g_a : Int32} {g_b : Int32} {g_cells : Int64} {g_right : Int64} {g_down : Int64}  {r : Int32} (hf : fX1_openings g_right g_down = r) : CtI l yX1_openings wsX1_openings rmX1_openings D cy [.ref g] ([oX1 g g_rows g_columns g_a g_b g_cells g_right g_down]) ([oX1 g g_rows g_columns g_a g_b g_cells g_right g_down]) r := by
  refine CtI.of (cc := cX1_openings) (maxL := 1) (ret := some .int) (own := RX1) (by decide) rfl rfl (Nat.le_of_ble_eq_true rfl) ?_
  intro p e s m args below meth c A Q X hQ hK hP hD hS ls hl
  obtain ⟨hx, hb, hml, hown, hts, hr, hlocks, hA, hZ⟩ := id X
  have hl : lv_has ls 1 [(0, .ref g)] := hl
  unfold fX1_openings at hf
  have hf := qbb_top hf
  refine lv_aload_n hx hb dX1_openings_0 rfl (lv_at hl 0 rfl) ?_
  refine va_get (D := D) (ci := 1) (v := .long g_right) (C := RX1) (T := TX1) (N := 7) hx hb hts inwX1_openings_X1 hown hK hP 0 rfl rfl 5 (by decide) (hts (.fieldLink RX1 28 "HedgeWays$Grid" "right" "J") (List.mem_of_getElem? (i := 1) rfl)) (fun _ h9 => h9) rfl dX1_openings_1 ?_
  refine ctS_i0 (r := (fJ13_bitCount_95d88 g_right)) (wc := []) (As := [.long g_right]) (rest := []) X hK hP hD hS [] rfl rfl rfl (KJ13_bitCount_95d88 rfl _) (va_cwS 1 hts gX1_openings_J13_bitCount_95d88 rfl rfl rfl hdJ13_bitCount_95d88 ⟨Nat.le_of_ble_eq_true rfl, Nat.le_of_ble_eq_true rfl⟩) rfl hl rfl (Nat.le_of_ble_eq_true rfl) dX1_openings_4 (Nat.zero_le _) (Nat.zero_le _) (fun H locs hP hS => ?_)
  refine lv_aload_n hx hb dX1_openings_7 rfl (lv_at hl 0 rfl) ?_
  refine va_get (D := D) (ci := 1) (v := .long g_down) (C := RX1) (T := TX1) (N := 7) hx hb hts inwX1_openings_X1 hown hK hP 0 rfl rfl 6 (by decide) (hts (.fieldLink RX1 32 "HedgeWays$Grid" "down" "J") (List.mem_of_getElem? (i := 2) rfl)) (fun _ h9 => h9) rfl dX1_openings_8 ?_
  refine ctS_i0 (r := (fJ13_bitCount_95d88 g_down)) (wc := []) (As := [.long g_down]) (rest := [.int (fJ13_bitCount_95d88 g_right)]) X hK hP hD hS [] rfl rfl rfl (KJ13_bitCount_95d88 rfl _) (va_cwS 1 hts gX1_openings_J13_bitCount_95d88 rfl rfl rfl hdJ13_bitCount_95d88 ⟨Nat.le_of_ble_eq_true rfl, Nat.le_of_ble_eq_true rfl⟩) rfl hl rfl (Nat.le_of_ble_eq_true rfl) dX1_openings_11 (Nat.zero_le _) (Nat.zero_le _) (fun H locs hP hS => ?_)
  refine lv_iadd hx hb dX1_openings_14 ?_
  cases qbb_ret hf
  exact ct_iret X hQ hK hP hD hS rfl dX1_openings_15
theorem inwX1_shutAll_X1 : ∀ w ∈ wsX10, w ∈ wsX1_shutAll := fun _ h => List.mem_cons_of_mem _ (List.mem_append_right _ h)
abbrev rmX1_shutAll : Room := { frames := 0, cells := 0, slots := 0, locals := 0 }
theorem hdX1_shutAll : yX1_shutAll.cls = RX1 ∧ yX1_shutAll.cls ≠ "java/lang/invoke/MethodHandle" ∧ yX1_shutAll.cls ≠ "java/lang/invoke/VarHandle" ∧ (parseMethodDescriptor yX1_shutAll.desc).map (fun d => d.parameters.length) = some 2 := by decide +kernel
set_option maxHeartbeats 4000000 in
set_option maxRecDepth 100000 in
theorem KX1_shutAll {l : Launch} {D : va_G} {cy : Nat → ClassId} {g : Nat} {g_rows : Int32} {g_columns : Int32} {g_a : Int32} {g_b : Int32} {g_cells : Int64} {g_right : Int64} {g_down : Int64} {p1 : Int32} {p2 : Int32} {g_rows' : Int32} {g_columns' : Int32} {g_a' : Int32} {g_b' : Int32} {g_cells' : Int64} {g_right' : Int64} {g_down' : Int64} (hf : fX1_shutAll g_rows g_columns g_a g_b g_cells g_right g_down p1 p2 = some (g_rows', g_columns', g_a', g_b', g_cells', g_right', g_down')) : CtV l yX1_shutAll wsX1_shutAll rmX1_shutAll D cy [.ref g, .int p1, .int p2] ([oX1 g g_rows g_columns g_a g_b g_cells g_right g_down]) ([oX1 g g_rows' g_columns' g_a' g_b' g_cells' g_right' g_down']) := by
  refine CtV.of (cc := cX1_shutAll) (maxL := 4) (ret := none) (own := RX1) (by decide) rfl rfl (Nat.le_of_ble_eq_true rfl) ?_
  intro p e s m args below meth c A Q X hQ hK hP hD hS ls hl
  obtain ⟨hx, hb, hml, hown, hts, hr, hlocks, hA, hZ⟩ := id X
  have hl : lv_has ls 4 [(0, .ref g), (1, .int p1), (2, .int p2)] := hl
  unfold fX1_shutAll at hf
  have hf := qob_top hf
  refine lv_aload_n hx hb dX1_shutAll_0 rfl (lv_at hl 0 rfl) ?_
  refine lv_iload_n hx hb dX1_shutAll_1 rfl (lv_at hl 1 rfl) ?_
  refine va_put (D := D) (ci := 1) (v := .int p1) (ty := .int) (C := RX1) (T := TX1) (N := 7) hx hb hts inwX1_shutAll_X1 tyX1 tyX1_ok nmX1 hown hK hP hD hS 0 rfl rfl 0 (by decide) (hts (.fieldLink RX1 21 "HedgeWays$Grid" "rows" "I") (List.mem_of_getElem? (i := 1) rfl)) (fun _ h9 => h9) rfl (tyX1_ok 0 (by decide)) rfl rfl (Nat.le_of_ble_eq_true rfl) dX1_shutAll_2 (fun H locs hP hD hS => ?_)
  have hP : va_P D vwCl ([oX1 g p1 g_columns g_a g_b g_cells g_right g_down]) H := hP
  have hD : va_D A ([oX1 g p1 g_columns g_a g_b g_cells g_right g_down]) := hD
  refine lv_aload_n hx hb dX1_shutAll_5 rfl (lv_at hl 0 rfl) ?_
  refine lv_iload_n hx hb dX1_shutAll_6 rfl (lv_at hl 2 rfl) ?_
  refine va_put (D := D) (ci := 1) (v := .int p2) (ty := .int) (C := RX1) (T := TX1) (N := 7) hx hb hts inwX1_shutAll_X1 tyX1 tyX1_ok nmX1 hown hK hP hD hS 0 rfl rfl 1 (by decide) (hts (.fieldLink RX1 25 "HedgeWays$Grid" "columns" "I") (List.mem_of_getElem? (i := 2) rfl)) (fun _ h9 => h9) rfl (tyX1_ok 1 (by decide)) rfl rfl (Nat.le_of_ble_eq_true rfl) dX1_shutAll_7 (fun H locs hP hD hS => ?_)
  have hP : va_P D vwCl ([oX1 g p1 p2 g_a g_b g_cells g_right g_down]) H := hP
  have hD : va_D A ([oX1 g p1 p2 g_a g_b g_cells g_right g_down]) := hD
  refine lv_aload_n hx hb dX1_shutAll_10 rfl (lv_at hl 0 rfl) ?_
  refine lv_lconst (v := 0) hx hb dX1_shutAll_11 (by decide) ?_
  refine va_put (D := D) (ci := 1) (v := .long 0) (ty := .long) (C := RX1) (T := TX1) (N := 7) hx hb hts inwX1_shutAll_X1 tyX1 tyX1_ok nmX1 hown hK hP hD hS 0 rfl rfl 4 (by decide) (hts (.fieldLink RX1 35 "HedgeWays$Grid" "cells" "J") (List.mem_of_getElem? (i := 3) rfl)) (fun _ h9 => h9) rfl (tyX1_ok 4 (by decide)) rfl rfl (Nat.le_of_ble_eq_true rfl) dX1_shutAll_12 (fun H locs hP hD hS => ?_)
  have hP : va_P D vwCl ([oX1 g p1 p2 g_a g_b 0 g_right g_down]) H := hP
  have hD : va_D A ([oX1 g p1 p2 g_a g_b 0 g_right g_down]) := hD
  refine lv_iconst (v := 0) hx hb dX1_shutAll_15 (by decide) ?_
  refine lv_istore_n (lv' := [(3, .int 0), (0, .ref g), (1, .int p1), (2, .int p2)]) hx hb dX1_shutAll_16 rfl hl (by decide) rfl (fun ls hl => ?_)
  refine qjoin1 hf (fun (g_cells_1 : Int64) => ∀ (H : Heap) (locs : List Loc) (ls : Array Slot), ctW D A s ([oX1 g p1 p2 g_a g_b g_cells_1 g_right g_down]) H locs → lv_has ls 4 [(0, .ref g), (1, .int p1), (2, .int p2)] → W p l e rmX1_shutAll s m args below meth c H locs 0 0 Q (F0 m 53 ls [])) ?_ ?_
  · intro g_cells_1 hf H locs ls ⟨hP, hD, hS⟩ hl
    refine lv_aload_n hx hb dX1_shutAll_53 rfl (lv_at hl 0 rfl) ?_
    refine lv_lconst (v := 0) hx hb dX1_shutAll_54 (by decide) ?_
    refine va_put (D := D) (ci := 1) (v := .long 0) (ty := .long) (C := RX1) (T := TX1) (N := 7) hx hb hts inwX1_shutAll_X1 tyX1 tyX1_ok nmX1 hown hK hP hD hS 0 rfl rfl 5 (by decide) (hts (.fieldLink RX1 28 "HedgeWays$Grid" "right" "J") (List.mem_of_getElem? (i := 4) rfl)) (fun _ h9 => h9) rfl (tyX1_ok 5 (by decide)) rfl rfl (Nat.le_of_ble_eq_true rfl) dX1_shutAll_55 (fun H locs hP hD hS => ?_)
    have hP : va_P D vwCl ([oX1 g p1 p2 g_a g_b g_cells_1 0 g_down]) H := hP
    have hD : va_D A ([oX1 g p1 p2 g_a g_b g_cells_1 0 g_down]) := hD
    refine lv_aload_n hx hb dX1_shutAll_58 rfl (lv_at hl 0 rfl) ?_
    refine lv_lconst (v := 0) hx hb dX1_shutAll_59 (by decide) ?_
    refine va_put (D := D) (ci := 1) (v := .long 0) (ty := .long) (C := RX1) (T := TX1) (N := 7) hx hb hts inwX1_shutAll_X1 tyX1 tyX1_ok nmX1 hown hK hP hD hS 0 rfl rfl 6 (by decide) (hts (.fieldLink RX1 32 "HedgeWays$Grid" "down" "J") (List.mem_of_getElem? (i := 5) rfl)) (fun _ h9 => h9) rfl (tyX1_ok 6 (by decide)) rfl rfl (Nat.le_of_ble_eq_true rfl) dX1_shutAll_60 (fun H locs hP hD hS => ?_)
    have hP : va_P D vwCl ([oX1 g p1 p2 g_a g_b g_cells_1 0 0]) H := hP
    have hD : va_D A ([oX1 g p1 p2 g_a g_b g_cells_1 0 0]) := hD
    refine lv_aload_n hx hb dX1_shutAll_63 rfl (lv_at hl 0 rfl) ?_
    refine lv_iconst (v := 0) hx hb dX1_shutAll_64 (by decide) ?_
    refine va_put (D := D) (ci := 1) (v := .int 0) (ty := .int) (C := RX1) (T := TX1) (N := 7) hx hb hts inwX1_shutAll_X1 tyX1 tyX1_ok nmX1 hown hK hP hD hS 0 rfl rfl 2 (by decide) (hts (.fieldLink RX1 38 "HedgeWays$Grid" "a" "I") (List.mem_of_getElem? (i := 6) rfl)) (fun _ h9 => h9) rfl (tyX1_ok 2 (by decide)) rfl rfl (Nat.le_of_ble_eq_true rfl) dX1_shutAll_65 (fun H locs hP hD hS => ?_)
    have hP : va_P D vwCl ([oX1 g p1 p2 0 g_b g_cells_1 0 0]) H := hP
    have hD : va_D A ([oX1 g p1 p2 0 g_b g_cells_1 0 0]) := hD
    refine lv_aload_n hx hb dX1_shutAll_68 rfl (lv_at hl 0 rfl) ?_
    refine lv_iload_n hx hb dX1_shutAll_69 rfl (lv_at hl 1 rfl) ?_
    refine lv_iconst (v := 1) hx hb dX1_shutAll_70 (by decide) ?_
    refine lv_isub hx hb dX1_shutAll_71 ?_
    refine lv_bipush (v := 8) hx hb dX1_shutAll_72 (by decide) ?_
    refine lv_imul hx hb dX1_shutAll_74 ?_
    refine lv_iload_n hx hb dX1_shutAll_75 rfl (lv_at hl 2 rfl) ?_
    refine lv_iadd hx hb dX1_shutAll_76 ?_
    refine lv_iconst (v := 1) hx hb dX1_shutAll_77 (by decide) ?_
    refine lv_isub hx hb dX1_shutAll_78 ?_
    refine va_put (D := D) (ci := 1) (v := .int ((((p1 - 1) * 8) + p2) - 1)) (ty := .int) (C := RX1) (T := TX1) (N := 7) hx hb hts inwX1_shutAll_X1 tyX1 tyX1_ok nmX1 hown hK hP hD hS 0 rfl rfl 3 (by decide) (hts (.fieldLink RX1 41 "HedgeWays$Grid" "b" "I") (List.mem_of_getElem? (i := 7) rfl)) (fun _ h9 => h9) rfl (tyX1_ok 3 (by decide)) rfl rfl (Nat.le_of_ble_eq_true rfl) dX1_shutAll_79 (fun H locs hP hD hS => ?_)
    have hP : va_P D vwCl ([oX1 g p1 p2 0 ((((p1 - 1) * 8) + p2) - 1) g_cells_1 0 0]) H := hP
    have hD : va_D A ([oX1 g p1 p2 0 ((((p1 - 1) * 8) + p2) - 1) g_cells_1 0 0]) := hD
    cases qob_ret hf
    exact ct_vret X hQ hK hP hD hS dX1_shutAll_82
  · intro J1 hJ1 hf
    refine qwalk2 (fun (x3_1 : Int32) (g_cells_2 : Int64) => ∀ (H : Heap) (locs : List Loc) (ls : Array Slot), ctW D A s ([oX1 g p1 p2 g_a g_b g_cells_2 g_right g_down]) H locs → lv_has ls 4 [(0, .ref g), (1, .int p1), (2, .int p2), (3, .int x3_1)] → W p l e rmX1_shutAll s m args below meth c H locs 0 0 Q (F0 m 17 ls [])) ?_ _ (0 : Int32) (0 : Int64) hf _ _ _ ⟨hP, hD, hS⟩ (lv_sub hl [1, 2, 3, 0] rfl)
    intro J2 hL2 x3_1 g_cells_2 hf H locs ls ⟨hP, hD, hS⟩ hl
    refine lv_iload_n hx hb dX1_shutAll_17 rfl (lv_at hl 3 rfl) ?_
    refine lv_iload_n hx hb dX1_shutAll_18 rfl (lv_at hl 1 rfl) ?_
    refine lv_icmp_ge (tgt := 53) hx hb dX1_shutAll_19 (by decide) (fun c3 => ?_) (fun c3 => ?_)
    · have hf := qob_t hf c3
      have hf := qob_esc hf
      exact hJ1 g_cells_2 hf _ _ _ ⟨hP, hD, hS⟩ (lv_sub hl [0, 1, 2] rfl)
    · have hf := qob_f hf c3
      refine lv_iload_n hx hb dX1_shutAll_22 rfl (lv_at hl 3 rfl) ?_
      refine lv_bipush (v := 6) hx hb dX1_shutAll_23 (by decide) ?_
      refine lv_icmp_ge (tgt := 53) hx hb dX1_shutAll_25 (by decide) (fun c4 => ?_) (fun c4 => ?_)
      · have hf := qob_t hf c4
        have hf := qob_esc hf
        exact hJ1 g_cells_2 hf _ _ _ ⟨hP, hD, hS⟩ (lv_sub hl [0, 1, 2] rfl)
      · have hf := qob_f hf c4
        refine lv_aload_n hx hb dX1_shutAll_28 rfl (lv_at hl 0 rfl) ?_
        refine lv_dup hx hb dX1_shutAll_29 rfl ?_
        refine va_get (D := D) (ci := 1) (v := .long g_cells_2) (C := RX1) (T := TX1) (N := 7) hx hb hts inwX1_shutAll_X1 hown hK hP 0 rfl rfl 4 (by decide) (hts (.fieldLink RX1 35 "HedgeWays$Grid" "cells" "J") (List.mem_of_getElem? (i := 3) rfl)) (fun _ h9 => h9) rfl dX1_shutAll_30 ?_
        refine lv_lconst (v := 1) hx hb dX1_shutAll_33 (by decide) ?_
        refine lv_iload_n hx hb dX1_shutAll_34 rfl (lv_at hl 2 rfl) ?_
        refine lv_lshl (v := (qshl 1 p2)) hx hb dX1_shutAll_35 rfl ?_
        refine lv_lconst (v := 1) hx hb dX1_shutAll_36 (by decide) ?_
        refine lv_lsub hx hb dX1_shutAll_37 ?_
        refine lv_bipush (v := 8) hx hb dX1_shutAll_38 (by decide) ?_
        refine lv_iload_n hx hb dX1_shutAll_40 rfl (lv_at hl 3 rfl) ?_
        refine lv_imul hx hb dX1_shutAll_41 ?_
        refine lv_lshl (v := (qshl ((qshl 1 p2) - 1) (8 * x3_1))) hx hb dX1_shutAll_42 rfl ?_
        refine lv_lor hx hb dX1_shutAll_43 ?_
        refine lv_topl (fun g_cells_3 e5 => ?_)
        have hf := qob_bd hf e5
        refine va_put (D := D) (ci := 1) (v := .long g_cells_3) (ty := .long) (C := RX1) (T := TX1) (N := 7) hx hb hts inwX1_shutAll_X1 tyX1 tyX1_ok nmX1 hown hK hP hD hS 0 rfl rfl 4 (by decide) (hts (.fieldLink RX1 35 "HedgeWays$Grid" "cells" "J") (List.mem_of_getElem? (i := 3) rfl)) (fun _ h9 => h9) rfl (tyX1_ok 4 (by decide)) rfl rfl (Nat.le_of_ble_eq_true rfl) dX1_shutAll_44 (fun H locs hP hD hS => ?_)
        have hP : va_P D vwCl ([oX1 g p1 p2 g_a g_b g_cells_3 g_right g_down]) H := hP
        have hD : va_D A ([oX1 g p1 p2 g_a g_b g_cells_3 g_right g_down]) := hD
        refine lv_iinc (v := (x3_1 + 1)) (lv' := [(3, .int (x3_1 + 1)), (0, .ref g), (1, .int p1), (2, .int p2)]) hx hb dX1_shutAll_47 hl (k := 3) rfl rfl (by decide) rfl (fun ls hl => ?_)
        refine lv_goto (tgt := 17) hx hb dX1_shutAll_50 (by decide) ?_
        exact hL2 (x3_1 + 1) g_cells_3 hf _ _ _ ⟨hP, hD, hS⟩ (lv_sub hl [1, 2, 3, 0] rfl)
theorem inwX1_copyFrom_X1 : ∀ w ∈ wsX10, w ∈ wsX1_copyFrom := fun _ h => List.mem_cons_of_mem _ (List.mem_append_right _ h)
abbrev rmX1_copyFrom : Room := { frames := 0, cells := 0, slots := 0, locals := 0 }
theorem hdX1_copyFrom : yX1_copyFrom.cls = RX1 ∧ yX1_copyFrom.cls ≠ "java/lang/invoke/MethodHandle" ∧ yX1_copyFrom.cls ≠ "java/lang/invoke/VarHandle" ∧ (parseMethodDescriptor yX1_copyFrom.desc).map (fun d => d.parameters.length) = some 1 := by decide +kernel
set_option maxHeartbeats 4000000 in
set_option maxRecDepth 100000 in
theorem KX1_copyFrom {l : Launch} {D : va_G} {cy : Nat → ClassId} {g o : Nat} {g_rows : Int32} {g_columns : Int32} {g_a : Int32} {g_b : Int32} {g_cells : Int64} {g_right : Int64} {g_down : Int64} {o_rows : Int32} {o_columns : Int32} {o_a : Int32} {o_b : Int32} {o_cells : Int64} {o_right : Int64} {o_down : Int64}  {g_rows' : Int32} {g_columns' : Int32} {g_a' : Int32} {g_b' : Int32} {g_cells' : Int64} {g_right' : Int64} {g_down' : Int64} (hf : fX1_copyFrom g_rows g_columns g_a g_b g_cells g_right g_down o_rows o_columns o_a o_b o_cells o_right o_down = (g_rows', g_columns', g_a', g_b', g_cells', g_right', g_down')) : CtV l yX1_copyFrom wsX1_copyFrom rmX1_copyFrom D cy [.ref g, .ref o] ([oX1 g g_rows g_columns g_a g_b g_cells g_right g_down, oX1 o o_rows o_columns o_a o_b o_cells o_right o_down]) ([oX1 g g_rows' g_columns' g_a' g_b' g_cells' g_right' g_down', oX1 o o_rows o_columns o_a o_b o_cells o_right o_down]) := by
  refine CtV.of (cc := cX1_copyFrom) (maxL := 2) (ret := none) (own := RX1) (by decide) rfl rfl (Nat.le_of_ble_eq_true rfl) ?_
  intro p e s m args below meth c A Q X hQ hK hP hD hS ls hl
  obtain ⟨hx, hb, hml, hown, hts, hr, hlocks, hA, hZ⟩ := id X
  have hl : lv_has ls 2 [(0, .ref g), (1, .ref o)] := hl
  unfold fX1_copyFrom at hf
  have hf := qbb_top hf
  refine lv_aload_n hx hb dX1_copyFrom_0 rfl (lv_at hl 0 rfl) ?_
  refine lv_aload_n hx hb dX1_copyFrom_1 rfl (lv_at hl 1 rfl) ?_
  refine va_get (D := D) (ci := 1) (v := .int o_rows) (C := RX1) (T := TX1) (N := 7) hx hb hts inwX1_copyFrom_X1 hown hK hP 1 rfl rfl 0 (by decide) (hts (.fieldLink RX1 21 "HedgeWays$Grid" "rows" "I") (List.mem_of_getElem? (i := 1) rfl)) (fun _ h9 => h9) rfl dX1_copyFrom_2 ?_
  refine va_put (D := D) (ci := 1) (v := .int o_rows) (ty := .int) (C := RX1) (T := TX1) (N := 7) hx hb hts inwX1_copyFrom_X1 tyX1 tyX1_ok nmX1 hown hK hP hD hS 0 rfl rfl 0 (by decide) (hts (.fieldLink RX1 21 "HedgeWays$Grid" "rows" "I") (List.mem_of_getElem? (i := 1) rfl)) (fun _ h9 => h9) rfl (tyX1_ok 0 (by decide)) rfl rfl (Nat.le_of_ble_eq_true rfl) dX1_copyFrom_5 (fun H locs hP hD hS => ?_)
  have hP : va_P D vwCl ([oX1 g o_rows g_columns g_a g_b g_cells g_right g_down, oX1 o o_rows o_columns o_a o_b o_cells o_right o_down]) H := hP
  have hD : va_D A ([oX1 g o_rows g_columns g_a g_b g_cells g_right g_down, oX1 o o_rows o_columns o_a o_b o_cells o_right o_down]) := hD
  refine lv_aload_n hx hb dX1_copyFrom_8 rfl (lv_at hl 0 rfl) ?_
  refine lv_aload_n hx hb dX1_copyFrom_9 rfl (lv_at hl 1 rfl) ?_
  refine va_get (D := D) (ci := 1) (v := .int o_columns) (C := RX1) (T := TX1) (N := 7) hx hb hts inwX1_copyFrom_X1 hown hK hP 1 rfl rfl 1 (by decide) (hts (.fieldLink RX1 25 "HedgeWays$Grid" "columns" "I") (List.mem_of_getElem? (i := 2) rfl)) (fun _ h9 => h9) rfl dX1_copyFrom_10 ?_
  refine va_put (D := D) (ci := 1) (v := .int o_columns) (ty := .int) (C := RX1) (T := TX1) (N := 7) hx hb hts inwX1_copyFrom_X1 tyX1 tyX1_ok nmX1 hown hK hP hD hS 0 rfl rfl 1 (by decide) (hts (.fieldLink RX1 25 "HedgeWays$Grid" "columns" "I") (List.mem_of_getElem? (i := 2) rfl)) (fun _ h9 => h9) rfl (tyX1_ok 1 (by decide)) rfl rfl (Nat.le_of_ble_eq_true rfl) dX1_copyFrom_13 (fun H locs hP hD hS => ?_)
  have hP : va_P D vwCl ([oX1 g o_rows o_columns g_a g_b g_cells g_right g_down, oX1 o o_rows o_columns o_a o_b o_cells o_right o_down]) H := hP
  have hD : va_D A ([oX1 g o_rows o_columns g_a g_b g_cells g_right g_down, oX1 o o_rows o_columns o_a o_b o_cells o_right o_down]) := hD
  refine lv_aload_n hx hb dX1_copyFrom_16 rfl (lv_at hl 0 rfl) ?_
  refine lv_aload_n hx hb dX1_copyFrom_17 rfl (lv_at hl 1 rfl) ?_
  refine va_get (D := D) (ci := 1) (v := .int o_a) (C := RX1) (T := TX1) (N := 7) hx hb hts inwX1_copyFrom_X1 hown hK hP 1 rfl rfl 2 (by decide) (hts (.fieldLink RX1 38 "HedgeWays$Grid" "a" "I") (List.mem_of_getElem? (i := 3) rfl)) (fun _ h9 => h9) rfl dX1_copyFrom_18 ?_
  refine va_put (D := D) (ci := 1) (v := .int o_a) (ty := .int) (C := RX1) (T := TX1) (N := 7) hx hb hts inwX1_copyFrom_X1 tyX1 tyX1_ok nmX1 hown hK hP hD hS 0 rfl rfl 2 (by decide) (hts (.fieldLink RX1 38 "HedgeWays$Grid" "a" "I") (List.mem_of_getElem? (i := 3) rfl)) (fun _ h9 => h9) rfl (tyX1_ok 2 (by decide)) rfl rfl (Nat.le_of_ble_eq_true rfl) dX1_copyFrom_21 (fun H locs hP hD hS => ?_)
  have hP : va_P D vwCl ([oX1 g o_rows o_columns o_a g_b g_cells g_right g_down, oX1 o o_rows o_columns o_a o_b o_cells o_right o_down]) H := hP
  have hD : va_D A ([oX1 g o_rows o_columns o_a g_b g_cells g_right g_down, oX1 o o_rows o_columns o_a o_b o_cells o_right o_down]) := hD
  refine lv_aload_n hx hb dX1_copyFrom_24 rfl (lv_at hl 0 rfl) ?_
  refine lv_aload_n hx hb dX1_copyFrom_25 rfl (lv_at hl 1 rfl) ?_
  refine va_get (D := D) (ci := 1) (v := .int o_b) (C := RX1) (T := TX1) (N := 7) hx hb hts inwX1_copyFrom_X1 hown hK hP 1 rfl rfl 3 (by decide) (hts (.fieldLink RX1 41 "HedgeWays$Grid" "b" "I") (List.mem_of_getElem? (i := 4) rfl)) (fun _ h9 => h9) rfl dX1_copyFrom_26 ?_
  refine va_put (D := D) (ci := 1) (v := .int o_b) (ty := .int) (C := RX1) (T := TX1) (N := 7) hx hb hts inwX1_copyFrom_X1 tyX1 tyX1_ok nmX1 hown hK hP hD hS 0 rfl rfl 3 (by decide) (hts (.fieldLink RX1 41 "HedgeWays$Grid" "b" "I") (List.mem_of_getElem? (i := 4) rfl)) (fun _ h9 => h9) rfl (tyX1_ok 3 (by decide)) rfl rfl (Nat.le_of_ble_eq_true rfl) dX1_copyFrom_29 (fun H locs hP hD hS => ?_)
  have hP : va_P D vwCl ([oX1 g o_rows o_columns o_a o_b g_cells g_right g_down, oX1 o o_rows o_columns o_a o_b o_cells o_right o_down]) H := hP
  have hD : va_D A ([oX1 g o_rows o_columns o_a o_b g_cells g_right g_down, oX1 o o_rows o_columns o_a o_b o_cells o_right o_down]) := hD
  refine lv_aload_n hx hb dX1_copyFrom_32 rfl (lv_at hl 0 rfl) ?_
  refine lv_aload_n hx hb dX1_copyFrom_33 rfl (lv_at hl 1 rfl) ?_
  refine va_get (D := D) (ci := 1) (v := .long o_cells) (C := RX1) (T := TX1) (N := 7) hx hb hts inwX1_copyFrom_X1 hown hK hP 1 rfl rfl 4 (by decide) (hts (.fieldLink RX1 35 "HedgeWays$Grid" "cells" "J") (List.mem_of_getElem? (i := 5) rfl)) (fun _ h9 => h9) rfl dX1_copyFrom_34 ?_
  refine va_put (D := D) (ci := 1) (v := .long o_cells) (ty := .long) (C := RX1) (T := TX1) (N := 7) hx hb hts inwX1_copyFrom_X1 tyX1 tyX1_ok nmX1 hown hK hP hD hS 0 rfl rfl 4 (by decide) (hts (.fieldLink RX1 35 "HedgeWays$Grid" "cells" "J") (List.mem_of_getElem? (i := 5) rfl)) (fun _ h9 => h9) rfl (tyX1_ok 4 (by decide)) rfl rfl (Nat.le_of_ble_eq_true rfl) dX1_copyFrom_37 (fun H locs hP hD hS => ?_)
  have hP : va_P D vwCl ([oX1 g o_rows o_columns o_a o_b o_cells g_right g_down, oX1 o o_rows o_columns o_a o_b o_cells o_right o_down]) H := hP
  have hD : va_D A ([oX1 g o_rows o_columns o_a o_b o_cells g_right g_down, oX1 o o_rows o_columns o_a o_b o_cells o_right o_down]) := hD
  refine lv_aload_n hx hb dX1_copyFrom_40 rfl (lv_at hl 0 rfl) ?_
  refine lv_aload_n hx hb dX1_copyFrom_41 rfl (lv_at hl 1 rfl) ?_
  refine va_get (D := D) (ci := 1) (v := .long o_right) (C := RX1) (T := TX1) (N := 7) hx hb hts inwX1_copyFrom_X1 hown hK hP 1 rfl rfl 5 (by decide) (hts (.fieldLink RX1 28 "HedgeWays$Grid" "right" "J") (List.mem_of_getElem? (i := 6) rfl)) (fun _ h9 => h9) rfl dX1_copyFrom_42 ?_
  refine va_put (D := D) (ci := 1) (v := .long o_right) (ty := .long) (C := RX1) (T := TX1) (N := 7) hx hb hts inwX1_copyFrom_X1 tyX1 tyX1_ok nmX1 hown hK hP hD hS 0 rfl rfl 5 (by decide) (hts (.fieldLink RX1 28 "HedgeWays$Grid" "right" "J") (List.mem_of_getElem? (i := 6) rfl)) (fun _ h9 => h9) rfl (tyX1_ok 5 (by decide)) rfl rfl (Nat.le_of_ble_eq_true rfl) dX1_copyFrom_45 (fun H locs hP hD hS => ?_)
  have hP : va_P D vwCl ([oX1 g o_rows o_columns o_a o_b o_cells o_right g_down, oX1 o o_rows o_columns o_a o_b o_cells o_right o_down]) H := hP
  have hD : va_D A ([oX1 g o_rows o_columns o_a o_b o_cells o_right g_down, oX1 o o_rows o_columns o_a o_b o_cells o_right o_down]) := hD
  refine lv_aload_n hx hb dX1_copyFrom_48 rfl (lv_at hl 0 rfl) ?_
  refine lv_aload_n hx hb dX1_copyFrom_49 rfl (lv_at hl 1 rfl) ?_
  refine va_get (D := D) (ci := 1) (v := .long o_down) (C := RX1) (T := TX1) (N := 7) hx hb hts inwX1_copyFrom_X1 hown hK hP 1 rfl rfl 6 (by decide) (hts (.fieldLink RX1 32 "HedgeWays$Grid" "down" "J") (List.mem_of_getElem? (i := 7) rfl)) (fun _ h9 => h9) rfl dX1_copyFrom_50 ?_
  refine va_put (D := D) (ci := 1) (v := .long o_down) (ty := .long) (C := RX1) (T := TX1) (N := 7) hx hb hts inwX1_copyFrom_X1 tyX1 tyX1_ok nmX1 hown hK hP hD hS 0 rfl rfl 6 (by decide) (hts (.fieldLink RX1 32 "HedgeWays$Grid" "down" "J") (List.mem_of_getElem? (i := 7) rfl)) (fun _ h9 => h9) rfl (tyX1_ok 6 (by decide)) rfl rfl (Nat.le_of_ble_eq_true rfl) dX1_copyFrom_53 (fun H locs hP hD hS => ?_)
  have hP : va_P D vwCl ([oX1 g o_rows o_columns o_a o_b o_cells o_right o_down, oX1 o o_rows o_columns o_a o_b o_cells o_right o_down]) H := hP
  have hD : va_D A ([oX1 g o_rows o_columns o_a o_b o_cells o_right o_down, oX1 o o_rows o_columns o_a o_b o_cells o_right o_down]) := hD
  cases qbb_ret hf
  exact ct_vret X hQ hK hP hD hS dX1_copyFrom_56
theorem inwX1_looksLike_X1 : ∀ w ∈ wsX10, w ∈ wsX1_looksLike := fun _ h => List.mem_cons_of_mem _ (List.mem_append_right _ h)
abbrev rmX1_looksLike : Room := { frames := 0, cells := 0, slots := 0, locals := 0 }
theorem hdX1_looksLike : yX1_looksLike.cls = RX1 ∧ yX1_looksLike.cls ≠ "java/lang/invoke/MethodHandle" ∧ yX1_looksLike.cls ≠ "java/lang/invoke/VarHandle" ∧ (parseMethodDescriptor yX1_looksLike.desc).map (fun d => d.parameters.length) = some 1 := by decide +kernel
set_option maxHeartbeats 4000000 in
set_option maxRecDepth 100000 in
theorem KX1_looksLike {l : Launch} {D : va_G} {cy : Nat → ClassId} {g o : Nat} {g_rows : Int32} {g_columns : Int32} {g_a : Int32} {g_b : Int32} {g_cells : Int64} {g_right : Int64} {g_down : Int64} {o_rows : Int32} {o_columns : Int32} {o_a : Int32} {o_b : Int32} {o_cells : Int64} {o_right : Int64} {o_down : Int64}  {r : Int32} (hf : fX1_looksLike g_rows g_columns g_right g_down o_rows o_columns o_right o_down = r) : CtI l yX1_looksLike wsX1_looksLike rmX1_looksLike D cy [.ref g, .ref o] ([oX1 g g_rows g_columns g_a g_b g_cells g_right g_down, oX1 o o_rows o_columns o_a o_b o_cells o_right o_down]) ([oX1 g g_rows g_columns g_a g_b g_cells g_right g_down, oX1 o o_rows o_columns o_a o_b o_cells o_right o_down]) r := by
  refine CtI.of (cc := cX1_looksLike) (maxL := 2) (ret := some .boolean) (own := RX1) (by decide) rfl rfl (Nat.le_of_ble_eq_true rfl) ?_
  intro p e s m args below meth c A Q X hQ hK hP hD hS ls hl
  obtain ⟨hx, hb, hml, hown, hts, hr, hlocks, hA, hZ⟩ := id X
  have hl : lv_has ls 2 [(0, .ref g), (1, .ref o)] := hl
  unfold fX1_looksLike at hf
  have hf := qbb_top hf
  refine lv_aload_n hx hb dX1_looksLike_0 rfl (lv_at hl 0 rfl) ?_
  refine va_get (D := D) (ci := 1) (v := .int g_rows) (C := RX1) (T := TX1) (N := 7) hx hb hts inwX1_looksLike_X1 hown hK hP 0 rfl rfl 0 (by decide) (hts (.fieldLink RX1 21 "HedgeWays$Grid" "rows" "I") (List.mem_of_getElem? (i := 1) rfl)) (fun _ h9 => h9) rfl dX1_looksLike_1 ?_
  refine lv_aload_n hx hb dX1_looksLike_4 rfl (lv_at hl 1 rfl) ?_
  refine va_get (D := D) (ci := 1) (v := .int o_rows) (C := RX1) (T := TX1) (N := 7) hx hb hts inwX1_looksLike_X1 hown hK hP 1 rfl rfl 0 (by decide) (hts (.fieldLink RX1 21 "HedgeWays$Grid" "rows" "I") (List.mem_of_getElem? (i := 1) rfl)) (fun _ h9 => h9) rfl dX1_looksLike_5 ?_
  refine lv_icmp_ne (tgt := 50) hx hb dX1_looksLike_8 (by decide) (fun c1 => ?_) (fun c1 => ?_)
  · have hf := qbb_f hf c1
    refine lv_iconst (v := 0) hx hb dX1_looksLike_50 (by decide) ?_
    cases qbb_ret hf
    exact ct_zret X hQ hK hP hD hS qnb0 dX1_looksLike_51
  · have hf := qbb_t hf c1
    refine lv_aload_n hx hb dX1_looksLike_11 rfl (lv_at hl 0 rfl) ?_
    refine va_get (D := D) (ci := 1) (v := .int g_columns) (C := RX1) (T := TX1) (N := 7) hx hb hts inwX1_looksLike_X1 hown hK hP 0 rfl rfl 1 (by decide) (hts (.fieldLink RX1 25 "HedgeWays$Grid" "columns" "I") (List.mem_of_getElem? (i := 2) rfl)) (fun _ h9 => h9) rfl dX1_looksLike_12 ?_
    refine lv_aload_n hx hb dX1_looksLike_15 rfl (lv_at hl 1 rfl) ?_
    refine va_get (D := D) (ci := 1) (v := .int o_columns) (C := RX1) (T := TX1) (N := 7) hx hb hts inwX1_looksLike_X1 hown hK hP 1 rfl rfl 1 (by decide) (hts (.fieldLink RX1 25 "HedgeWays$Grid" "columns" "I") (List.mem_of_getElem? (i := 2) rfl)) (fun _ h9 => h9) rfl dX1_looksLike_16 ?_
    refine lv_icmp_ne (tgt := 50) hx hb dX1_looksLike_19 (by decide) (fun c2 => ?_) (fun c2 => ?_)
    · have hf := qbb_f hf c2
      refine lv_iconst (v := 0) hx hb dX1_looksLike_50 (by decide) ?_
      cases qbb_ret hf
      exact ct_zret X hQ hK hP hD hS qnb0 dX1_looksLike_51
    · have hf := qbb_t hf c2
      refine lv_aload_n hx hb dX1_looksLike_22 rfl (lv_at hl 0 rfl) ?_
      refine va_get (D := D) (ci := 1) (v := .long g_right) (C := RX1) (T := TX1) (N := 7) hx hb hts inwX1_looksLike_X1 hown hK hP 0 rfl rfl 5 (by decide) (hts (.fieldLink RX1 28 "HedgeWays$Grid" "right" "J") (List.mem_of_getElem? (i := 3) rfl)) (fun _ h9 => h9) rfl dX1_looksLike_23 ?_
      refine lv_aload_n hx hb dX1_looksLike_26 rfl (lv_at hl 1 rfl) ?_
      refine va_get (D := D) (ci := 1) (v := .long o_right) (C := RX1) (T := TX1) (N := 7) hx hb hts inwX1_looksLike_X1 hown hK hP 1 rfl rfl 5 (by decide) (hts (.fieldLink RX1 28 "HedgeWays$Grid" "right" "J") (List.mem_of_getElem? (i := 3) rfl)) (fun _ h9 => h9) rfl dX1_looksLike_27 ?_
      refine W.lcmp hx hb dX1_looksLike_30 ?_
      refine lv_if_ne (tgt := 50) hx hb dX1_looksLike_31 (by decide) (fun c3 => ?_) (fun c3 => ?_)
      · have hf := qbb_f hf c3
        refine lv_iconst (v := 0) hx hb dX1_looksLike_50 (by decide) ?_
        cases qbb_ret hf
        exact ct_zret X hQ hK hP hD hS qnb0 dX1_looksLike_51
      · have hf := qbb_t hf c3
        refine lv_aload_n hx hb dX1_looksLike_34 rfl (lv_at hl 0 rfl) ?_
        refine va_get (D := D) (ci := 1) (v := .long g_down) (C := RX1) (T := TX1) (N := 7) hx hb hts inwX1_looksLike_X1 hown hK hP 0 rfl rfl 6 (by decide) (hts (.fieldLink RX1 32 "HedgeWays$Grid" "down" "J") (List.mem_of_getElem? (i := 4) rfl)) (fun _ h9 => h9) rfl dX1_looksLike_35 ?_
        refine lv_aload_n hx hb dX1_looksLike_38 rfl (lv_at hl 1 rfl) ?_
        refine va_get (D := D) (ci := 1) (v := .long o_down) (C := RX1) (T := TX1) (N := 7) hx hb hts inwX1_looksLike_X1 hown hK hP 1 rfl rfl 6 (by decide) (hts (.fieldLink RX1 32 "HedgeWays$Grid" "down" "J") (List.mem_of_getElem? (i := 4) rfl)) (fun _ h9 => h9) rfl dX1_looksLike_39 ?_
        refine W.lcmp hx hb dX1_looksLike_42 ?_
        refine lv_if_ne (tgt := 50) hx hb dX1_looksLike_43 (by decide) (fun c4 => ?_) (fun c4 => ?_)
        · have hf := qbb_f hf c4
          refine lv_iconst (v := 0) hx hb dX1_looksLike_50 (by decide) ?_
          cases qbb_ret hf
          exact ct_zret X hQ hK hP hD hS qnb0 dX1_looksLike_51
        · have hf := qbb_t hf c4
          refine lv_iconst (v := 1) hx hb dX1_looksLike_46 (by decide) ?_
          refine lv_goto (tgt := 51) hx hb dX1_looksLike_47 (by decide) ?_
          cases qbb_ret hf
          exact ct_zret X hQ hK hP hD hS qnb1 dX1_looksLike_51
theorem inwX1_beside_X1 : ∀ w ∈ wsX10, w ∈ wsX1_beside := fun _ h => List.mem_cons_of_mem _ (List.mem_append_right _ h)
abbrev rmX1_beside : Room := { frames := 1, cells := 0, slots := 0, locals := 22 }
theorem hdX1_beside : yX1_beside.cls = RX1 ∧ yX1_beside.cls ≠ "java/lang/invoke/MethodHandle" ∧ yX1_beside.cls ≠ "java/lang/invoke/VarHandle" ∧ (parseMethodDescriptor yX1_beside.desc).map (fun d => d.parameters.length) = some 2 := by decide +kernel
set_option maxHeartbeats 4000000 in
set_option maxRecDepth 100000 in
theorem KX1_beside {l : Launch} {D : va_G} {cy : Nat → ClassId} {g : Nat} {g_rows : Int32} {g_columns : Int32} {g_a : Int32} {g_b : Int32} {g_cells : Int64} {g_right : Int64} {g_down : Int64} {p1 : Int32} {p2 : Int32} {r : Int32} (hf : fX1_beside g_cells p1 p2 = r) : CtI l yX1_beside wsX1_beside rmX1_beside D cy [.ref g, .int p1, .int p2] ([oX1 g g_rows g_columns g_a g_b g_cells g_right g_down]) ([oX1 g g_rows g_columns g_a g_b g_cells g_right g_down]) r := by
  refine CtI.of (cc := cX1_beside) (maxL := 4) (ret := some .int) (own := RX1) (by decide) rfl rfl (Nat.le_of_ble_eq_true rfl) ?_
  intro p e s m args below meth c A Q X hQ hK hP hD hS ls hl
  obtain ⟨hx, hb, hml, hown, hts, hr, hlocks, hA, hZ⟩ := id X
  have hl : lv_has ls 4 [(0, .ref g), (1, .int p1), (2, .int p2)] := hl
  unfold fX1_beside at hf
  have hf := qbb_top hf
  refine lv_iload_n hx hb dX1_beside_0 rfl (lv_at hl 2 rfl) ?_
  refine lv_if_lt (tgt := 9) hx hb dX1_beside_1 (by decide) (fun c1 => ?_) (fun c1 => ?_)
  · have hf := qbb_t hf c1
    refine lv_iconst (v := (-1)) hx hb dX1_beside_9 (by decide) ?_
    cases qbb_ret hf
    exact ct_iret X hQ hK hP hD hS rfl dX1_beside_10
  · have hf := qbb_f hf c1
    refine lv_iload_n hx hb dX1_beside_4 rfl (lv_at hl 2 rfl) ?_
    refine lv_iconst (v := 4) hx hb dX1_beside_5 (by decide) ?_
    refine lv_icmp_lt (tgt := 11) hx hb dX1_beside_6 (by decide) (fun c2 => ?_) (fun c2 => ?_)
    · have hf := qbb_t hf c2
      refine lv_iload_n hx hb dX1_beside_11 rfl (lv_at hl 1 rfl) ?_
      obtain ⟨hZ0, -, -, mv, hZ1, hZ2⟩ := id hZ
      refine va_getsN hx hb hZ1 hS hown (va_Nw.use rfl hZ0) (fun _ h9 => h9) dX1_beside_12 ?_
      refine lv_iload_n hx hb dX1_beside_15 rfl (lv_at hl 2 rfl) ?_
      refine va_ti hx hb hZ2 hS (qin4 c1 c2) (v := .int (mvI p2.toNatClampNeg)) rfl dX1_beside_16 ?_
      refine lv_iadd hx hb dX1_beside_17 ?_
      refine lv_istore_n (lv' := [(3, .int (p1 + (mvI p2.toNatClampNeg))), (0, .ref g), (1, .int p1), (2, .int p2)]) hx hb dX1_beside_18 rfl hl (by decide) rfl (fun ls hl => ?_)
      refine lv_aload_n hx hb dX1_beside_19 rfl (lv_at hl 1 rfl) ?_
      refine va_get (D := D) (ci := 1) (v := .long g_cells) (C := RX1) (T := TX1) (N := 7) hx hb hts inwX1_beside_X1 hown hK hP 0 rfl rfl 4 (by decide) (hts (.fieldLink RX1 35 "HedgeWays$Grid" "cells" "J") (List.mem_of_getElem? (i := 1) rfl)) (fun _ h9 => h9) rfl dX1_beside_20 ?_
      refine lv_iload_n hx hb dX1_beside_23 rfl (lv_at hl 2 rfl) ?_
      refine ctS_i0 (r := (fX1_has g_cells p1)) (wc := []) (As := [.long g_cells, .int p1]) (rest := []) X hK hP hD hS [] rfl rfl rfl (KX1_has rfl _) (va_cwS 2 hts gX1_beside_X1_has rfl rfl rfl hdX1_has ⟨Nat.le_of_ble_eq_true rfl, Nat.le_of_ble_eq_true rfl⟩) rfl hl rfl (Nat.le_of_ble_eq_true rfl) dX1_beside_24 (Nat.zero_le _) (Nat.zero_le _) (fun H locs hP hS => ?_)
      refine lv_if_eq (tgt := 45) hx hb dX1_beside_27 (by decide) (fun c3 => ?_) (fun c3 => ?_)
      · have hf := qbb_t hf c3
        refine lv_iconst (v := (-1)) hx hb dX1_beside_45 (by decide) ?_
        cases qbb_ret hf
        exact ct_iret X hQ hK hP hD hS rfl dX1_beside_46
      · have hf := qbb_f hf c3
        refine lv_aload_n hx hb dX1_beside_30 rfl (lv_at hl 1 rfl) ?_
        refine va_get (D := D) (ci := 1) (v := .long g_cells) (C := RX1) (T := TX1) (N := 7) hx hb hts inwX1_beside_X1 hown hK hP 0 rfl rfl 4 (by decide) (hts (.fieldLink RX1 35 "HedgeWays$Grid" "cells" "J") (List.mem_of_getElem? (i := 1) rfl)) (fun _ h9 => h9) rfl dX1_beside_31 ?_
        refine lv_iload_n hx hb dX1_beside_34 rfl (lv_at hl 0 rfl) ?_
        refine ctS_i0 (r := (fX1_has g_cells (p1 + (mvI p2.toNatClampNeg)))) (wc := []) (As := [.long g_cells, .int (p1 + (mvI p2.toNatClampNeg))]) (rest := []) X hK hP hD hS [] rfl rfl rfl (KX1_has rfl _) (va_cwS 2 hts gX1_beside_X1_has rfl rfl rfl hdX1_has ⟨Nat.le_of_ble_eq_true rfl, Nat.le_of_ble_eq_true rfl⟩) rfl hl rfl (Nat.le_of_ble_eq_true rfl) dX1_beside_35 (Nat.zero_le _) (Nat.zero_le _) (fun H locs hP hS => ?_)
        refine lv_if_eq (tgt := 45) hx hb dX1_beside_38 (by decide) (fun c4 => ?_) (fun c4 => ?_)
        · have hf := qbb_t hf c4
          refine lv_iconst (v := (-1)) hx hb dX1_beside_45 (by decide) ?_
          cases qbb_ret hf
          exact ct_iret X hQ hK hP hD hS rfl dX1_beside_46
        · have hf := qbb_f hf c4
          refine lv_iload_n hx hb dX1_beside_41 rfl (lv_at hl 0 rfl) ?_
          refine lv_goto (tgt := 46) hx hb dX1_beside_42 (by decide) ?_
          cases qbb_ret hf
          exact ct_iret X hQ hK hP hD hS rfl dX1_beside_46
    · have hf := qbb_f hf c2
      refine lv_iconst (v := (-1)) hx hb dX1_beside_9 (by decide) ?_
      cases qbb_ret hf
      exact ct_iret X hQ hK hP hD hS rfl dX1_beside_10
theorem inwX1_isOpen_X1 : ∀ w ∈ wsX10, w ∈ wsX1_isOpen := fun _ h => List.mem_cons_of_mem _ (List.mem_append_right _ h)
abbrev rmX1_isOpen : Room := { frames := 1, cells := 0, slots := 0, locals := 22 }
theorem hdX1_isOpen : yX1_isOpen.cls = RX1 ∧ yX1_isOpen.cls ≠ "java/lang/invoke/MethodHandle" ∧ yX1_isOpen.cls ≠ "java/lang/invoke/VarHandle" ∧ (parseMethodDescriptor yX1_isOpen.desc).map (fun d => d.parameters.length) = some 2 := by decide +kernel
set_option maxHeartbeats 4000000 in
set_option maxRecDepth 100000 in
theorem KX1_isOpen {l : Launch} {D : va_G} {cy : Nat → ClassId} {g : Nat} {g_rows : Int32} {g_columns : Int32} {g_a : Int32} {g_b : Int32} {g_cells : Int64} {g_right : Int64} {g_down : Int64} {p1 : Int32} {p2 : Int32} {r : Int32} (hf : fX1_isOpen g_right g_down p1 p2 = r) : CtI l yX1_isOpen wsX1_isOpen rmX1_isOpen D cy [.ref g, .int p1, .int p2] ([oX1 g g_rows g_columns g_a g_b g_cells g_right g_down]) ([oX1 g g_rows g_columns g_a g_b g_cells g_right g_down]) r := by
  refine CtI.of (cc := cX1_isOpen) (maxL := 3) (ret := some .boolean) (own := RX1) (by decide) rfl rfl (Nat.le_of_ble_eq_true rfl) ?_
  intro p e s m args below meth c A Q X hQ hK hP hD hS ls hl
  obtain ⟨hx, hb, hml, hown, hts, hr, hlocks, hA, hZ⟩ := id X
  have hl : lv_has ls 3 [(0, .ref g), (1, .int p1), (2, .int p2)] := hl
  unfold fX1_isOpen at hf
  have hf := qbb_top hf
  refine lv_iload_n hx hb dX1_isOpen_0 rfl (lv_at hl 2 rfl) ?_
  by_cases c1_0 : p2 = 0
  · have hf := qbb_t hf c1_0
    refine lv_tableIn (off := 31) (tgt := 32) hx hb dX1_isOpen_1 (by rw [c1_0]; decide) (by rw [c1_0]; decide) (by rw [c1_0]; rfl) (by decide) ?_
    refine lv_aload_n hx hb dX1_isOpen_32 rfl (lv_at hl 0 rfl) ?_
    refine va_get (D := D) (ci := 1) (v := .long g_down) (C := RX1) (T := TX1) (N := 7) hx hb hts inwX1_isOpen_X1 hown hK hP 0 rfl rfl 6 (by decide) (hts (.fieldLink RX1 32 "HedgeWays$Grid" "down" "J") (List.mem_of_getElem? (i := 1) rfl)) (fun _ h9 => h9) rfl dX1_isOpen_33 ?_
    refine lv_bipush (v := 8) hx hb dX1_isOpen_36 (by decide) ?_
    refine lv_lshl (v := (qshl g_down 8)) hx hb dX1_isOpen_38 rfl ?_
    refine lv_iload_n hx hb dX1_isOpen_39 rfl (lv_at hl 1 rfl) ?_
    refine ctS_i0 (r := (fX1_has (qshl g_down 8) p1)) (wc := []) (As := [.long (qshl g_down 8), .int p1]) (rest := []) X hK hP hD hS [] rfl rfl rfl (KX1_has rfl _) (va_cwS 2 hts gX1_isOpen_X1_has rfl rfl rfl hdX1_has ⟨Nat.le_of_ble_eq_true rfl, Nat.le_of_ble_eq_true rfl⟩) rfl hl rfl (Nat.le_of_ble_eq_true rfl) dX1_isOpen_40 (Nat.zero_le _) (Nat.zero_le _) (fun H locs hP hS => ?_)
    cases qbb_ret hf
    exact ct_zret X hQ hK hP hD hS rfl dX1_isOpen_43
  · have hf := qbb_f hf c1_0
    by_cases c1_1 : p2 = 1
    · have hf := qbb_t hf c1_1
      refine lv_tableIn (off := 43) (tgt := 44) hx hb dX1_isOpen_1 (by rw [c1_1]; decide) (by rw [c1_1]; decide) (by rw [c1_1]; rfl) (by decide) ?_
      refine lv_aload_n hx hb dX1_isOpen_44 rfl (lv_at hl 0 rfl) ?_
      refine va_get (D := D) (ci := 1) (v := .long g_right) (C := RX1) (T := TX1) (N := 7) hx hb hts inwX1_isOpen_X1 hown hK hP 0 rfl rfl 5 (by decide) (hts (.fieldLink RX1 28 "HedgeWays$Grid" "right" "J") (List.mem_of_getElem? (i := 2) rfl)) (fun _ h9 => h9) rfl dX1_isOpen_45 ?_
      refine lv_iload_n hx hb dX1_isOpen_48 rfl (lv_at hl 1 rfl) ?_
      refine ctS_i0 (r := (fX1_has g_right p1)) (wc := []) (As := [.long g_right, .int p1]) (rest := []) X hK hP hD hS [] rfl rfl rfl (KX1_has rfl _) (va_cwS 2 hts gX1_isOpen_X1_has rfl rfl rfl hdX1_has ⟨Nat.le_of_ble_eq_true rfl, Nat.le_of_ble_eq_true rfl⟩) rfl hl rfl (Nat.le_of_ble_eq_true rfl) dX1_isOpen_49 (Nat.zero_le _) (Nat.zero_le _) (fun H locs hP hS => ?_)
      cases qbb_ret hf
      exact ct_zret X hQ hK hP hD hS rfl dX1_isOpen_52
    · have hf := qbb_f hf c1_1
      by_cases c1_2 : p2 = 2
      · have hf := qbb_t hf c1_2
        refine lv_tableIn (off := 52) (tgt := 53) hx hb dX1_isOpen_1 (by rw [c1_2]; decide) (by rw [c1_2]; decide) (by rw [c1_2]; rfl) (by decide) ?_
        refine lv_aload_n hx hb dX1_isOpen_53 rfl (lv_at hl 0 rfl) ?_
        refine va_get (D := D) (ci := 1) (v := .long g_down) (C := RX1) (T := TX1) (N := 7) hx hb hts inwX1_isOpen_X1 hown hK hP 0 rfl rfl 6 (by decide) (hts (.fieldLink RX1 32 "HedgeWays$Grid" "down" "J") (List.mem_of_getElem? (i := 1) rfl)) (fun _ h9 => h9) rfl dX1_isOpen_54 ?_
        refine lv_iload_n hx hb dX1_isOpen_57 rfl (lv_at hl 1 rfl) ?_
        refine ctS_i0 (r := (fX1_has g_down p1)) (wc := []) (As := [.long g_down, .int p1]) (rest := []) X hK hP hD hS [] rfl rfl rfl (KX1_has rfl _) (va_cwS 2 hts gX1_isOpen_X1_has rfl rfl rfl hdX1_has ⟨Nat.le_of_ble_eq_true rfl, Nat.le_of_ble_eq_true rfl⟩) rfl hl rfl (Nat.le_of_ble_eq_true rfl) dX1_isOpen_58 (Nat.zero_le _) (Nat.zero_le _) (fun H locs hP hS => ?_)
        cases qbb_ret hf
        exact ct_zret X hQ hK hP hD hS rfl dX1_isOpen_61
      · have hf := qbb_f hf c1_2
        by_cases c1_3 : p2 = 3
        · have hf := qbb_t hf c1_3
          refine lv_tableIn (off := 61) (tgt := 62) hx hb dX1_isOpen_1 (by rw [c1_3]; decide) (by rw [c1_3]; decide) (by rw [c1_3]; rfl) (by decide) ?_
          refine lv_aload_n hx hb dX1_isOpen_62 rfl (lv_at hl 0 rfl) ?_
          refine va_get (D := D) (ci := 1) (v := .long g_right) (C := RX1) (T := TX1) (N := 7) hx hb hts inwX1_isOpen_X1 hown hK hP 0 rfl rfl 5 (by decide) (hts (.fieldLink RX1 28 "HedgeWays$Grid" "right" "J") (List.mem_of_getElem? (i := 2) rfl)) (fun _ h9 => h9) rfl dX1_isOpen_63 ?_
          refine lv_iconst (v := 1) hx hb dX1_isOpen_66 (by decide) ?_
          refine lv_lshl (v := (qshl g_right 1)) hx hb dX1_isOpen_67 rfl ?_
          refine lv_iload_n hx hb dX1_isOpen_68 rfl (lv_at hl 1 rfl) ?_
          refine ctS_i0 (r := (fX1_has (qshl g_right 1) p1)) (wc := []) (As := [.long (qshl g_right 1), .int p1]) (rest := []) X hK hP hD hS [] rfl rfl rfl (KX1_has rfl _) (va_cwS 2 hts gX1_isOpen_X1_has rfl rfl rfl hdX1_has ⟨Nat.le_of_ble_eq_true rfl, Nat.le_of_ble_eq_true rfl⟩) rfl hl rfl (Nat.le_of_ble_eq_true rfl) dX1_isOpen_69 (Nat.zero_le _) (Nat.zero_le _) (fun H locs hP hS => ?_)
          cases qbb_ret hf
          exact ct_zret X hQ hK hP hD hS rfl dX1_isOpen_72
        · have hf := qbb_f hf c1_3
          refine lv_tableOut (tgt := 73) hx hb dX1_isOpen_1 (by have g0 := lv_neT c1_0 (a := 0) rfl; have g1 := lv_neT c1_1 (a := 1) rfl; have g2 := lv_neT c1_2 (a := 2) rfl; have g3 := lv_neT c1_3 (a := 3) rfl; omega) (by decide) ?_
          refine lv_iconst (v := 0) hx hb dX1_isOpen_73 (by decide) ?_
          cases qbb_ret hf
          exact ct_zret X hQ hK hP hD hS qnb0 dX1_isOpen_74
abbrev rmX1_neighbour : Room := { frames := 2, cells := 0, slots := 0, locals := 45 }
theorem hdX1_neighbour : yX1_neighbour.cls = RX1 ∧ yX1_neighbour.cls ≠ "java/lang/invoke/MethodHandle" ∧ yX1_neighbour.cls ≠ "java/lang/invoke/VarHandle" ∧ (parseMethodDescriptor yX1_neighbour.desc).map (fun d => d.parameters.length) = some 2 := by decide +kernel
set_option maxHeartbeats 4000000 in
set_option maxRecDepth 100000 in
theorem KX1_neighbour {l : Launch} {D : va_G} {cy : Nat → ClassId} {g : Nat} {g_rows : Int32} {g_columns : Int32} {g_a : Int32} {g_b : Int32} {g_cells : Int64} {g_right : Int64} {g_down : Int64} {p1 : Int32} {p2 : Int32} {r : Int32} (hf : fX1_neighbour g_cells g_right g_down p1 p2 = r) : CtI l yX1_neighbour wsX1_neighbour rmX1_neighbour D cy [.ref g, .int p1, .int p2] ([oX1 g g_rows g_columns g_a g_b g_cells g_right g_down]) ([oX1 g g_rows g_columns g_a g_b g_cells g_right g_down]) r := by
  refine CtI.of (cc := cX1_neighbour) (maxL := 3) (ret := some .int) (own := RX1) (by decide) rfl rfl (Nat.le_of_ble_eq_true rfl) ?_
  intro p e s m args below meth c A Q X hQ hK hP hD hS ls hl
  obtain ⟨hx, hb, hml, hown, hts, hr, hlocks, hA, hZ⟩ := id X
  have hl : lv_has ls 3 [(0, .ref g), (1, .int p1), (2, .int p2)] := hl
  unfold fX1_neighbour at hf
  have hf := qbb_top hf
  refine lv_aload_n hx hb dX1_neighbour_0 rfl (lv_at hl 0 rfl) ?_
  refine lv_iload_n hx hb dX1_neighbour_1 rfl (lv_at hl 1 rfl) ?_
  refine lv_iload_n hx hb dX1_neighbour_2 rfl (lv_at hl 2 rfl) ?_
  refine ctV_i0 (r := (fX1_isOpen g_right g_down p1 p2)) (wc := [oX1 g g_rows g_columns g_a g_b g_cells g_right g_down]) (As := [.int p1, .int p2]) (rest := []) (q0 := 0) X hK hP hD hS [0] rfl rfl rfl (KX1_isOpen rfl _) (cwV 2 hts gX1_neighbour_X1_isOpen rfl rfl rfl hdX1_isOpen ⟨Nat.le_of_ble_eq_true rfl, Nat.le_of_ble_eq_true rfl⟩) rfl rfl rfl hl rfl (Nat.le_of_ble_eq_true rfl) dX1_neighbour_3 (Nat.zero_le _) (Nat.zero_le _) (fun H locs hP hS => ?_)
  refine lv_if_eq (tgt := 18) hx hb dX1_neighbour_6 (by decide) (fun c1 => ?_) (fun c1 => ?_)
  · have hf := qbb_t hf c1
    refine lv_iconst (v := (-1)) hx hb dX1_neighbour_18 (by decide) ?_
    cases qbb_ret hf
    exact ct_iret X hQ hK hP hD hS rfl dX1_neighbour_19
  · have hf := qbb_f hf c1
    refine lv_aload_n hx hb dX1_neighbour_9 rfl (lv_at hl 0 rfl) ?_
    refine lv_iload_n hx hb dX1_neighbour_10 rfl (lv_at hl 1 rfl) ?_
    refine lv_iload_n hx hb dX1_neighbour_11 rfl (lv_at hl 2 rfl) ?_
    refine ctV_i0 (r := (fX1_beside g_cells p1 p2)) (wc := [oX1 g g_rows g_columns g_a g_b g_cells g_right g_down]) (As := [.int p1, .int p2]) (rest := []) (q0 := 0) X hK hP hD hS [0] rfl rfl rfl (KX1_beside rfl _) (cwV 2 hts gX1_neighbour_X1_beside rfl rfl rfl hdX1_beside ⟨Nat.le_of_ble_eq_true rfl, Nat.le_of_ble_eq_true rfl⟩) rfl rfl rfl hl rfl (Nat.le_of_ble_eq_true rfl) dX1_neighbour_12 (Nat.zero_le _) (Nat.zero_le _) (fun H locs hP hS => ?_)
    refine lv_goto (tgt := 19) hx hb dX1_neighbour_15 (by decide) ?_
    cases qbb_ret hf
    exact ct_iret X hQ hK hP hD hS rfl dX1_neighbour_19
theorem inwX1_setOpen_X1 : ∀ w ∈ wsX10, w ∈ wsX1_setOpen := fun _ h => List.mem_cons_of_mem _ (List.mem_append_right _ h)
abbrev rmX1_setOpen : Room := { frames := 2, cells := 0, slots := 0, locals := 45 }
theorem hdX1_setOpen : yX1_setOpen.cls = RX1 ∧ yX1_setOpen.cls ≠ "java/lang/invoke/MethodHandle" ∧ yX1_setOpen.cls ≠ "java/lang/invoke/VarHandle" ∧ (parseMethodDescriptor yX1_setOpen.desc).map (fun d => d.parameters.length) = some 3 := by decide +kernel
set_option maxHeartbeats 4000000 in
set_option maxRecDepth 100000 in
theorem KX1_setOpen {l : Launch} {D : va_G} {cy : Nat → ClassId} {g : Nat} {g_rows : Int32} {g_columns : Int32} {g_a : Int32} {g_b : Int32} {g_cells : Int64} {g_right : Int64} {g_down : Int64} {p1 : Int32} {p2 : Int32} {p3 : Int32} {g_right' : Int64} {g_down' : Int64} (hf : fX1_setOpen g_cells g_right g_down p1 p2 p3 = (g_right', g_down')) : CtV l yX1_setOpen wsX1_setOpen rmX1_setOpen D cy [.ref g, .int p1, .int p2, .int p3] ([oX1 g g_rows g_columns g_a g_b g_cells g_right g_down]) ([oX1 g g_rows g_columns g_a g_b g_cells g_right' g_down']) := by
  refine CtV.of (cc := cX1_setOpen) (maxL := 7) (ret := none) (own := RX1) (by decide) rfl rfl (Nat.le_of_ble_eq_true rfl) ?_
  intro p e s m args below meth c A Q X hQ hK hP hD hS ls hl
  obtain ⟨hx, hb, hml, hown, hts, hr, hlocks, hA, hZ⟩ := id X
  have hl : lv_has ls 7 [(0, .ref g), (1, .int p1), (2, .int p2), (3, .int p3)] := hl
  unfold fX1_setOpen at hf
  have hf := qbb_top hf
  refine lv_aload_n hx hb dX1_setOpen_0 rfl (lv_at hl 0 rfl) ?_
  refine lv_iload_n hx hb dX1_setOpen_1 rfl (lv_at hl 1 rfl) ?_
  refine lv_iload_n hx hb dX1_setOpen_2 rfl (lv_at hl 2 rfl) ?_
  refine ctV_i0 (r := (fX1_beside g_cells p1 p2)) (wc := [oX1 g g_rows g_columns g_a g_b g_cells g_right g_down]) (As := [.int p1, .int p2]) (rest := []) (q0 := 0) X hK hP hD hS [0] rfl rfl rfl (KX1_beside rfl _) (cwV 2 hts gX1_setOpen_X1_beside rfl rfl rfl hdX1_beside ⟨Nat.le_of_ble_eq_true rfl, Nat.le_of_ble_eq_true rfl⟩) rfl rfl rfl hl rfl (Nat.le_of_ble_eq_true rfl) dX1_setOpen_3 (Nat.zero_le _) (Nat.zero_le _) (fun H locs hP hS => ?_)
  refine lv_istore (lv' := [(4, .int (fX1_beside g_cells p1 p2)), (0, .ref g), (1, .int p1), (2, .int p2), (3, .int p3)]) hx hb dX1_setOpen_6 hl (by decide) rfl (fun ls hl => ?_)
  refine lv_iload hx hb dX1_setOpen_8 (lv_at hl 0 rfl) ?_
  refine lv_iconst (v := (-1)) hx hb dX1_setOpen_10 (by decide) ?_
  refine lv_icmp_ne (tgt := 15) hx hb dX1_setOpen_11 (by decide) (fun c1 => ?_) (fun c1 => ?_)
  · have hf := qbb_f hf c1
    refine lv_iload_n hx hb dX1_setOpen_15 rfl (lv_at hl 2 rfl) ?_
    refine lv_iload hx hb dX1_setOpen_16 (lv_at hl 0 rfl) ?_
    refine va_mmin hx hb (hml.trans hl.1.symm) hown (hts (.methodLink RX1 60 Lib.Math.min.name) (List.mem_of_getElem? (i := 1) rfl)) (hts (.static Lib.Math.min.name) (List.mem_of_getElem? (i := 2) rfl)) (hts (.initialized "java/lang/Math") (List.mem_of_getElem? (i := 3) rfl)) (hts (.code Lib.Math.min.name Lib.Math.min.code 2 (some .int)) (List.mem_of_getElem? (i := 4) rfl)) (Nat.le_of_ble_eq_true rfl) (Nat.le_of_ble_eq_true rfl) (Nat.zero_le _) (Nat.zero_le _) dX1_setOpen_18 ?_
    refine ctS_l0 (r := (fX1_bit (qmin p1 (fX1_beside g_cells p1 p2)))) (wc := []) (As := [.int (qmin p1 (fX1_beside g_cells p1 p2))]) (rest := []) X hK hP hD hS [] rfl rfl rfl (KX1_bit rfl _) (va_cwS 1 hts gX1_setOpen_X1_bit rfl rfl rfl hdX1_bit ⟨Nat.le_of_ble_eq_true rfl, Nat.le_of_ble_eq_true rfl⟩) rfl hl rfl (Nat.le_of_ble_eq_true rfl) dX1_setOpen_21 (Nat.zero_le _) (Nat.zero_le _) (fun H locs hP hS => ?_)
    refine lv_topl (fun x5_1 e2 => ?_)
    have hf := qbb_bd hf e2
    refine lv_lstore (lv' := [(5, .long x5_1), (4, .int (fX1_beside g_cells p1 p2)), (0, .ref g), (1, .int p1), (2, .int p2), (3, .int p3)]) hx hb dX1_setOpen_24 hl (by decide) rfl (fun ls hl => ?_)
    refine lv_iload_n hx hb dX1_setOpen_26 rfl (lv_at hl 4 rfl) ?_
    refine lv_iconst (v := 3) hx hb dX1_setOpen_27 (by decide) ?_
    refine lv_icmp_eq (tgt := 36) hx hb dX1_setOpen_28 (by decide) (fun c3 => ?_) (fun c3 => ?_)
    · have hf := qbb_t hf c3
      refine lv_aload_n hx hb dX1_setOpen_36 rfl (lv_at hl 2 rfl) ?_
      refine lv_iload_n hx hb dX1_setOpen_37 rfl (lv_at hl 5 rfl) ?_
      refine lv_if_eq (tgt := 51) hx hb dX1_setOpen_38 (by decide) (fun c4 => ?_) (fun c4 => ?_)
      · have hf := qbb_t hf c4
        refine lv_aload_n hx hb dX1_setOpen_51 rfl (lv_at hl 2 rfl) ?_
        refine va_get (D := D) (ci := 1) (v := .long g_right) (C := RX1) (T := TX1) (N := 7) hx hb hts inwX1_setOpen_X1 hown hK hP 0 rfl rfl 5 (by decide) (hts (.fieldLink RX1 28 "HedgeWays$Grid" "right" "J") (List.mem_of_getElem? (i := 5) rfl)) (fun _ h9 => h9) rfl dX1_setOpen_52 ?_
        refine lv_lload hx hb dX1_setOpen_55 (lv_at hl 0 rfl) ?_
        refine lv_ldc2 hx hb hown (hts (.constantLong RX1 69 (-1)) (List.mem_of_getElem? (i := 6) rfl)) dX1_setOpen_57 ?_
        refine lv_lxor hx hb dX1_setOpen_60 ?_
        refine lv_land hx hb dX1_setOpen_61 ?_
        refine va_put (D := D) (ci := 1) (v := .long (g_right &&& (x5_1 ^^^ (-1)))) (ty := .long) (C := RX1) (T := TX1) (N := 7) hx hb hts inwX1_setOpen_X1 tyX1 tyX1_ok nmX1 hown hK hP hD hS 0 rfl rfl 5 (by decide) (hts (.fieldLink RX1 28 "HedgeWays$Grid" "right" "J") (List.mem_of_getElem? (i := 5) rfl)) (fun _ h9 => h9) rfl (tyX1_ok 5 (by decide)) rfl rfl (Nat.le_of_ble_eq_true rfl) dX1_setOpen_62 (fun H locs hP hD hS => ?_)
        have hP : va_P D vwCl ([oX1 g g_rows g_columns g_a g_b g_cells (g_right &&& (x5_1 ^^^ (-1))) g_down]) H := hP
        have hD : va_D A ([oX1 g g_rows g_columns g_a g_b g_cells (g_right &&& (x5_1 ^^^ (-1))) g_down]) := hD
        refine lv_goto (tgt := 97) hx hb dX1_setOpen_65 (by decide) ?_
        cases qbb_ret hf
        exact ct_vret X hQ hK hP hD hS dX1_setOpen_97
      · have hf := qbb_f hf c4
        refine lv_aload_n hx hb dX1_setOpen_41 rfl (lv_at hl 2 rfl) ?_
        refine va_get (D := D) (ci := 1) (v := .long g_right) (C := RX1) (T := TX1) (N := 7) hx hb hts inwX1_setOpen_X1 hown hK hP 0 rfl rfl 5 (by decide) (hts (.fieldLink RX1 28 "HedgeWays$Grid" "right" "J") (List.mem_of_getElem? (i := 5) rfl)) (fun _ h9 => h9) rfl dX1_setOpen_42 ?_
        refine lv_lload hx hb dX1_setOpen_45 (lv_at hl 0 rfl) ?_
        refine lv_lor hx hb dX1_setOpen_47 ?_
        refine lv_goto (tgt := 62) hx hb dX1_setOpen_48 (by decide) ?_
        refine va_put (D := D) (ci := 1) (v := .long (g_right ||| x5_1)) (ty := .long) (C := RX1) (T := TX1) (N := 7) hx hb hts inwX1_setOpen_X1 tyX1 tyX1_ok nmX1 hown hK hP hD hS 0 rfl rfl 5 (by decide) (hts (.fieldLink RX1 28 "HedgeWays$Grid" "right" "J") (List.mem_of_getElem? (i := 5) rfl)) (fun _ h9 => h9) rfl (tyX1_ok 5 (by decide)) rfl rfl (Nat.le_of_ble_eq_true rfl) dX1_setOpen_62 (fun H locs hP hD hS => ?_)
        have hP : va_P D vwCl ([oX1 g g_rows g_columns g_a g_b g_cells (g_right ||| x5_1) g_down]) H := hP
        have hD : va_D A ([oX1 g g_rows g_columns g_a g_b g_cells (g_right ||| x5_1) g_down]) := hD
        refine lv_goto (tgt := 97) hx hb dX1_setOpen_65 (by decide) ?_
        cases qbb_ret hf
        exact ct_vret X hQ hK hP hD hS dX1_setOpen_97
    · have hf := qbb_f hf c3
      refine lv_iload_n hx hb dX1_setOpen_31 rfl (lv_at hl 4 rfl) ?_
      refine lv_iconst (v := 1) hx hb dX1_setOpen_32 (by decide) ?_
      refine lv_icmp_ne (tgt := 68) hx hb dX1_setOpen_33 (by decide) (fun c5 => ?_) (fun c5 => ?_)
      · have hf := qbb_f hf c5
        refine lv_aload_n hx hb dX1_setOpen_68 rfl (lv_at hl 2 rfl) ?_
        refine lv_iload_n hx hb dX1_setOpen_69 rfl (lv_at hl 5 rfl) ?_
        refine lv_if_eq (tgt := 83) hx hb dX1_setOpen_70 (by decide) (fun c6 => ?_) (fun c6 => ?_)
        · have hf := qbb_t hf c6
          refine lv_aload_n hx hb dX1_setOpen_83 rfl (lv_at hl 2 rfl) ?_
          refine va_get (D := D) (ci := 1) (v := .long g_down) (C := RX1) (T := TX1) (N := 7) hx hb hts inwX1_setOpen_X1 hown hK hP 0 rfl rfl 6 (by decide) (hts (.fieldLink RX1 32 "HedgeWays$Grid" "down" "J") (List.mem_of_getElem? (i := 7) rfl)) (fun _ h9 => h9) rfl dX1_setOpen_84 ?_
          refine lv_lload hx hb dX1_setOpen_87 (lv_at hl 0 rfl) ?_
          refine lv_ldc2 hx hb hown (hts (.constantLong RX1 69 (-1)) (List.mem_of_getElem? (i := 6) rfl)) dX1_setOpen_89 ?_
          refine lv_lxor hx hb dX1_setOpen_92 ?_
          refine lv_land hx hb dX1_setOpen_93 ?_
          refine va_put (D := D) (ci := 1) (v := .long (g_down &&& (x5_1 ^^^ (-1)))) (ty := .long) (C := RX1) (T := TX1) (N := 7) hx hb hts inwX1_setOpen_X1 tyX1 tyX1_ok nmX1 hown hK hP hD hS 0 rfl rfl 6 (by decide) (hts (.fieldLink RX1 32 "HedgeWays$Grid" "down" "J") (List.mem_of_getElem? (i := 7) rfl)) (fun _ h9 => h9) rfl (tyX1_ok 6 (by decide)) rfl rfl (Nat.le_of_ble_eq_true rfl) dX1_setOpen_94 (fun H locs hP hD hS => ?_)
          have hP : va_P D vwCl ([oX1 g g_rows g_columns g_a g_b g_cells g_right (g_down &&& (x5_1 ^^^ (-1)))]) H := hP
          have hD : va_D A ([oX1 g g_rows g_columns g_a g_b g_cells g_right (g_down &&& (x5_1 ^^^ (-1)))]) := hD
          cases qbb_ret hf
          exact ct_vret X hQ hK hP hD hS dX1_setOpen_97
        · have hf := qbb_f hf c6
          refine lv_aload_n hx hb dX1_setOpen_73 rfl (lv_at hl 2 rfl) ?_
          refine va_get (D := D) (ci := 1) (v := .long g_down) (C := RX1) (T := TX1) (N := 7) hx hb hts inwX1_setOpen_X1 hown hK hP 0 rfl rfl 6 (by decide) (hts (.fieldLink RX1 32 "HedgeWays$Grid" "down" "J") (List.mem_of_getElem? (i := 7) rfl)) (fun _ h9 => h9) rfl dX1_setOpen_74 ?_
          refine lv_lload hx hb dX1_setOpen_77 (lv_at hl 0 rfl) ?_
          refine lv_lor hx hb dX1_setOpen_79 ?_
          refine lv_goto (tgt := 94) hx hb dX1_setOpen_80 (by decide) ?_
          refine va_put (D := D) (ci := 1) (v := .long (g_down ||| x5_1)) (ty := .long) (C := RX1) (T := TX1) (N := 7) hx hb hts inwX1_setOpen_X1 tyX1 tyX1_ok nmX1 hown hK hP hD hS 0 rfl rfl 6 (by decide) (hts (.fieldLink RX1 32 "HedgeWays$Grid" "down" "J") (List.mem_of_getElem? (i := 7) rfl)) (fun _ h9 => h9) rfl (tyX1_ok 6 (by decide)) rfl rfl (Nat.le_of_ble_eq_true rfl) dX1_setOpen_94 (fun H locs hP hD hS => ?_)
          have hP : va_P D vwCl ([oX1 g g_rows g_columns g_a g_b g_cells g_right (g_down ||| x5_1)]) H := hP
          have hD : va_D A ([oX1 g g_rows g_columns g_a g_b g_cells g_right (g_down ||| x5_1)]) := hD
          cases qbb_ret hf
          exact ct_vret X hQ hK hP hD hS dX1_setOpen_97
      · have hf := qbb_t hf c5
        refine lv_aload_n hx hb dX1_setOpen_36 rfl (lv_at hl 2 rfl) ?_
        refine lv_iload_n hx hb dX1_setOpen_37 rfl (lv_at hl 5 rfl) ?_
        refine lv_if_eq (tgt := 51) hx hb dX1_setOpen_38 (by decide) (fun c7 => ?_) (fun c7 => ?_)
        · have hf := qbb_t hf c7
          refine lv_aload_n hx hb dX1_setOpen_51 rfl (lv_at hl 2 rfl) ?_
          refine va_get (D := D) (ci := 1) (v := .long g_right) (C := RX1) (T := TX1) (N := 7) hx hb hts inwX1_setOpen_X1 hown hK hP 0 rfl rfl 5 (by decide) (hts (.fieldLink RX1 28 "HedgeWays$Grid" "right" "J") (List.mem_of_getElem? (i := 5) rfl)) (fun _ h9 => h9) rfl dX1_setOpen_52 ?_
          refine lv_lload hx hb dX1_setOpen_55 (lv_at hl 0 rfl) ?_
          refine lv_ldc2 hx hb hown (hts (.constantLong RX1 69 (-1)) (List.mem_of_getElem? (i := 6) rfl)) dX1_setOpen_57 ?_
          refine lv_lxor hx hb dX1_setOpen_60 ?_
          refine lv_land hx hb dX1_setOpen_61 ?_
          refine va_put (D := D) (ci := 1) (v := .long (g_right &&& (x5_1 ^^^ (-1)))) (ty := .long) (C := RX1) (T := TX1) (N := 7) hx hb hts inwX1_setOpen_X1 tyX1 tyX1_ok nmX1 hown hK hP hD hS 0 rfl rfl 5 (by decide) (hts (.fieldLink RX1 28 "HedgeWays$Grid" "right" "J") (List.mem_of_getElem? (i := 5) rfl)) (fun _ h9 => h9) rfl (tyX1_ok 5 (by decide)) rfl rfl (Nat.le_of_ble_eq_true rfl) dX1_setOpen_62 (fun H locs hP hD hS => ?_)
          have hP : va_P D vwCl ([oX1 g g_rows g_columns g_a g_b g_cells (g_right &&& (x5_1 ^^^ (-1))) g_down]) H := hP
          have hD : va_D A ([oX1 g g_rows g_columns g_a g_b g_cells (g_right &&& (x5_1 ^^^ (-1))) g_down]) := hD
          refine lv_goto (tgt := 97) hx hb dX1_setOpen_65 (by decide) ?_
          cases qbb_ret hf
          exact ct_vret X hQ hK hP hD hS dX1_setOpen_97
        · have hf := qbb_f hf c7
          refine lv_aload_n hx hb dX1_setOpen_41 rfl (lv_at hl 2 rfl) ?_
          refine va_get (D := D) (ci := 1) (v := .long g_right) (C := RX1) (T := TX1) (N := 7) hx hb hts inwX1_setOpen_X1 hown hK hP 0 rfl rfl 5 (by decide) (hts (.fieldLink RX1 28 "HedgeWays$Grid" "right" "J") (List.mem_of_getElem? (i := 5) rfl)) (fun _ h9 => h9) rfl dX1_setOpen_42 ?_
          refine lv_lload hx hb dX1_setOpen_45 (lv_at hl 0 rfl) ?_
          refine lv_lor hx hb dX1_setOpen_47 ?_
          refine lv_goto (tgt := 62) hx hb dX1_setOpen_48 (by decide) ?_
          refine va_put (D := D) (ci := 1) (v := .long (g_right ||| x5_1)) (ty := .long) (C := RX1) (T := TX1) (N := 7) hx hb hts inwX1_setOpen_X1 tyX1 tyX1_ok nmX1 hown hK hP hD hS 0 rfl rfl 5 (by decide) (hts (.fieldLink RX1 28 "HedgeWays$Grid" "right" "J") (List.mem_of_getElem? (i := 5) rfl)) (fun _ h9 => h9) rfl (tyX1_ok 5 (by decide)) rfl rfl (Nat.le_of_ble_eq_true rfl) dX1_setOpen_62 (fun H locs hP hD hS => ?_)
          have hP : va_P D vwCl ([oX1 g g_rows g_columns g_a g_b g_cells (g_right ||| x5_1) g_down]) H := hP
          have hD : va_D A ([oX1 g g_rows g_columns g_a g_b g_cells (g_right ||| x5_1) g_down]) := hD
          refine lv_goto (tgt := 97) hx hb dX1_setOpen_65 (by decide) ?_
          cases qbb_ret hf
          exact ct_vret X hQ hK hP hD hS dX1_setOpen_97
  · have hf := qbb_t hf c1
    cases qbb_ret hf
    exact ct_vret X hQ hK hP hD hS dX1_setOpen_14
abbrev rmX1_isHedge : Room := { frames := 2, cells := 0, slots := 0, locals := 45 }
theorem hdX1_isHedge : yX1_isHedge.cls = RX1 ∧ yX1_isHedge.cls ≠ "java/lang/invoke/MethodHandle" ∧ yX1_isHedge.cls ≠ "java/lang/invoke/VarHandle" ∧ (parseMethodDescriptor yX1_isHedge.desc).map (fun d => d.parameters.length) = some 2 := by decide +kernel
set_option maxHeartbeats 4000000 in
set_option maxRecDepth 100000 in
theorem KX1_isHedge {l : Launch} {D : va_G} {cy : Nat → ClassId} {g : Nat} {g_rows : Int32} {g_columns : Int32} {g_a : Int32} {g_b : Int32} {g_cells : Int64} {g_right : Int64} {g_down : Int64} {p1 : Int32} {p2 : Int32} {r : Int32} (hf : fX1_isHedge g_cells g_right g_down p1 p2 = r) : CtI l yX1_isHedge wsX1_isHedge rmX1_isHedge D cy [.ref g, .int p1, .int p2] ([oX1 g g_rows g_columns g_a g_b g_cells g_right g_down]) ([oX1 g g_rows g_columns g_a g_b g_cells g_right g_down]) r := by
  refine CtI.of (cc := cX1_isHedge) (maxL := 3) (ret := some .boolean) (own := RX1) (by decide) rfl rfl (Nat.le_of_ble_eq_true rfl) ?_
  intro p e s m args below meth c A Q X hQ hK hP hD hS ls hl
  obtain ⟨hx, hb, hml, hown, hts, hr, hlocks, hA, hZ⟩ := id X
  have hl : lv_has ls 3 [(0, .ref g), (1, .int p1), (2, .int p2)] := hl
  unfold fX1_isHedge at hf
  have hf := qbb_top hf
  refine lv_aload_n hx hb dX1_isHedge_0 rfl (lv_at hl 0 rfl) ?_
  refine lv_iload_n hx hb dX1_isHedge_1 rfl (lv_at hl 1 rfl) ?_
  refine lv_iload_n hx hb dX1_isHedge_2 rfl (lv_at hl 2 rfl) ?_
  refine ctV_i0 (r := (fX1_beside g_cells p1 p2)) (wc := [oX1 g g_rows g_columns g_a g_b g_cells g_right g_down]) (As := [.int p1, .int p2]) (rest := []) (q0 := 0) X hK hP hD hS [0] rfl rfl rfl (KX1_beside rfl _) (cwV 2 hts gX1_isHedge_X1_beside rfl rfl rfl hdX1_beside ⟨Nat.le_of_ble_eq_true rfl, Nat.le_of_ble_eq_true rfl⟩) rfl rfl rfl hl rfl (Nat.le_of_ble_eq_true rfl) dX1_isHedge_3 (Nat.zero_le _) (Nat.zero_le _) (fun H locs hP hS => ?_)
  refine lv_iconst (v := (-1)) hx hb dX1_isHedge_6 (by decide) ?_
  refine lv_icmp_eq (tgt := 23) hx hb dX1_isHedge_7 (by decide) (fun c1 => ?_) (fun c1 => ?_)
  · have hf := qbb_t hf c1
    refine lv_iconst (v := 0) hx hb dX1_isHedge_23 (by decide) ?_
    cases qbb_ret hf
    exact ct_zret X hQ hK hP hD hS qnb0 dX1_isHedge_24
  · have hf := qbb_f hf c1
    refine lv_aload_n hx hb dX1_isHedge_10 rfl (lv_at hl 0 rfl) ?_
    refine lv_iload_n hx hb dX1_isHedge_11 rfl (lv_at hl 1 rfl) ?_
    refine lv_iload_n hx hb dX1_isHedge_12 rfl (lv_at hl 2 rfl) ?_
    refine ctV_i0 (r := (fX1_isOpen g_right g_down p1 p2)) (wc := [oX1 g g_rows g_columns g_a g_b g_cells g_right g_down]) (As := [.int p1, .int p2]) (rest := []) (q0 := 0) X hK hP hD hS [0] rfl rfl rfl (KX1_isOpen rfl _) (cwV 2 hts gX1_isHedge_X1_isOpen rfl rfl rfl hdX1_isOpen ⟨Nat.le_of_ble_eq_true rfl, Nat.le_of_ble_eq_true rfl⟩) rfl rfl rfl hl rfl (Nat.le_of_ble_eq_true rfl) dX1_isHedge_13 (Nat.zero_le _) (Nat.zero_le _) (fun H locs hP hS => ?_)
    refine lv_if_ne (tgt := 23) hx hb dX1_isHedge_16 (by decide) (fun c2 => ?_) (fun c2 => ?_)
    · have hf := qbb_f hf c2
      refine lv_iconst (v := 0) hx hb dX1_isHedge_23 (by decide) ?_
      cases qbb_ret hf
      exact ct_zret X hQ hK hP hD hS qnb0 dX1_isHedge_24
    · have hf := qbb_t hf c2
      refine lv_iconst (v := 1) hx hb dX1_isHedge_19 (by decide) ?_
      refine lv_goto (tgt := 24) hx hb dX1_isHedge_20 (by decide) ?_
      cases qbb_ret hf
      exact ct_zret X hQ hK hP hD hS qnb1 dX1_isHedge_24
theorem inwX1_near_X1 : ∀ w ∈ wsX10, w ∈ wsX1_near := fun _ h => List.mem_cons_of_mem _ (List.mem_append_right _ h)
abbrev rmX1_near : Room := { frames := 0, cells := 0, slots := 0, locals := 0 }
theorem hdX1_near : yX1_near.cls = RX1 ∧ yX1_near.cls ≠ "java/lang/invoke/MethodHandle" ∧ yX1_near.cls ≠ "java/lang/invoke/VarHandle" ∧ (parseMethodDescriptor yX1_near.desc).map (fun d => d.parameters.length) = some 1 := by decide +kernel
set_option maxHeartbeats 4000000 in
set_option maxRecDepth 100000 in
theorem KX1_near {l : Launch} {D : va_G} {cy : Nat → ClassId} {g : Nat} {g_rows : Int32} {g_columns : Int32} {g_a : Int32} {g_b : Int32} {g_cells : Int64} {g_right : Int64} {g_down : Int64} {p1 : Int64} {r : Int64} (hf : fX1_near g_right g_down p1 = r) : CtL l yX1_near wsX1_near rmX1_near D cy [.ref g, .long p1] ([oX1 g g_rows g_columns g_a g_b g_cells g_right g_down]) ([oX1 g g_rows g_columns g_a g_b g_cells g_right g_down]) r := by
  refine CtL.of (cc := cX1_near) (maxL := 3) (ret := some .long) (own := RX1) (by decide) rfl rfl (Nat.le_of_ble_eq_true rfl) ?_
  intro p e s m args below meth c A Q X hQ hK hP hD hS ls hl
  obtain ⟨hx, hb, hml, hown, hts, hr, hlocks, hA, hZ⟩ := id X
  have hl : lv_has ls 3 [(0, .ref g), (1, .long p1)] := hl
  unfold fX1_near at hf
  have hf := qbb_top hf
  refine lv_lload_n hx hb dX1_near_0 rfl (lv_at hl 1 rfl) ?_
  refine lv_lload_n hx hb dX1_near_1 rfl (lv_at hl 1 rfl) ?_
  refine lv_aload_n hx hb dX1_near_2 rfl (lv_at hl 0 rfl) ?_
  refine va_get (D := D) (ci := 1) (v := .long g_right) (C := RX1) (T := TX1) (N := 7) hx hb hts inwX1_near_X1 hown hK hP 0 rfl rfl 5 (by decide) (hts (.fieldLink RX1 28 "HedgeWays$Grid" "right" "J") (List.mem_of_getElem? (i := 1) rfl)) (fun _ h9 => h9) rfl dX1_near_3 ?_
  refine lv_land hx hb dX1_near_6 ?_
  refine lv_iconst (v := 1) hx hb dX1_near_7 (by decide) ?_
  refine lv_lshl (v := (qshl (p1 &&& g_right) 1)) hx hb dX1_near_8 rfl ?_
  refine lv_lor hx hb dX1_near_9 ?_
  refine lv_lload_n hx hb dX1_near_10 rfl (lv_at hl 1 rfl) ?_
  refine lv_iconst (v := 1) hx hb dX1_near_11 (by decide) ?_
  refine lv_lushr (v := (qushr p1 1)) hx hb dX1_near_12 rfl ?_
  refine lv_aload_n hx hb dX1_near_13 rfl (lv_at hl 0 rfl) ?_
  refine va_get (D := D) (ci := 1) (v := .long g_right) (C := RX1) (T := TX1) (N := 7) hx hb hts inwX1_near_X1 hown hK hP 0 rfl rfl 5 (by decide) (hts (.fieldLink RX1 28 "HedgeWays$Grid" "right" "J") (List.mem_of_getElem? (i := 1) rfl)) (fun _ h9 => h9) rfl dX1_near_14 ?_
  refine lv_land hx hb dX1_near_17 ?_
  refine lv_lor hx hb dX1_near_18 ?_
  refine lv_lload_n hx hb dX1_near_19 rfl (lv_at hl 1 rfl) ?_
  refine lv_aload_n hx hb dX1_near_20 rfl (lv_at hl 0 rfl) ?_
  refine va_get (D := D) (ci := 1) (v := .long g_down) (C := RX1) (T := TX1) (N := 7) hx hb hts inwX1_near_X1 hown hK hP 0 rfl rfl 6 (by decide) (hts (.fieldLink RX1 32 "HedgeWays$Grid" "down" "J") (List.mem_of_getElem? (i := 2) rfl)) (fun _ h9 => h9) rfl dX1_near_21 ?_
  refine lv_land hx hb dX1_near_24 ?_
  refine lv_bipush (v := 8) hx hb dX1_near_25 (by decide) ?_
  refine lv_lshl (v := (qshl (p1 &&& g_down) 8)) hx hb dX1_near_27 rfl ?_
  refine lv_lor hx hb dX1_near_28 ?_
  refine lv_lload_n hx hb dX1_near_29 rfl (lv_at hl 1 rfl) ?_
  refine lv_bipush (v := 8) hx hb dX1_near_30 (by decide) ?_
  refine lv_lushr (v := (qushr p1 8)) hx hb dX1_near_32 rfl ?_
  refine lv_aload_n hx hb dX1_near_33 rfl (lv_at hl 0 rfl) ?_
  refine va_get (D := D) (ci := 1) (v := .long g_down) (C := RX1) (T := TX1) (N := 7) hx hb hts inwX1_near_X1 hown hK hP 0 rfl rfl 6 (by decide) (hts (.fieldLink RX1 32 "HedgeWays$Grid" "down" "J") (List.mem_of_getElem? (i := 2) rfl)) (fun _ h9 => h9) rfl dX1_near_34 ?_
  refine lv_land hx hb dX1_near_37 ?_
  refine lv_lor hx hb dX1_near_38 ?_
  cases qbb_ret hf
  exact ct_lret X hQ hK hP hD hS rfl dX1_near_39
theorem inwX1_nearThroughHedges_X1 : ∀ w ∈ wsX10, w ∈ wsX1_nearThroughHedges := fun _ h => List.mem_cons_of_mem _ (List.mem_append_right _ h)
abbrev rmX1_nearThroughHedges : Room := { frames := 0, cells := 0, slots := 0, locals := 0 }
theorem hdX1_nearThroughHedges : yX1_nearThroughHedges.cls = RX1 ∧ yX1_nearThroughHedges.cls ≠ "java/lang/invoke/MethodHandle" ∧ yX1_nearThroughHedges.cls ≠ "java/lang/invoke/VarHandle" ∧ (parseMethodDescriptor yX1_nearThroughHedges.desc).map (fun d => d.parameters.length) = some 1 := by decide +kernel
set_option maxHeartbeats 4000000 in
set_option maxRecDepth 100000 in
theorem KX1_nearThroughHedges {l : Launch} {D : va_G} {cy : Nat → ClassId} {g : Nat} {g_rows : Int32} {g_columns : Int32} {g_a : Int32} {g_b : Int32} {g_cells : Int64} {g_right : Int64} {g_down : Int64} {p1 : Int64} {r : Int64} (hf : fX1_nearThroughHedges g_cells p1 = r) : CtL l yX1_nearThroughHedges wsX1_nearThroughHedges rmX1_nearThroughHedges D cy [.ref g, .long p1] ([oX1 g g_rows g_columns g_a g_b g_cells g_right g_down]) ([oX1 g g_rows g_columns g_a g_b g_cells g_right g_down]) r := by
  refine CtL.of (cc := cX1_nearThroughHedges) (maxL := 3) (ret := some .long) (own := RX1) (by decide) rfl rfl (Nat.le_of_ble_eq_true rfl) ?_
  intro p e s m args below meth c A Q X hQ hK hP hD hS ls hl
  obtain ⟨hx, hb, hml, hown, hts, hr, hlocks, hA, hZ⟩ := id X
  have hl : lv_has ls 3 [(0, .ref g), (1, .long p1)] := hl
  unfold fX1_nearThroughHedges at hf
  have hf := qbb_top hf
  refine lv_lload_n hx hb dX1_nearThroughHedges_0 rfl (lv_at hl 1 rfl) ?_
  refine lv_lload_n hx hb dX1_nearThroughHedges_1 rfl (lv_at hl 1 rfl) ?_
  refine lv_iconst (v := 1) hx hb dX1_nearThroughHedges_2 (by decide) ?_
  refine lv_lshl (v := (qshl p1 1)) hx hb dX1_nearThroughHedges_3 rfl ?_
  refine lv_lor hx hb dX1_nearThroughHedges_4 ?_
  refine lv_lload_n hx hb dX1_nearThroughHedges_5 rfl (lv_at hl 1 rfl) ?_
  refine lv_iconst (v := 1) hx hb dX1_nearThroughHedges_6 (by decide) ?_
  refine lv_lushr (v := (qushr p1 1)) hx hb dX1_nearThroughHedges_7 rfl ?_
  refine lv_lor hx hb dX1_nearThroughHedges_8 ?_
  refine lv_lload_n hx hb dX1_nearThroughHedges_9 rfl (lv_at hl 1 rfl) ?_
  refine lv_bipush (v := 8) hx hb dX1_nearThroughHedges_10 (by decide) ?_
  refine lv_lshl (v := (qshl p1 8)) hx hb dX1_nearThroughHedges_12 rfl ?_
  refine lv_lor hx hb dX1_nearThroughHedges_13 ?_
  refine lv_lload_n hx hb dX1_nearThroughHedges_14 rfl (lv_at hl 1 rfl) ?_
  refine lv_bipush (v := 8) hx hb dX1_nearThroughHedges_15 (by decide) ?_
  refine lv_lushr (v := (qushr p1 8)) hx hb dX1_nearThroughHedges_17 rfl ?_
  refine lv_lor hx hb dX1_nearThroughHedges_18 ?_
  refine lv_aload_n hx hb dX1_nearThroughHedges_19 rfl (lv_at hl 0 rfl) ?_
  refine va_get (D := D) (ci := 1) (v := .long g_cells) (C := RX1) (T := TX1) (N := 7) hx hb hts inwX1_nearThroughHedges_X1 hown hK hP 0 rfl rfl 4 (by decide) (hts (.fieldLink RX1 35 "HedgeWays$Grid" "cells" "J") (List.mem_of_getElem? (i := 1) rfl)) (fun _ h9 => h9) rfl dX1_nearThroughHedges_20 ?_
  refine lv_land hx hb dX1_nearThroughHedges_23 ?_
  cases qbb_ret hf
  exact ct_lret X hQ hK hP hD hS rfl dX1_nearThroughHedges_24
abbrev rmX1_neighbours : Room := { frames := 1, cells := 0, slots := 0, locals := 22 }
theorem hdX1_neighbours : yX1_neighbours.cls = RX1 ∧ yX1_neighbours.cls ≠ "java/lang/invoke/MethodHandle" ∧ yX1_neighbours.cls ≠ "java/lang/invoke/VarHandle" ∧ (parseMethodDescriptor yX1_neighbours.desc).map (fun d => d.parameters.length) = some 1 := by decide +kernel
set_option maxHeartbeats 4000000 in
set_option maxRecDepth 100000 in
theorem KX1_neighbours {l : Launch} {D : va_G} {cy : Nat → ClassId} {g : Nat} {g_rows : Int32} {g_columns : Int32} {g_a : Int32} {g_b : Int32} {g_cells : Int64} {g_right : Int64} {g_down : Int64} {p1 : Int32} {r : Int32} (hf : fX1_neighbours g_right g_down p1 = r) : CtI l yX1_neighbours wsX1_neighbours rmX1_neighbours D cy [.ref g, .int p1] ([oX1 g g_rows g_columns g_a g_b g_cells g_right g_down]) ([oX1 g g_rows g_columns g_a g_b g_cells g_right g_down]) r := by
  refine CtI.of (cc := cX1_neighbours) (maxL := 2) (ret := some .int) (own := RX1) (by decide) rfl rfl (Nat.le_of_ble_eq_true rfl) ?_
  intro p e s m args below meth c A Q X hQ hK hP hD hS ls hl
  obtain ⟨hx, hb, hml, hown, hts, hr, hlocks, hA, hZ⟩ := id X
  have hl : lv_has ls 2 [(0, .ref g), (1, .int p1)] := hl
  unfold fX1_neighbours at hf
  have hf := qbb_top hf
  refine lv_aload_n hx hb dX1_neighbours_0 rfl (lv_at hl 0 rfl) ?_
  refine lv_iload_n hx hb dX1_neighbours_1 rfl (lv_at hl 1 rfl) ?_
  refine ctS_l0 (r := (fX1_bit p1)) (wc := []) (As := [.int p1]) (rest := [.ref g]) X hK hP hD hS [] rfl rfl rfl (KX1_bit rfl _) (va_cwS 1 hts gX1_neighbours_X1_bit rfl rfl rfl hdX1_bit ⟨Nat.le_of_ble_eq_true rfl, Nat.le_of_ble_eq_true rfl⟩) rfl hl rfl (Nat.le_of_ble_eq_true rfl) dX1_neighbours_2 (Nat.zero_le _) (Nat.zero_le _) (fun H locs hP hS => ?_)
  refine ctV_l0 (r := (fX1_near g_right g_down (fX1_bit p1))) (wc := [oX1 g g_rows g_columns g_a g_b g_cells g_right g_down]) (As := [.long (fX1_bit p1)]) (rest := []) (q0 := 0) X hK hP hD hS [0] rfl rfl rfl (KX1_near rfl _) (cwV 1 hts gX1_neighbours_X1_near rfl rfl rfl hdX1_near ⟨Nat.le_of_ble_eq_true rfl, Nat.le_of_ble_eq_true rfl⟩) rfl rfl rfl hl rfl (Nat.le_of_ble_eq_true rfl) dX1_neighbours_5 (Nat.zero_le _) (Nat.zero_le _) (fun H locs hP hS => ?_)
  refine ctS_i0 (r := (fJ13_bitCount_95d88 (fX1_near g_right g_down (fX1_bit p1)))) (wc := []) (As := [.long (fX1_near g_right g_down (fX1_bit p1))]) (rest := []) X hK hP hD hS [] rfl rfl rfl (KJ13_bitCount_95d88 rfl _) (va_cwS 1 hts gX1_neighbours_J13_bitCount_95d88 rfl rfl rfl hdJ13_bitCount_95d88 ⟨Nat.le_of_ble_eq_true rfl, Nat.le_of_ble_eq_true rfl⟩) rfl hl rfl (Nat.le_of_ble_eq_true rfl) dX1_neighbours_8 (Nat.zero_le _) (Nat.zero_le _) (fun H locs hP hS => ?_)
  refine lv_iconst (v := 1) hx hb dX1_neighbours_11 (by decide) ?_
  refine lv_isub hx hb dX1_neighbours_12 ?_
  cases qbb_ret hf
  exact ct_iret X hQ hK hP hD hS rfl dX1_neighbours_13
abbrev rmX1_flood : Room := { frames := 1, cells := 0, slots := 0, locals := 22 }
theorem hdX1_flood : yX1_flood.cls = RX1 ∧ yX1_flood.cls ≠ "java/lang/invoke/MethodHandle" ∧ yX1_flood.cls ≠ "java/lang/invoke/VarHandle" ∧ (parseMethodDescriptor yX1_flood.desc).map (fun d => d.parameters.length) = some 2 := by decide +kernel
set_option maxHeartbeats 4000000 in
set_option maxRecDepth 100000 in
theorem KX1_flood {l : Launch} {D : va_G} {cy : Nat → ClassId} {g : Nat} {g_rows : Int32} {g_columns : Int32} {g_a : Int32} {g_b : Int32} {g_cells : Int64} {g_right : Int64} {g_down : Int64} {p1 : Int64} {p2 : Int64} {r : Int64} (hf : fX1_flood g_right g_down p1 p2 = some r) : CtL l yX1_flood wsX1_flood rmX1_flood D cy [.ref g, .long p1, .long p2] ([oX1 g g_rows g_columns g_a g_b g_cells g_right g_down]) ([oX1 g g_rows g_columns g_a g_b g_cells g_right g_down]) r := by
  refine CtL.of (cc := cX1_flood) (maxL := 10) (ret := some .long) (own := RX1) (by decide) rfl rfl (Nat.le_of_ble_eq_true rfl) ?_
  intro p e s m args below meth c A Q X hQ hK hP hD hS ls hl
  obtain ⟨hx, hb, hml, hown, hts, hr, hlocks, hA, hZ⟩ := id X
  have hl : lv_has ls 10 [(0, .ref g), (1, .long p1), (3, .long p2)] := hl
  unfold fX1_flood at hf
  have hf := qob_top hf
  refine lv_lload_n hx hb dX1_flood_0 rfl (lv_at hl 1 rfl) ?_
  refine lv_lload_n hx hb dX1_flood_1 rfl (lv_at hl 2 rfl) ?_
  refine lv_land hx hb dX1_flood_2 ?_
  refine lv_lstore (lv' := [(5, .long (p1 &&& p2)), (0, .ref g), (1, .long p1), (3, .long p2)]) hx hb dX1_flood_3 hl (by decide) rfl (fun ls hl => ?_)
  refine lv_iconst (v := 0) hx hb dX1_flood_5 (by decide) ?_
  refine lv_istore (lv' := [(7, .int 0), (5, .long (p1 &&& p2)), (0, .ref g), (1, .long p1), (3, .long p2)]) hx hb dX1_flood_6 hl (by decide) rfl (fun ls hl => ?_)
  refine qjoin1 hf (fun (x5_1 : Int64) => ∀ (H : Heap) (locs : List Loc) (ls : Array Slot), ctW D A s ([oX1 g g_rows g_columns g_a g_b g_cells g_right g_down]) H locs → lv_has ls 10 [(5, .long x5_1)] → W p l e rmX1_flood s m args below meth c H locs 0 0 Q (F0 m 46 ls [])) ?_ ?_
  · intro x5_1 hf H locs ls ⟨hP, hD, hS⟩ hl
    refine lv_lload hx hb dX1_flood_46 (lv_at hl 0 rfl) ?_
    cases qob_ret hf
    exact ct_lret X hQ hK hP hD hS rfl dX1_flood_48
  · intro J1 hJ1 hf
    refine qwalk2 (fun (x5_2 : Int64) (x7_1 : Int32) => ∀ (H : Heap) (locs : List Loc) (ls : Array Slot), ctW D A s ([oX1 g g_rows g_columns g_a g_b g_cells g_right g_down]) H locs → lv_has ls 10 [(0, .ref g), (3, .long p2), (5, .long x5_2), (7, .int x7_1)] → W p l e rmX1_flood s m args below meth c H locs 0 0 Q (F0 m 8 ls [])) ?_ _ (p1 &&& p2) (0 : Int32) hf _ _ _ ⟨hP, hD, hS⟩ (lv_sub hl [2, 4, 1, 0] rfl)
    intro J2 hL2 x5_2 x7_1 hf H locs ls ⟨hP, hD, hS⟩ hl
    refine lv_iload hx hb dX1_flood_8 (lv_at hl 3 rfl) ?_
    refine lv_bipush (v := 36) hx hb dX1_flood_10 (by decide) ?_
    refine lv_icmp_ge (tgt := 46) hx hb dX1_flood_12 (by decide) (fun c3 => ?_) (fun c3 => ?_)
    · have hf := qob_t hf c3
      have hf := qob_esc hf
      exact hJ1 x5_2 hf _ _ _ ⟨hP, hD, hS⟩ (lv_sub hl [2] rfl)
    · have hf := qob_f hf c3
      refine lv_aload_n hx hb dX1_flood_15 rfl (lv_at hl 0 rfl) ?_
      refine lv_lload hx hb dX1_flood_16 (lv_at hl 2 rfl) ?_
      refine ctV_l0 (r := (fX1_near g_right g_down x5_2)) (wc := [oX1 g g_rows g_columns g_a g_b g_cells g_right g_down]) (As := [.long x5_2]) (rest := []) (q0 := 0) X hK hP hD hS [0] rfl rfl rfl (KX1_near rfl _) (cwV 1 hts gX1_flood_X1_near rfl rfl rfl hdX1_near ⟨Nat.le_of_ble_eq_true rfl, Nat.le_of_ble_eq_true rfl⟩) rfl rfl rfl hl rfl (Nat.le_of_ble_eq_true rfl) dX1_flood_18 (Nat.zero_le _) (Nat.zero_le _) (fun H locs hP hS => ?_)
      refine lv_lload_n hx hb dX1_flood_21 rfl (lv_at hl 1 rfl) ?_
      refine lv_land hx hb dX1_flood_22 ?_
      refine lv_lstore (lv' := [(8, .long ((fX1_near g_right g_down x5_2) &&& p2)), (0, .ref g), (3, .long p2), (5, .long x5_2), (7, .int x7_1)]) hx hb dX1_flood_23 hl (by decide) rfl (fun ls hl => ?_)
      refine lv_lload hx hb dX1_flood_25 (lv_at hl 0 rfl) ?_
      refine lv_lload hx hb dX1_flood_27 (lv_at hl 3 rfl) ?_
      refine W.lcmp hx hb dX1_flood_29 ?_
      refine lv_if_ne (tgt := 36) hx hb dX1_flood_30 (by decide) (fun c4 => ?_) (fun c4 => ?_)
      · have hf := qob_f hf c4
        refine lv_lload hx hb dX1_flood_36 (lv_at hl 0 rfl) ?_
        refine lv_lstore (lv' := [(5, .long ((fX1_near g_right g_down x5_2) &&& p2)), (8, .long ((fX1_near g_right g_down x5_2) &&& p2)), (0, .ref g), (3, .long p2), (7, .int x7_1)]) hx hb dX1_flood_38 hl (by decide) rfl (fun ls hl => ?_)
        refine lv_iinc (v := (x7_1 + 1)) (lv' := [(7, .int (x7_1 + 1)), (5, .long ((fX1_near g_right g_down x5_2) &&& p2)), (8, .long ((fX1_near g_right g_down x5_2) &&& p2)), (0, .ref g), (3, .long p2)]) hx hb dX1_flood_40 hl (k := 4) rfl rfl (by decide) rfl (fun ls hl => ?_)
        refine lv_goto (tgt := 8) hx hb dX1_flood_43 (by decide) ?_
        exact hL2 ((fX1_near g_right g_down x5_2) &&& p2) (x7_1 + 1) hf _ _ _ ⟨hP, hD, hS⟩ (lv_sub hl [3, 4, 1, 0] rfl)
      · have hf := qob_t hf c4
        refine lv_goto (tgt := 46) hx hb dX1_flood_33 (by decide) ?_
        have hf := qob_esc hf
        exact hJ1 x5_2 hf _ _ _ ⟨hP, hD, hS⟩ (lv_sub hl [3] rfl)
theorem inwX1_partOf_X1 : ∀ w ∈ wsX10, w ∈ wsX1_partOf := fun _ h => List.mem_cons_of_mem _ (List.mem_append_right _ h)
abbrev rmX1_partOf : Room := { frames := 2, cells := 0, slots := 0, locals := 51 }
theorem hdX1_partOf : yX1_partOf.cls = RX1 ∧ yX1_partOf.cls ≠ "java/lang/invoke/MethodHandle" ∧ yX1_partOf.cls ≠ "java/lang/invoke/VarHandle" ∧ (parseMethodDescriptor yX1_partOf.desc).map (fun d => d.parameters.length) = some 1 := by decide +kernel
set_option maxHeartbeats 4000000 in
set_option maxRecDepth 100000 in
theorem KX1_partOf {l : Launch} {D : va_G} {cy : Nat → ClassId} {g : Nat} {g_rows : Int32} {g_columns : Int32} {g_a : Int32} {g_b : Int32} {g_cells : Int64} {g_right : Int64} {g_down : Int64} {p1 : Int32} {r : Int64} (hf : fX1_partOf g_cells g_right g_down p1 = some r) : CtL l yX1_partOf wsX1_partOf rmX1_partOf D cy [.ref g, .int p1] ([oX1 g g_rows g_columns g_a g_b g_cells g_right g_down]) ([oX1 g g_rows g_columns g_a g_b g_cells g_right g_down]) r := by
  refine CtL.of (cc := cX1_partOf) (maxL := 2) (ret := some .long) (own := RX1) (by decide) rfl rfl (Nat.le_of_ble_eq_true rfl) ?_
  intro p e s m args below meth c A Q X hQ hK hP hD hS ls hl
  obtain ⟨hx, hb, hml, hown, hts, hr, hlocks, hA, hZ⟩ := id X
  have hl : lv_has ls 2 [(0, .ref g), (1, .int p1)] := hl
  unfold fX1_partOf at hf
  have hf := qob_top hf
  refine lv_aload_n hx hb dX1_partOf_0 rfl (lv_at hl 0 rfl) ?_
  refine lv_iload_n hx hb dX1_partOf_1 rfl (lv_at hl 1 rfl) ?_
  refine ctS_l0 (r := (fX1_bit p1)) (wc := []) (As := [.int p1]) (rest := [.ref g]) X hK hP hD hS [] rfl rfl rfl (KX1_bit rfl _) (va_cwS 1 hts gX1_partOf_X1_bit rfl rfl rfl hdX1_bit ⟨Nat.le_of_ble_eq_true rfl, Nat.le_of_ble_eq_true rfl⟩) rfl hl rfl (Nat.le_of_ble_eq_true rfl) dX1_partOf_2 (Nat.zero_le _) (Nat.zero_le _) (fun H locs hP hS => ?_)
  refine lv_aload_n hx hb dX1_partOf_5 rfl (lv_at hl 0 rfl) ?_
  refine va_get (D := D) (ci := 1) (v := .long g_cells) (C := RX1) (T := TX1) (N := 7) hx hb hts inwX1_partOf_X1 hown hK hP 0 rfl rfl 4 (by decide) (hts (.fieldLink RX1 35 "HedgeWays$Grid" "cells" "J") (List.mem_of_getElem? (i := 1) rfl)) (fun _ h9 => h9) rfl dX1_partOf_6 ?_
  obtain ⟨r_1, q1, hf⟩ := qcall1 hf
  refine ctV_l0 (r := r_1) (wc := [oX1 g g_rows g_columns g_a g_b g_cells g_right g_down]) (As := [.long (fX1_bit p1), .long g_cells]) (rest := []) (q0 := 0) X hK hP hD hS [0] rfl rfl rfl (KX1_flood q1 _) (cwV 2 hts gX1_partOf_X1_flood rfl rfl rfl hdX1_flood ⟨Nat.le_of_ble_eq_true rfl, Nat.le_of_ble_eq_true rfl⟩) rfl rfl rfl hl rfl (Nat.le_of_ble_eq_true rfl) dX1_partOf_9 (Nat.zero_le _) (Nat.zero_le _) (fun H locs hP hS => ?_)
  cases qob_ret hf
  exact ct_lret X hQ hK hP hD hS rfl dX1_partOf_12
abbrev rmX1_distance : Room := { frames := 1, cells := 0, slots := 0, locals := 22 }
theorem hdX1_distance : yX1_distance.cls = RX1 ∧ yX1_distance.cls ≠ "java/lang/invoke/MethodHandle" ∧ yX1_distance.cls ≠ "java/lang/invoke/VarHandle" ∧ (parseMethodDescriptor yX1_distance.desc).map (fun d => d.parameters.length) = some 2 := by decide +kernel
set_option maxHeartbeats 4000000 in
set_option maxRecDepth 100000 in
theorem KX1_distance {l : Launch} {D : va_G} {cy : Nat → ClassId} {g : Nat} {g_rows : Int32} {g_columns : Int32} {g_a : Int32} {g_b : Int32} {g_cells : Int64} {g_right : Int64} {g_down : Int64} {p1 : Int32} {p2 : Int32} {r : Int32} (hf : fX1_distance g_right g_down p1 p2 = some r) : CtI l yX1_distance wsX1_distance rmX1_distance D cy [.ref g, .int p1, .int p2] ([oX1 g g_rows g_columns g_a g_b g_cells g_right g_down]) ([oX1 g g_rows g_columns g_a g_b g_cells g_right g_down]) r := by
  refine CtI.of (cc := cX1_distance) (maxL := 6) (ret := some .int) (own := RX1) (by decide) rfl rfl (Nat.le_of_ble_eq_true rfl) ?_
  intro p e s m args below meth c A Q X hQ hK hP hD hS ls hl
  obtain ⟨hx, hb, hml, hown, hts, hr, hlocks, hA, hZ⟩ := id X
  have hl : lv_has ls 6 [(0, .ref g), (1, .int p1), (2, .int p2)] := hl
  unfold fX1_distance at hf
  have hf := qob_top hf
  refine lv_iload_n hx hb dX1_distance_0 rfl (lv_at hl 1 rfl) ?_
  refine ctS_l0 (r := (fX1_bit p1)) (wc := []) (As := [.int p1]) (rest := []) X hK hP hD hS [] rfl rfl rfl (KX1_bit rfl _) (va_cwS 1 hts gX1_distance_X1_bit rfl rfl rfl hdX1_bit ⟨Nat.le_of_ble_eq_true rfl, Nat.le_of_ble_eq_true rfl⟩) rfl hl rfl (Nat.le_of_ble_eq_true rfl) dX1_distance_1 (Nat.zero_le _) (Nat.zero_le _) (fun H locs hP hS => ?_)
  refine lv_lstore_n (lv' := [(3, .long (fX1_bit p1)), (0, .ref g), (1, .int p1), (2, .int p2)]) hx hb dX1_distance_4 rfl hl (by decide) rfl (fun ls hl => ?_)
  refine lv_iconst (v := 0) hx hb dX1_distance_5 (by decide) ?_
  refine lv_istore (lv' := [(5, .int 0), (3, .long (fX1_bit p1)), (0, .ref g), (1, .int p1), (2, .int p2)]) hx hb dX1_distance_6 hl (by decide) rfl (fun ls hl => ?_)
  refine qjoinE0 hf (∀ (H : Heap) (locs : List Loc) (ls : Array Slot), ctW D A s ([oX1 g g_rows g_columns g_a g_b g_cells g_right g_down]) H locs → lv_has ls 6 [] → W p l e rmX1_distance s m args below meth c H locs 0 0 Q (F0 m 38 ls [])) ?_ ?_
  · intro  hf H locs ls ⟨hP, hD, hS⟩ hl
    refine lv_bipush (v := (-9)) hx hb dX1_distance_38 (by decide) ?_
    cases qob_ret hf
    exact ct_iret X hQ hK hP hD hS rfl dX1_distance_40
  · intro J1 hJ1 hf
    refine qwalk2 (fun (x3_1 : Int64) (x5_1 : Int32) => ∀ (H : Heap) (locs : List Loc) (ls : Array Slot), ctW D A s ([oX1 g g_rows g_columns g_a g_b g_cells g_right g_down]) H locs → lv_has ls 6 [(0, .ref g), (2, .int p2), (3, .long x3_1), (5, .int x5_1)] → W p l e rmX1_distance s m args below meth c H locs 0 0 Q (F0 m 8 ls [])) ?_ _ (fX1_bit p1) (0 : Int32) hf _ _ _ ⟨hP, hD, hS⟩ (lv_sub hl [2, 4, 1, 0] rfl)
    intro J2 hL2 x3_1 x5_1 hf H locs ls ⟨hP, hD, hS⟩ hl
    refine lv_iload hx hb dX1_distance_8 (lv_at hl 3 rfl) ?_
    refine lv_bipush (v := 36) hx hb dX1_distance_10 (by decide) ?_
    refine lv_icmp_ge (tgt := 38) hx hb dX1_distance_12 (by decide) (fun c3 => ?_) (fun c3 => ?_)
    · have hf := qob_t hf c3
      have hf := qob_esc hf
      exact hJ1 hf _ _ _ ⟨hP, hD, hS⟩ (lv_sub hl [] rfl)
    · have hf := qob_f hf c3
      refine lv_lload_n hx hb dX1_distance_15 rfl (lv_at hl 2 rfl) ?_
      refine lv_iload_n hx hb dX1_distance_16 rfl (lv_at hl 1 rfl) ?_
      refine ctS_i0 (r := (fX1_has x3_1 p2)) (wc := []) (As := [.long x3_1, .int p2]) (rest := []) X hK hP hD hS [] rfl rfl rfl (KX1_has rfl _) (va_cwS 2 hts gX1_distance_X1_has rfl rfl rfl hdX1_has ⟨Nat.le_of_ble_eq_true rfl, Nat.le_of_ble_eq_true rfl⟩) rfl hl rfl (Nat.le_of_ble_eq_true rfl) dX1_distance_17 (Nat.zero_le _) (Nat.zero_le _) (fun H locs hP hS => ?_)
      refine lv_if_eq (tgt := 26) hx hb dX1_distance_20 (by decide) (fun c4 => ?_) (fun c4 => ?_)
      · have hf := qob_t hf c4
        refine lv_aload_n hx hb dX1_distance_26 rfl (lv_at hl 0 rfl) ?_
        refine lv_lload_n hx hb dX1_distance_27 rfl (lv_at hl 2 rfl) ?_
        refine ctV_l0 (r := (fX1_near g_right g_down x3_1)) (wc := [oX1 g g_rows g_columns g_a g_b g_cells g_right g_down]) (As := [.long x3_1]) (rest := []) (q0 := 0) X hK hP hD hS [0] rfl rfl rfl (KX1_near rfl _) (cwV 1 hts gX1_distance_X1_near rfl rfl rfl hdX1_near ⟨Nat.le_of_ble_eq_true rfl, Nat.le_of_ble_eq_true rfl⟩) rfl rfl rfl hl rfl (Nat.le_of_ble_eq_true rfl) dX1_distance_28 (Nat.zero_le _) (Nat.zero_le _) (fun H locs hP hS => ?_)
        refine lv_lstore_n (lv' := [(3, .long (fX1_near g_right g_down x3_1)), (0, .ref g), (2, .int p2), (5, .int x5_1)]) hx hb dX1_distance_31 rfl hl (by decide) rfl (fun ls hl => ?_)
        refine lv_iinc (v := (x5_1 + 1)) (lv' := [(5, .int (x5_1 + 1)), (3, .long (fX1_near g_right g_down x3_1)), (0, .ref g), (2, .int p2)]) hx hb dX1_distance_32 hl (k := 3) rfl rfl (by decide) rfl (fun ls hl => ?_)
        refine lv_goto (tgt := 8) hx hb dX1_distance_35 (by decide) ?_
        exact hL2 (fX1_near g_right g_down x3_1) (x5_1 + 1) hf _ _ _ ⟨hP, hD, hS⟩ (lv_sub hl [2, 3, 1, 0] rfl)
      · have hf := qob_f hf c4
        refine lv_iload hx hb dX1_distance_23 (lv_at hl 3 rfl) ?_
        have hf := qob_esc hf
        have hf := qob_esc hf
        cases qob_ret hf
        exact ct_iret X hQ hK hP hD hS rfl dX1_distance_25
theorem inwX1_turnedPlace_X1 : ∀ w ∈ wsX10, w ∈ wsX1_turnedPlace := fun _ h => List.mem_cons_of_mem _ (List.mem_append_right _ h)
abbrev rmX1_turnedPlace : Room := { frames := 0, cells := 0, slots := 0, locals := 0 }
theorem hdX1_turnedPlace : yX1_turnedPlace.cls = RX1 ∧ yX1_turnedPlace.cls ≠ "java/lang/invoke/MethodHandle" ∧ yX1_turnedPlace.cls ≠ "java/lang/invoke/VarHandle" ∧ (parseMethodDescriptor yX1_turnedPlace.desc).map (fun d => d.parameters.length) = some 2 := by decide +kernel
set_option maxHeartbeats 4000000 in
set_option maxRecDepth 100000 in
theorem KX1_turnedPlace {l : Launch} {D : va_G} {cy : Nat → ClassId} {g : Nat} {g_rows : Int32} {g_columns : Int32} {g_a : Int32} {g_b : Int32} {g_cells : Int64} {g_right : Int64} {g_down : Int64} {p1 : Int32} {p2 : Int32} {r : Int32} (hf : fX1_turnedPlace g_rows g_columns p1 p2 = r) : CtI l yX1_turnedPlace wsX1_turnedPlace rmX1_turnedPlace D cy [.ref g, .int p1, .int p2] ([oX1 g g_rows g_columns g_a g_b g_cells g_right g_down]) ([oX1 g g_rows g_columns g_a g_b g_cells g_right g_down]) r := by
  refine CtI.of (cc := cX1_turnedPlace) (maxL := 5) (ret := some .int) (own := RX1) (by decide) rfl rfl (Nat.le_of_ble_eq_true rfl) ?_
  intro p e s m args below meth c A Q X hQ hK hP hD hS ls hl
  obtain ⟨hx, hb, hml, hown, hts, hr, hlocks, hA, hZ⟩ := id X
  have hl : lv_has ls 5 [(0, .ref g), (1, .int p1), (2, .int p2)] := hl
  unfold fX1_turnedPlace at hf
  have hf := qbb_top hf
  refine lv_iload_n hx hb dX1_turnedPlace_0 rfl (lv_at hl 1 rfl) ?_
  refine lv_bipush (v := 8) hx hb dX1_turnedPlace_1 (by decide) ?_
  refine lv_idiv hx hb dX1_turnedPlace_3 (by decide) ?_
  refine lv_istore_n (lv' := [(3, .int (p1 / 8)), (0, .ref g), (1, .int p1), (2, .int p2)]) hx hb dX1_turnedPlace_4 rfl hl (by decide) rfl (fun ls hl => ?_)
  refine lv_iload_n hx hb dX1_turnedPlace_5 rfl (lv_at hl 3 rfl) ?_
  refine lv_iconst (v := 4) hx hb dX1_turnedPlace_6 (by decide) ?_
  refine qbjoin1 hf (fun (s_1 : Int32) => ∀ (H : Heap) (locs : List Loc) (ls : Array Slot), ctW D A s ([oX1 g g_rows g_columns g_a g_b g_cells g_right g_down]) H locs → lv_has ls 5 [(0, .ref g), (2, .int p2), (3, .int (p1 / 8))] → W p l e rmX1_turnedPlace s m args below meth c H locs 0 0 Q (F0 m 28 ls [.int s_1])) ?_ ?_
  · intro s_1 hf H locs ls ⟨hP, hD, hS⟩ hl
    refine lv_istore (lv' := [(4, .int s_1), (0, .ref g), (2, .int p2), (3, .int (p1 / 8))]) hx hb dX1_turnedPlace_28 hl (by decide) rfl (fun ls hl => ?_)
    refine lv_iload_n hx hb dX1_turnedPlace_30 rfl (lv_at hl 2 rfl) ?_
    refine lv_iconst (v := 4) hx hb dX1_turnedPlace_31 (by decide) ?_
    refine lv_irem hx hb dX1_turnedPlace_32 (by decide) ?_
    refine lv_topi (fun k_1 e1 => ?_)
    have hf := qbb_bd hf e1
    by_cases c2_1 : k_1 = 1
    · have hf := qbb_t hf c2_1
      refine lv_tableIn (off := 27) (tgt := 60) hx hb dX1_turnedPlace_33 (by rw [c2_1]; decide) (by rw [c2_1]; decide) (by rw [c2_1]; rfl) (by decide) ?_
      refine lv_iload hx hb dX1_turnedPlace_60 (lv_at hl 0 rfl) ?_
      refine lv_bipush (v := 8) hx hb dX1_turnedPlace_62 (by decide) ?_
      refine lv_imul hx hb dX1_turnedPlace_64 ?_
      refine lv_aload_n hx hb dX1_turnedPlace_65 rfl (lv_at hl 1 rfl) ?_
      refine va_get (D := D) (ci := 1) (v := .int g_rows) (C := RX1) (T := TX1) (N := 7) hx hb hts inwX1_turnedPlace_X1 hown hK hP 0 rfl rfl 0 (by decide) (hts (.fieldLink RX1 21 "HedgeWays$Grid" "rows" "I") (List.mem_of_getElem? (i := 2) rfl)) (fun _ h9 => h9) rfl dX1_turnedPlace_66 ?_
      refine lv_iadd hx hb dX1_turnedPlace_69 ?_
      refine lv_iconst (v := 1) hx hb dX1_turnedPlace_70 (by decide) ?_
      refine lv_isub hx hb dX1_turnedPlace_71 ?_
      refine lv_iload_n hx hb dX1_turnedPlace_72 rfl (lv_at hl 3 rfl) ?_
      refine lv_isub hx hb dX1_turnedPlace_73 ?_
      cases qbb_ret hf
      exact ct_iret X hQ hK hP hD hS rfl dX1_turnedPlace_74
    · have hf := qbb_f hf c2_1
      by_cases c2_2 : k_1 = 2
      · have hf := qbb_t hf c2_2
        refine lv_tableIn (off := 42) (tgt := 75) hx hb dX1_turnedPlace_33 (by rw [c2_2]; decide) (by rw [c2_2]; decide) (by rw [c2_2]; rfl) (by decide) ?_
        refine lv_aload_n hx hb dX1_turnedPlace_75 rfl (lv_at hl 1 rfl) ?_
        refine va_get (D := D) (ci := 1) (v := .int g_rows) (C := RX1) (T := TX1) (N := 7) hx hb hts inwX1_turnedPlace_X1 hown hK hP 0 rfl rfl 0 (by decide) (hts (.fieldLink RX1 21 "HedgeWays$Grid" "rows" "I") (List.mem_of_getElem? (i := 2) rfl)) (fun _ h9 => h9) rfl dX1_turnedPlace_76 ?_
        refine lv_iconst (v := 1) hx hb dX1_turnedPlace_79 (by decide) ?_
        refine lv_isub hx hb dX1_turnedPlace_80 ?_
        refine lv_iload_n hx hb dX1_turnedPlace_81 rfl (lv_at hl 3 rfl) ?_
        refine lv_isub hx hb dX1_turnedPlace_82 ?_
        refine lv_bipush (v := 8) hx hb dX1_turnedPlace_83 (by decide) ?_
        refine lv_imul hx hb dX1_turnedPlace_85 ?_
        refine lv_aload_n hx hb dX1_turnedPlace_86 rfl (lv_at hl 1 rfl) ?_
        refine va_get (D := D) (ci := 1) (v := .int g_columns) (C := RX1) (T := TX1) (N := 7) hx hb hts inwX1_turnedPlace_X1 hown hK hP 0 rfl rfl 1 (by decide) (hts (.fieldLink RX1 25 "HedgeWays$Grid" "columns" "I") (List.mem_of_getElem? (i := 1) rfl)) (fun _ h9 => h9) rfl dX1_turnedPlace_87 ?_
        refine lv_iadd hx hb dX1_turnedPlace_90 ?_
        refine lv_iconst (v := 1) hx hb dX1_turnedPlace_91 (by decide) ?_
        refine lv_isub hx hb dX1_turnedPlace_92 ?_
        refine lv_iload hx hb dX1_turnedPlace_93 (lv_at hl 0 rfl) ?_
        refine lv_isub hx hb dX1_turnedPlace_95 ?_
        cases qbb_ret hf
        exact ct_iret X hQ hK hP hD hS rfl dX1_turnedPlace_96
      · have hf := qbb_f hf c2_2
        by_cases c2_3 : k_1 = 3
        · have hf := qbb_t hf c2_3
          refine lv_tableIn (off := 64) (tgt := 97) hx hb dX1_turnedPlace_33 (by rw [c2_3]; decide) (by rw [c2_3]; decide) (by rw [c2_3]; rfl) (by decide) ?_
          refine lv_aload_n hx hb dX1_turnedPlace_97 rfl (lv_at hl 1 rfl) ?_
          refine va_get (D := D) (ci := 1) (v := .int g_columns) (C := RX1) (T := TX1) (N := 7) hx hb hts inwX1_turnedPlace_X1 hown hK hP 0 rfl rfl 1 (by decide) (hts (.fieldLink RX1 25 "HedgeWays$Grid" "columns" "I") (List.mem_of_getElem? (i := 1) rfl)) (fun _ h9 => h9) rfl dX1_turnedPlace_98 ?_
          refine lv_iconst (v := 1) hx hb dX1_turnedPlace_101 (by decide) ?_
          refine lv_isub hx hb dX1_turnedPlace_102 ?_
          refine lv_iload hx hb dX1_turnedPlace_103 (lv_at hl 0 rfl) ?_
          refine lv_isub hx hb dX1_turnedPlace_105 ?_
          refine lv_bipush (v := 8) hx hb dX1_turnedPlace_106 (by decide) ?_
          refine lv_imul hx hb dX1_turnedPlace_108 ?_
          refine lv_iload_n hx hb dX1_turnedPlace_109 rfl (lv_at hl 3 rfl) ?_
          refine lv_iadd hx hb dX1_turnedPlace_110 ?_
          cases qbb_ret hf
          exact ct_iret X hQ hK hP hD hS rfl dX1_turnedPlace_111
        · have hf := qbb_f hf c2_3
          refine lv_tableOut (tgt := 112) hx hb dX1_turnedPlace_33 (by have g1 := lv_neT c2_1 (a := 1) rfl; have g2 := lv_neT c2_2 (a := 2) rfl; have g3 := lv_neT c2_3 (a := 3) rfl; omega) (by decide) ?_
          refine lv_iload_n hx hb dX1_turnedPlace_112 rfl (lv_at hl 3 rfl) ?_
          refine lv_bipush (v := 8) hx hb dX1_turnedPlace_113 (by decide) ?_
          refine lv_imul hx hb dX1_turnedPlace_115 ?_
          refine lv_iload hx hb dX1_turnedPlace_116 (lv_at hl 0 rfl) ?_
          refine lv_iadd hx hb dX1_turnedPlace_118 ?_
          cases qbb_ret hf
          exact ct_iret X hQ hK hP hD hS rfl dX1_turnedPlace_119
  · intro J3 hJ3 hf
    refine lv_icmp_lt (tgt := 24) hx hb dX1_turnedPlace_7 (by decide) (fun c4 => ?_) (fun c4 => ?_)
    · have hf := qbb_t hf c4
      refine lv_iload_n hx hb dX1_turnedPlace_24 rfl (lv_at hl 2 rfl) ?_
      refine lv_bipush (v := 8) hx hb dX1_turnedPlace_25 (by decide) ?_
      refine lv_irem hx hb dX1_turnedPlace_27 (by decide) ?_
      exact hJ3 (qrem p1 8) hf _ _ _ ⟨hP, hD, hS⟩ (lv_sub hl [1, 3, 0] rfl)
    · have hf := qbb_f hf c4
      refine lv_aload_n hx hb dX1_turnedPlace_10 rfl (lv_at hl 1 rfl) ?_
      refine va_get (D := D) (ci := 1) (v := .int g_columns) (C := RX1) (T := TX1) (N := 7) hx hb hts inwX1_turnedPlace_X1 hown hK hP 0 rfl rfl 1 (by decide) (hts (.fieldLink RX1 25 "HedgeWays$Grid" "columns" "I") (List.mem_of_getElem? (i := 1) rfl)) (fun _ h9 => h9) rfl dX1_turnedPlace_11 ?_
      refine lv_iconst (v := 1) hx hb dX1_turnedPlace_14 (by decide) ?_
      refine lv_isub hx hb dX1_turnedPlace_15 ?_
      refine lv_iload_n hx hb dX1_turnedPlace_16 rfl (lv_at hl 2 rfl) ?_
      refine lv_bipush (v := 8) hx hb dX1_turnedPlace_17 (by decide) ?_
      refine lv_irem hx hb dX1_turnedPlace_19 (by decide) ?_
      refine lv_isub hx hb dX1_turnedPlace_20 ?_
      refine lv_goto (tgt := 28) hx hb dX1_turnedPlace_21 (by decide) ?_
      exact hJ3 ((g_columns - 1) - (qrem p1 8)) hf _ _ _ ⟨hP, hD, hS⟩ (lv_sub hl [1, 3, 0] rfl)
abbrev rmX1_turnedSide : Room := { frames := 0, cells := 0, slots := 0, locals := 0 }
theorem hdX1_turnedSide : yX1_turnedSide.cls ≠ "java/lang/invoke/MethodHandle" ∧ yX1_turnedSide.cls ≠ "java/lang/invoke/VarHandle" ∧ (parseMethodDescriptor yX1_turnedSide.desc).map (fun d => d.parameters.length) = some 2 := by decide +kernel
set_option maxHeartbeats 4000000 in
set_option maxRecDepth 100000 in
theorem KX1_turnedSide {l : Launch} {D : va_G} {cy : Nat → ClassId}  {p1 : Int32} {p2 : Int32} {r : Int32} (hf : fX1_turnedSide p1 p2 = r) : CtI l yX1_turnedSide wsX1_turnedSide rmX1_turnedSide D cy [.int p1, .int p2] ([]) ([]) r := by
  refine CtI.of (cc := cX1_turnedSide) (maxL := 3) (ret := some .int) (own := RX1) (by decide) rfl rfl (Nat.le_of_ble_eq_true rfl) ?_
  intro p e s m args below meth c A Q X hQ hK hP hD hS ls hl
  obtain ⟨hx, hb, hml, hown, hts, hr, hlocks, hA, hZ⟩ := id X
  have hl : lv_has ls 3 [(0, .int p1), (1, .int p2)] := hl
  unfold fX1_turnedSide at hf
  have hf := qbb_top hf
  refine lv_iload_n hx hb dX1_turnedSide_0 rfl (lv_at hl 1 rfl) ?_
  refine lv_iconst (v := 4) hx hb dX1_turnedSide_1 (by decide) ?_
  refine qbjoin1 hf (fun (s_1 : Int32) => ∀ (H : Heap) (locs : List Loc) (ls : Array Slot), ctW D A s ([]) H locs → lv_has ls 3 [(1, .int p2)] → W p l e rmX1_turnedSide s m args below meth c H locs 0 0 Q (F0 m 12 ls [.int s_1])) ?_ ?_
  · intro s_1 hf H locs ls ⟨hP, hD, hS⟩ hl
    refine lv_istore_n (lv' := [(2, .int s_1), (1, .int p2)]) hx hb dX1_turnedSide_12 rfl hl (by decide) rfl (fun ls hl => ?_)
    refine lv_iload_n hx hb dX1_turnedSide_13 rfl (lv_at hl 0 rfl) ?_
    refine lv_iload_n hx hb dX1_turnedSide_14 rfl (lv_at hl 1 rfl) ?_
    refine lv_iadd hx hb dX1_turnedSide_15 ?_
    refine lv_iconst (v := 4) hx hb dX1_turnedSide_16 (by decide) ?_
    refine lv_irem hx hb dX1_turnedSide_17 (by decide) ?_
    cases qbb_ret hf
    exact ct_iret X hQ hK hP hD hS rfl dX1_turnedSide_18
  · intro J1 hJ1 hf
    refine lv_icmp_lt (tgt := 11) hx hb dX1_turnedSide_2 (by decide) (fun c2 => ?_) (fun c2 => ?_)
    · have hf := qbb_t hf c2
      refine lv_iload_n hx hb dX1_turnedSide_11 rfl (lv_at hl 0 rfl) ?_
      exact hJ1 p1 hf _ _ _ ⟨hP, hD, hS⟩ (lv_sub hl [1] rfl)
    · have hf := qbb_f hf c2
      refine lv_iconst (v := 4) hx hb dX1_turnedSide_5 (by decide) ?_
      refine lv_iload_n hx hb dX1_turnedSide_6 rfl (lv_at hl 0 rfl) ?_
      refine lv_isub hx hb dX1_turnedSide_7 ?_
      refine lv_goto (tgt := 12) hx hb dX1_turnedSide_8 (by decide) ?_
      exact hJ1 (4 - p1) hf _ _ _ ⟨hP, hD, hS⟩ (lv_sub hl [1] rfl)
theorem inwX1_turnOf_X1 : ∀ w ∈ wsX10, w ∈ wsX1_turnOf := fun _ h => List.mem_cons_of_mem _ (List.mem_append_right _ h)
abbrev rmX1_turnOf : Room := { frames := 3, cells := 0, slots := 0, locals := 71 }
theorem hdX1_turnOf : yX1_turnOf.cls = RX1 ∧ yX1_turnOf.cls ≠ "java/lang/invoke/MethodHandle" ∧ yX1_turnOf.cls ≠ "java/lang/invoke/VarHandle" ∧ (parseMethodDescriptor yX1_turnOf.desc).map (fun d => d.parameters.length) = some 2 := by decide +kernel
set_option maxHeartbeats 4000000 in
set_option maxRecDepth 100000 in
theorem KX1_turnOf {l : Launch} {D : va_G} {cy : Nat → ClassId} {g o : Nat} {g_rows : Int32} {g_columns : Int32} {g_a : Int32} {g_b : Int32} {g_cells : Int64} {g_right : Int64} {g_down : Int64} {o_rows : Int32} {o_columns : Int32} {o_a : Int32} {o_b : Int32} {o_cells : Int64} {o_right : Int64} {o_down : Int64} {p2 : Int32} {g_rows' : Int32} {g_columns' : Int32} {g_a' : Int32} {g_b' : Int32} {g_cells' : Int64} {g_right' : Int64} {g_down' : Int64} (hf : fX1_turnOf g_rows g_columns g_a g_b g_cells g_right g_down o_rows o_columns o_a o_b o_right o_down p2 = some (g_rows', g_columns', g_a', g_b', g_cells', g_right', g_down')) : CtV l yX1_turnOf wsX1_turnOf rmX1_turnOf D cy [.ref g, .ref o, .int p2] ([oX1 g g_rows g_columns g_a g_b g_cells g_right g_down, oX1 o o_rows o_columns o_a o_b o_cells o_right o_down]) ([oX1 g g_rows' g_columns' g_a' g_b' g_cells' g_right' g_down', oX1 o o_rows o_columns o_a o_b o_cells o_right o_down]) := by
  refine CtV.of (cc := cX1_turnOf) (maxL := 6) (ret := none) (own := RX1) (by decide) rfl rfl (Nat.le_of_ble_eq_true rfl) ?_
  intro p e s m args below meth c A Q X hQ hK hP hD hS ls hl
  obtain ⟨hx, hb, hml, hown, hts, hr, hlocks, hA, hZ⟩ := id X
  have hl : lv_has ls 6 [(0, .ref g), (1, .ref o), (2, .int p2)] := hl
  unfold fX1_turnOf at hf
  have hf := qob_top hf
  refine lv_iload_n hx hb dX1_turnOf_0 rfl (lv_at hl 2 rfl) ?_
  refine lv_iconst (v := 2) hx hb dX1_turnOf_1 (by decide) ?_
  refine lv_irem hx hb dX1_turnOf_2 (by decide) ?_
  refine lv_iconst (v := 1) hx hb dX1_turnOf_3 (by decide) ?_
  refine qjoin1 hf (fun (s_1 : Int32) => ∀ (H : Heap) (locs : List Loc) (ls : Array Slot), ctW D A s ([oX1 g g_rows g_columns g_a g_b g_cells g_right g_down, oX1 o o_rows o_columns o_a o_b o_cells o_right o_down]) H locs → lv_has ls 6 [(0, .ref g), (1, .ref o), (2, .int p2)] → W p l e rmX1_turnOf s m args below meth c H locs 0 0 Q (F0 m 12 ls [.int s_1])) ?_ ?_
  · intro s_1 hf H locs ls ⟨hP, hD, hS⟩ hl
    refine lv_istore_n (lv' := [(3, .int s_1), (0, .ref g), (1, .ref o), (2, .int p2)]) hx hb dX1_turnOf_12 rfl hl (by decide) rfl (fun ls hl => ?_)
    refine lv_aload_n hx hb dX1_turnOf_13 rfl (lv_at hl 1 rfl) ?_
    refine lv_iload_n hx hb dX1_turnOf_14 rfl (lv_at hl 0 rfl) ?_
    refine qjoin1 hf (fun (s_2 : Int32) => ∀ (H : Heap) (locs : List Loc) (ls : Array Slot), ctW D A s ([oX1 g g_rows g_columns g_a g_b g_cells g_right g_down, oX1 o o_rows o_columns o_a o_b o_cells o_right o_down]) H locs → lv_has ls 6 [(0, .ref g), (1, .ref o), (2, .int p2), (3, .int s_1)] → W p l e rmX1_turnOf s m args below meth c H locs 0 0 Q (F0 m 29 ls [.int s_2, .ref g])) ?_ ?_
    · intro s_2 hf H locs ls ⟨hP, hD, hS⟩ hl
      refine lv_iload_n hx hb dX1_turnOf_29 rfl (lv_at hl 3 rfl) ?_
      refine qjoin1 hf (fun (s_3 : Int32) => ∀ (H : Heap) (locs : List Loc) (ls : Array Slot), ctW D A s ([oX1 g g_rows g_columns g_a g_b g_cells g_right g_down, oX1 o o_rows o_columns o_a o_b o_cells o_right o_down]) H locs → lv_has ls 6 [(0, .ref g), (1, .ref o), (2, .int p2)] → W p l e rmX1_turnOf s m args below meth c H locs 0 0 Q (F0 m 44 ls [.int s_3, .int s_2, .ref g])) ?_ ?_
      · intro s_3 hf H locs ls ⟨hP, hD, hS⟩ hl
        obtain ⟨g_rows_1, g_columns_1, g_a_1, g_b_1, g_cells_1, g_right_1, g_down_1, q1, hf⟩ := qcall7 hf
        refine ctV_v (wc := [oX1 g g_rows g_columns g_a g_b g_cells g_right g_down]) (w1 := [oX1 g g_rows_1 g_columns_1 g_a_1 g_b_1 g_cells_1 g_right_1 g_down_1]) (wr := [oX1 o o_rows o_columns o_a o_b o_cells o_right o_down]) (wn := [oX1 g g_rows_1 g_columns_1 g_a_1 g_b_1 g_cells_1 g_right_1 g_down_1, oX1 o o_rows o_columns o_a o_b o_cells o_right o_down]) (As := [.int s_2, .int s_3]) (rest := []) (q0 := 0) X hK hP hD hS [0] [1] [1, 0] rfl rfl rfl rfl rfl (by decide) rfl rfl rfl (KX1_shutAll q1 _) (cwV 2 hts gX1_turnOf_X1_shutAll rfl rfl rfl hdX1_shutAll ⟨Nat.le_of_ble_eq_true rfl, Nat.le_of_ble_eq_true rfl⟩) rfl rfl rfl hl rfl (Nat.le_of_ble_eq_true rfl) dX1_turnOf_44 (Nat.zero_le _) (Nat.zero_le _) (fun H locs hP hD hS => ?_)
        refine lv_iconst (v := 0) hx hb dX1_turnOf_47 (by decide) ?_
        refine lv_istore (lv' := [(4, .int 0), (0, .ref g), (1, .ref o), (2, .int p2)]) hx hb dX1_turnOf_48 hl (by decide) rfl (fun ls hl => ?_)
        refine qjoin2 hf (fun (g_right_2 : Int64) (g_down_2 : Int64) => ∀ (H : Heap) (locs : List Loc) (ls : Array Slot), ctW D A s ([oX1 g g_rows_1 g_columns_1 g_a_1 g_b_1 g_cells_1 g_right_2 g_down_2, oX1 o o_rows o_columns o_a o_b o_cells o_right o_down]) H locs → lv_has ls 6 [(0, .ref g), (1, .ref o), (2, .int p2)] → W p l e rmX1_turnOf s m args below meth c H locs 0 0 Q (F0 m 107 ls [])) ?_ ?_
        · intro g_right_2 g_down_2 hf H locs ls ⟨hP, hD, hS⟩ hl
          refine lv_aload_n hx hb dX1_turnOf_107 rfl (lv_at hl 0 rfl) ?_
          refine lv_aload_n hx hb dX1_turnOf_108 rfl (lv_at hl 1 rfl) ?_
          refine lv_aload_n hx hb dX1_turnOf_109 rfl (lv_at hl 1 rfl) ?_
          refine va_get (D := D) (ci := 1) (v := .int o_a) (C := RX1) (T := TX1) (N := 7) hx hb hts inwX1_turnOf_X1 hown hK hP 1 rfl rfl 2 (by decide) (hts (.fieldLink RX1 38 "HedgeWays$Grid" "a" "I") (List.mem_of_getElem? (i := 3) rfl)) (fun _ h9 => h9) rfl dX1_turnOf_110 ?_
          refine lv_iload_n hx hb dX1_turnOf_113 rfl (lv_at hl 2 rfl) ?_
          refine ctV_i0 (r := (fX1_turnedPlace o_rows o_columns o_a p2)) (wc := [oX1 o o_rows o_columns o_a o_b o_cells o_right o_down]) (As := [.int o_a, .int p2]) (rest := [.ref g]) (q0 := 1) X hK hP hD hS [1] rfl rfl rfl (KX1_turnedPlace rfl _) (cwV 2 hts gX1_turnOf_X1_turnedPlace rfl rfl rfl hdX1_turnedPlace ⟨Nat.le_of_ble_eq_true rfl, Nat.le_of_ble_eq_true rfl⟩) rfl rfl rfl hl rfl (Nat.le_of_ble_eq_true rfl) dX1_turnOf_114 (Nat.zero_le _) (Nat.zero_le _) (fun H locs hP hS => ?_)
          refine lv_topi (fun g_a_2 e2 => ?_)
          have hf := qob_bd hf e2
          refine va_put (D := D) (ci := 1) (v := .int g_a_2) (ty := .int) (C := RX1) (T := TX1) (N := 7) hx hb hts inwX1_turnOf_X1 tyX1 tyX1_ok nmX1 hown hK hP hD hS 0 rfl rfl 2 (by decide) (hts (.fieldLink RX1 38 "HedgeWays$Grid" "a" "I") (List.mem_of_getElem? (i := 3) rfl)) (fun _ h9 => h9) rfl (tyX1_ok 2 (by decide)) rfl rfl (Nat.le_of_ble_eq_true rfl) dX1_turnOf_117 (fun H locs hP hD hS => ?_)
          have hP : va_P D vwCl ([oX1 g g_rows_1 g_columns_1 g_a_2 g_b_1 g_cells_1 g_right_2 g_down_2, oX1 o o_rows o_columns o_a o_b o_cells o_right o_down]) H := hP
          have hD : va_D A ([oX1 g g_rows_1 g_columns_1 g_a_2 g_b_1 g_cells_1 g_right_2 g_down_2, oX1 o o_rows o_columns o_a o_b o_cells o_right o_down]) := hD
          refine lv_aload_n hx hb dX1_turnOf_120 rfl (lv_at hl 0 rfl) ?_
          refine lv_aload_n hx hb dX1_turnOf_121 rfl (lv_at hl 1 rfl) ?_
          refine lv_aload_n hx hb dX1_turnOf_122 rfl (lv_at hl 1 rfl) ?_
          refine va_get (D := D) (ci := 1) (v := .int o_b) (C := RX1) (T := TX1) (N := 7) hx hb hts inwX1_turnOf_X1 hown hK hP 1 rfl rfl 3 (by decide) (hts (.fieldLink RX1 41 "HedgeWays$Grid" "b" "I") (List.mem_of_getElem? (i := 4) rfl)) (fun _ h9 => h9) rfl dX1_turnOf_123 ?_
          refine lv_iload_n hx hb dX1_turnOf_126 rfl (lv_at hl 2 rfl) ?_
          refine ctV_i0 (r := (fX1_turnedPlace o_rows o_columns o_b p2)) (wc := [oX1 o o_rows o_columns o_a o_b o_cells o_right o_down]) (As := [.int o_b, .int p2]) (rest := [.ref g]) (q0 := 1) X hK hP hD hS [1] rfl rfl rfl (KX1_turnedPlace rfl _) (cwV 2 hts gX1_turnOf_X1_turnedPlace rfl rfl rfl hdX1_turnedPlace ⟨Nat.le_of_ble_eq_true rfl, Nat.le_of_ble_eq_true rfl⟩) rfl rfl rfl hl rfl (Nat.le_of_ble_eq_true rfl) dX1_turnOf_127 (Nat.zero_le _) (Nat.zero_le _) (fun H locs hP hS => ?_)
          refine lv_topi (fun g_b_2 e3 => ?_)
          have hf := qob_bd hf e3
          refine va_put (D := D) (ci := 1) (v := .int g_b_2) (ty := .int) (C := RX1) (T := TX1) (N := 7) hx hb hts inwX1_turnOf_X1 tyX1 tyX1_ok nmX1 hown hK hP hD hS 0 rfl rfl 3 (by decide) (hts (.fieldLink RX1 41 "HedgeWays$Grid" "b" "I") (List.mem_of_getElem? (i := 4) rfl)) (fun _ h9 => h9) rfl (tyX1_ok 3 (by decide)) rfl rfl (Nat.le_of_ble_eq_true rfl) dX1_turnOf_130 (fun H locs hP hD hS => ?_)
          have hP : va_P D vwCl ([oX1 g g_rows_1 g_columns_1 g_a_2 g_b_2 g_cells_1 g_right_2 g_down_2, oX1 o o_rows o_columns o_a o_b o_cells o_right o_down]) H := hP
          have hD : va_D A ([oX1 g g_rows_1 g_columns_1 g_a_2 g_b_2 g_cells_1 g_right_2 g_down_2, oX1 o o_rows o_columns o_a o_b o_cells o_right o_down]) := hD
          cases qob_ret hf
          exact ct_vret X hQ hK hP hD hS dX1_turnOf_133
        · intro J4 hJ4 hf
          refine qwalk3 (fun (x4_1 : Int32) (g_right_3 : Int64) (g_down_3 : Int64) => ∀ (H : Heap) (locs : List Loc) (ls : Array Slot), ctW D A s ([oX1 g g_rows_1 g_columns_1 g_a_1 g_b_1 g_cells_1 g_right_3 g_down_3, oX1 o o_rows o_columns o_a o_b o_cells o_right o_down]) H locs → lv_has ls 6 [(0, .ref g), (1, .ref o), (2, .int p2), (4, .int x4_1)] → W p l e rmX1_turnOf s m args below meth c H locs 0 0 Q (F0 m 50 ls [])) ?_ _ (0 : Int32) g_right_1 g_down_1 hf _ _ _ ⟨hP, hD, hS⟩ (lv_sub hl [1, 2, 3, 0] rfl)
          intro J5 hL5 x4_1 g_right_3 g_down_3 hf H locs ls ⟨hP, hD, hS⟩ hl
          refine lv_iload hx hb dX1_turnOf_50 (lv_at hl 3 rfl) ?_
          refine lv_bipush (v := 48) hx hb dX1_turnOf_52 (by decide) ?_
          refine lv_icmp_ge (tgt := 107) hx hb dX1_turnOf_54 (by decide) (fun c6 => ?_) (fun c6 => ?_)
          · have hf := qob_t hf c6
            have hf := qob_esc hf
            exact hJ4 g_right_3 g_down_3 hf _ _ _ ⟨hP, hD, hS⟩ (lv_sub hl [0, 1, 2] rfl)
          · have hf := qob_f hf c6
            refine lv_iconst (v := 1) hx hb dX1_turnOf_57 (by decide) ?_
            refine lv_istore (lv' := [(5, .int 1), (0, .ref g), (1, .ref o), (2, .int p2), (4, .int x4_1)]) hx hb dX1_turnOf_58 hl (by decide) rfl (fun ls hl => ?_)
            refine qjoin2 hf (fun (g_right_4 : Int64) (g_down_4 : Int64) => ∀ (H : Heap) (locs : List Loc) (ls : Array Slot), ctW D A s ([oX1 g g_rows_1 g_columns_1 g_a_1 g_b_1 g_cells_1 g_right_4 g_down_4, oX1 o o_rows o_columns o_a o_b o_cells o_right o_down]) H locs → lv_has ls 6 [(0, .ref g), (1, .ref o), (2, .int p2), (4, .int x4_1)] → W p l e rmX1_turnOf s m args below meth c H locs 0 0 Q (F0 m 101 ls [])) ?_ ?_
            · intro g_right_4 g_down_4 hf H locs ls ⟨hP, hD, hS⟩ hl
              refine lv_iinc (v := (x4_1 + 1)) (lv' := [(4, .int (x4_1 + 1)), (0, .ref g), (1, .ref o), (2, .int p2)]) hx hb dX1_turnOf_101 hl (k := 3) rfl rfl (by decide) rfl (fun ls hl => ?_)
              refine lv_goto (tgt := 50) hx hb dX1_turnOf_104 (by decide) ?_
              exact hL5 (x4_1 + 1) g_right_4 g_down_4 hf _ _ _ ⟨hP, hD, hS⟩ (lv_sub hl [1, 2, 3, 0] rfl)
            · intro J7 hJ7 hf
              refine qwalk3 (fun (x5_1 : Int32) (g_right_5 : Int64) (g_down_5 : Int64) => ∀ (H : Heap) (locs : List Loc) (ls : Array Slot), ctW D A s ([oX1 g g_rows_1 g_columns_1 g_a_1 g_b_1 g_cells_1 g_right_5 g_down_5, oX1 o o_rows o_columns o_a o_b o_cells o_right o_down]) H locs → lv_has ls 6 [(0, .ref g), (1, .ref o), (2, .int p2), (4, .int x4_1), (5, .int x5_1)] → W p l e rmX1_turnOf s m args below meth c H locs 0 0 Q (F0 m 60 ls [])) ?_ _ (1 : Int32) g_right_3 g_down_3 hf _ _ _ ⟨hP, hD, hS⟩ (lv_sub hl [1, 2, 3, 4, 0] rfl)
              intro J8 hL8 x5_1 g_right_5 g_down_5 hf H locs ls ⟨hP, hD, hS⟩ hl
              refine lv_iload hx hb dX1_turnOf_60 (lv_at hl 4 rfl) ?_
              refine lv_iconst (v := 2) hx hb dX1_turnOf_62 (by decide) ?_
              refine lv_icmp_gt (tgt := 101) hx hb dX1_turnOf_63 (by decide) (fun c9 => ?_) (fun c9 => ?_)
              · have hf := qob_t hf c9
                have hf := qob_esc hf
                exact hJ7 g_right_5 g_down_5 hf _ _ _ ⟨hP, hD, hS⟩ (lv_sub hl [0, 1, 2, 3] rfl)
              · have hf := qob_f hf c9
                refine lv_aload_n hx hb dX1_turnOf_66 rfl (lv_at hl 1 rfl) ?_
                refine lv_iload hx hb dX1_turnOf_67 (lv_at hl 3 rfl) ?_
                refine lv_iload hx hb dX1_turnOf_69 (lv_at hl 4 rfl) ?_
                refine ctV_i0 (r := (fX1_isOpen o_right o_down x4_1 x5_1)) (wc := [oX1 o o_rows o_columns o_a o_b o_cells o_right o_down]) (As := [.int x4_1, .int x5_1]) (rest := []) (q0 := 1) X hK hP hD hS [1] rfl rfl rfl (KX1_isOpen rfl _) (cwV 2 hts gX1_turnOf_X1_isOpen rfl rfl rfl hdX1_isOpen ⟨Nat.le_of_ble_eq_true rfl, Nat.le_of_ble_eq_true rfl⟩) rfl rfl rfl hl rfl (Nat.le_of_ble_eq_true rfl) dX1_turnOf_71 (Nat.zero_le _) (Nat.zero_le _) (fun H locs hP hS => ?_)
                refine lv_if_eq (tgt := 95) hx hb dX1_turnOf_74 (by decide) (fun c10 => ?_) (fun c10 => ?_)
                · have hf := qob_t hf c10
                  refine lv_iinc (v := (x5_1 + 1)) (lv' := [(5, .int (x5_1 + 1)), (0, .ref g), (1, .ref o), (2, .int p2), (4, .int x4_1)]) hx hb dX1_turnOf_95 hl (k := 4) rfl rfl (by decide) rfl (fun ls hl => ?_)
                  refine lv_goto (tgt := 60) hx hb dX1_turnOf_98 (by decide) ?_
                  exact hL8 (x5_1 + 1) g_right_5 g_down_5 hf _ _ _ ⟨hP, hD, hS⟩ (lv_sub hl [1, 2, 3, 4, 0] rfl)
                · have hf := qob_f hf c10
                  refine lv_aload_n hx hb dX1_turnOf_77 rfl (lv_at hl 0 rfl) ?_
                  refine lv_aload_n hx hb dX1_turnOf_78 rfl (lv_at hl 1 rfl) ?_
                  refine lv_iload hx hb dX1_turnOf_79 (lv_at hl 3 rfl) ?_
                  refine lv_iload_n hx hb dX1_turnOf_81 rfl (lv_at hl 2 rfl) ?_
                  refine ctV_i0 (r := (fX1_turnedPlace o_rows o_columns x4_1 p2)) (wc := [oX1 o o_rows o_columns o_a o_b o_cells o_right o_down]) (As := [.int x4_1, .int p2]) (rest := [.ref g]) (q0 := 1) X hK hP hD hS [1] rfl rfl rfl (KX1_turnedPlace rfl _) (cwV 2 hts gX1_turnOf_X1_turnedPlace rfl rfl rfl hdX1_turnedPlace ⟨Nat.le_of_ble_eq_true rfl, Nat.le_of_ble_eq_true rfl⟩) rfl rfl rfl hl rfl (Nat.le_of_ble_eq_true rfl) dX1_turnOf_82 (Nat.zero_le _) (Nat.zero_le _) (fun H locs hP hS => ?_)
                  refine lv_iload hx hb dX1_turnOf_85 (lv_at hl 4 rfl) ?_
                  refine lv_iload_n hx hb dX1_turnOf_87 rfl (lv_at hl 2 rfl) ?_
                  refine ctS_i0 (r := (fX1_turnedSide x5_1 p2)) (wc := []) (As := [.int x5_1, .int p2]) (rest := [.int (fX1_turnedPlace o_rows o_columns x4_1 p2), .ref g]) X hK hP hD hS [] rfl rfl rfl (KX1_turnedSide rfl _) (va_cwS 2 hts gX1_turnOf_X1_turnedSide rfl rfl rfl hdX1_turnedSide ⟨Nat.le_of_ble_eq_true rfl, Nat.le_of_ble_eq_true rfl⟩) rfl hl rfl (Nat.le_of_ble_eq_true rfl) dX1_turnOf_88 (Nat.zero_le _) (Nat.zero_le _) (fun H locs hP hS => ?_)
                  refine lv_iconst (v := 1) hx hb dX1_turnOf_91 (by decide) ?_
                  obtain ⟨g_right_6, g_down_6, q11, hf⟩ := qcallT2 hf
                  refine ctV_v (wc := [oX1 g g_rows_1 g_columns_1 g_a_1 g_b_1 g_cells_1 g_right_5 g_down_5]) (w1 := [oX1 g g_rows_1 g_columns_1 g_a_1 g_b_1 g_cells_1 g_right_6 g_down_6]) (wr := [oX1 o o_rows o_columns o_a o_b o_cells o_right o_down]) (wn := [oX1 g g_rows_1 g_columns_1 g_a_1 g_b_1 g_cells_1 g_right_6 g_down_6, oX1 o o_rows o_columns o_a o_b o_cells o_right o_down]) (As := [.int (fX1_turnedPlace o_rows o_columns x4_1 p2), .int (fX1_turnedSide x5_1 p2), .int 1]) (rest := []) (q0 := 0) X hK hP hD hS [0] [1] [1, 0] rfl rfl rfl rfl rfl (by decide) rfl rfl rfl (KX1_setOpen q11 _) (cwV 3 hts gX1_turnOf_X1_setOpen rfl rfl rfl hdX1_setOpen ⟨Nat.le_of_ble_eq_true rfl, Nat.le_of_ble_eq_true rfl⟩) rfl rfl rfl hl rfl (Nat.le_of_ble_eq_true rfl) dX1_turnOf_92 (Nat.zero_le _) (Nat.zero_le _) (fun H locs hP hD hS => ?_)
                  refine lv_iinc (v := (x5_1 + 1)) (lv' := [(5, .int (x5_1 + 1)), (0, .ref g), (1, .ref o), (2, .int p2), (4, .int x4_1)]) hx hb dX1_turnOf_95 hl (k := 4) rfl rfl (by decide) rfl (fun ls hl => ?_)
                  refine lv_goto (tgt := 60) hx hb dX1_turnOf_98 (by decide) ?_
                  exact hL8 (x5_1 + 1) g_right_6 g_down_6 hf _ _ _ ⟨hP, hD, hS⟩ (lv_sub hl [1, 2, 3, 4, 0] rfl)
      · intro J12 hJ12 hf
        refine lv_if_eq (tgt := 40) hx hb dX1_turnOf_30 (by decide) (fun c13 => ?_) (fun c13 => ?_)
        · have hf := qob_t hf c13
          refine lv_aload_n hx hb dX1_turnOf_40 rfl (lv_at hl 1 rfl) ?_
          refine va_get (D := D) (ci := 1) (v := .int o_columns) (C := RX1) (T := TX1) (N := 7) hx hb hts inwX1_turnOf_X1 hown hK hP 1 rfl rfl 1 (by decide) (hts (.fieldLink RX1 25 "HedgeWays$Grid" "columns" "I") (List.mem_of_getElem? (i := 1) rfl)) (fun _ h9 => h9) rfl dX1_turnOf_41 ?_
          exact hJ12 o_columns hf _ _ _ ⟨hP, hD, hS⟩ (lv_sub hl [0, 1, 2] rfl)
        · have hf := qob_f hf c13
          refine lv_aload_n hx hb dX1_turnOf_33 rfl (lv_at hl 1 rfl) ?_
          refine va_get (D := D) (ci := 1) (v := .int o_rows) (C := RX1) (T := TX1) (N := 7) hx hb hts inwX1_turnOf_X1 hown hK hP 1 rfl rfl 0 (by decide) (hts (.fieldLink RX1 21 "HedgeWays$Grid" "rows" "I") (List.mem_of_getElem? (i := 2) rfl)) (fun _ h9 => h9) rfl dX1_turnOf_34 ?_
          refine lv_goto (tgt := 44) hx hb dX1_turnOf_37 (by decide) ?_
          exact hJ12 o_rows hf _ _ _ ⟨hP, hD, hS⟩ (lv_sub hl [0, 1, 2] rfl)
    · intro J14 hJ14 hf
      refine lv_if_eq (tgt := 25) hx hb dX1_turnOf_15 (by decide) (fun c15 => ?_) (fun c15 => ?_)
      · have hf := qob_t hf c15
        refine lv_aload_n hx hb dX1_turnOf_25 rfl (lv_at hl 2 rfl) ?_
        refine va_get (D := D) (ci := 1) (v := .int o_rows) (C := RX1) (T := TX1) (N := 7) hx hb hts inwX1_turnOf_X1 hown hK hP 1 rfl rfl 0 (by decide) (hts (.fieldLink RX1 21 "HedgeWays$Grid" "rows" "I") (List.mem_of_getElem? (i := 2) rfl)) (fun _ h9 => h9) rfl dX1_turnOf_26 ?_
        exact hJ14 o_rows hf _ _ _ ⟨hP, hD, hS⟩ (lv_sub hl [1, 2, 3, 0] rfl)
      · have hf := qob_f hf c15
        refine lv_aload_n hx hb dX1_turnOf_18 rfl (lv_at hl 2 rfl) ?_
        refine va_get (D := D) (ci := 1) (v := .int o_columns) (C := RX1) (T := TX1) (N := 7) hx hb hts inwX1_turnOf_X1 hown hK hP 1 rfl rfl 1 (by decide) (hts (.fieldLink RX1 25 "HedgeWays$Grid" "columns" "I") (List.mem_of_getElem? (i := 1) rfl)) (fun _ h9 => h9) rfl dX1_turnOf_19 ?_
        refine lv_goto (tgt := 29) hx hb dX1_turnOf_22 (by decide) ?_
        exact hJ14 o_columns hf _ _ _ ⟨hP, hD, hS⟩ (lv_sub hl [1, 2, 3, 0] rfl)
  · intro J16 hJ16 hf
    refine lv_icmp_ne (tgt := 11) hx hb dX1_turnOf_4 (by decide) (fun c17 => ?_) (fun c17 => ?_)
    · have hf := qob_f hf c17
      refine lv_iconst (v := 0) hx hb dX1_turnOf_11 (by decide) ?_
      exact hJ16 0 hf _ _ _ ⟨hP, hD, hS⟩ hl
    · have hf := qob_t hf c17
      refine lv_iconst (v := 1) hx hb dX1_turnOf_7 (by decide) ?_
      refine lv_goto (tgt := 12) hx hb dX1_turnOf_8 (by decide) ?_
      exact hJ16 1 hf _ _ _ ⟨hP, hD, hS⟩ hl

theorem inwX5_append_X5 : ∀ w ∈ wsX50, w ∈ wsX5_append := fun _ h => List.mem_cons_of_mem _ (List.mem_append_right _ h)
abbrev rmX5_append : Room := { frames := 0, cells := 0, slots := 0, locals := 0 }
theorem hdX5_append : yX5_append.cls = RX5 ∧ yX5_append.cls ≠ "java/lang/invoke/MethodHandle" ∧ yX5_append.cls ≠ "java/lang/invoke/VarHandle" ∧ (parseMethodDescriptor yX5_append.desc).map (fun d => d.parameters.length) = some 2 := by decide +kernel
set_option maxHeartbeats 4000000 in
set_option maxRecDepth 100000 in
theorem KX5_append {l : Launch} {D : va_G} {cy : Nat → ClassId} {sc q_sc_bytes : Nat} {sc_length : Int32} {sc_bytes : Nat → Int32} {p1 : Int32} {p2 : Int64} {sc_length' : Int32} {sc_bytes' : Nat → Int32} (hf : fX5_append sc_length sc_bytes p1 p2 = some (sc_length', sc_bytes')) : CtV l yX5_append wsX5_append rmX5_append D cy [.ref sc, .int p1, .long p2] ([oX5 sc q_sc_bytes sc_length, aI cy q_sc_bytes 41 sc_bytes]) ([oX5 sc q_sc_bytes sc_length', aI cy q_sc_bytes 41 sc_bytes']) := by
  refine CtV.of (cc := cX5_append) (maxL := 5) (ret := none) (own := RX5) (by decide) rfl rfl (Nat.le_of_ble_eq_true rfl) ?_
  intro p e s m args below meth c A Q X hQ hK hP hD hS ls hl
  obtain ⟨hx, hb, hml, hown, hts, hr, hlocks, hA, hZ⟩ := id X
  have hl : lv_has ls 5 [(0, .ref sc), (1, .int p1), (2, .long p2)] := hl
  unfold fX5_append at hf
  have hf := qob_top hf
  refine lv_iload_n hx hb dX5_append_0 rfl (lv_at hl 1 rfl) ?_
  refine lv_iconst (v := 1) hx hb dX5_append_1 (by decide) ?_
  refine lv_isub hx hb dX5_append_2 ?_
  refine lv_istore (lv' := [(4, .int (p1 - 1)), (0, .ref sc), (1, .int p1), (2, .long p2)]) hx hb dX5_append_3 hl (by decide) rfl (fun ls hl => ?_)
  refine qjoin2 hf (fun (sc_length_1 : Int32) (sc_bytes_1 : Nat → Int32) => ∀ (H : Heap) (locs : List Loc) (ls : Array Slot), ctW D A s ([oX5 sc q_sc_bytes sc_length_1, aI cy q_sc_bytes 41 sc_bytes_1]) H locs → lv_has ls 5 [] → W p l e rmX5_append s m args below meth c H locs 0 0 Q (F0 m 56 ls [])) ?_ ?_
  · intro sc_length_1 sc_bytes_1 hf H locs ls ⟨hP, hD, hS⟩ hl
    cases qob_ret hf
    exact ct_vret X hQ hK hP hD hS dX5_append_56
  · intro J1 hJ1 hf
    refine qwalk3 (fun (x4_1 : Int32) (sc_length_2 : Int32) (sc_bytes_2 : Nat → Int32) => ∀ (H : Heap) (locs : List Loc) (ls : Array Slot), ctW D A s ([oX5 sc q_sc_bytes sc_length_2, aI cy q_sc_bytes 41 sc_bytes_2]) H locs → lv_has ls 5 [(0, .ref sc), (2, .long p2), (4, .int x4_1)] → W p l e rmX5_append s m args below meth c H locs 0 0 Q (F0 m 5 ls [])) ?_ _ (p1 - 1) sc_length sc_bytes hf _ _ _ ⟨hP, hD, hS⟩ (lv_sub hl [1, 3, 0] rfl)
    intro J2 hL2 x4_1 sc_length_2 sc_bytes_2 hf H locs ls ⟨hP, hD, hS⟩ hl
    refine lv_iload hx hb dX5_append_5 (lv_at hl 2 rfl) ?_
    refine lv_if_lt (tgt := 56) hx hb dX5_append_7 (by decide) (fun c3 => ?_) (fun c3 => ?_)
    · have hf := qob_t hf c3
      have hf := qob_esc hf
      exact hJ1 sc_length_2 sc_bytes_2 hf _ _ _ ⟨hP, hD, hS⟩ (lv_sub hl [] rfl)
    · have hf := qob_f hf c3
      refine lv_aload_n hx hb dX5_append_10 rfl (lv_at hl 0 rfl) ?_
      refine va_get (D := D) (ci := 5) (v := .int sc_length_2) (C := RX5) (T := TX5) (N := 2) hx hb hts inwX5_append_X5 hown hK hP 0 rfl rfl 1 (by decide) (hts (.fieldLink RX5 15 "HedgeWays$Scroll" "length" "I") (List.mem_of_getElem? (i := 1) rfl)) (fun _ h9 => h9) rfl dX5_append_11 ?_
      refine lv_bipush (v := 41) hx hb dX5_append_14 (by decide) ?_
      refine lv_icmp_ge (tgt := 56) hx hb dX5_append_16 (by decide) (fun c4 => ?_) (fun c4 => ?_)
      · have hf := qob_t hf c4
        have hf := qob_esc hf
        exact hJ1 sc_length_2 sc_bytes_2 hf _ _ _ ⟨hP, hD, hS⟩ (lv_sub hl [] rfl)
      · have hf := qob_f hf c4
        refine lv_aload_n hx hb dX5_append_19 rfl (lv_at hl 0 rfl) ?_
        refine va_get (D := D) (ci := 5) (v := .ref q_sc_bytes) (C := RX5) (T := TX5) (N := 2) hx hb hts inwX5_append_X5 hown hK hP 0 rfl rfl 0 (by decide) (hts (.fieldLink RX5 9 "HedgeWays$Scroll" "bytes" "[I") (List.mem_of_getElem? (i := 2) rfl)) (fun _ h9 => h9) rfl dX5_append_20 ?_
        refine lv_aload_n hx hb dX5_append_23 rfl (lv_at hl 0 rfl) ?_
        refine va_get (D := D) (ci := 5) (v := .int sc_length_2) (C := RX5) (T := TX5) (N := 2) hx hb hts inwX5_append_X5 hown hK hP 0 rfl rfl 1 (by decide) (hts (.fieldLink RX5 15 "HedgeWays$Scroll" "length" "I") (List.mem_of_getElem? (i := 1) rfl)) (fun _ h9 => h9) rfl dX5_append_24 ?_
        refine lv_lload_n hx hb dX5_append_27 rfl (lv_at hl 1 rfl) ?_
        refine lv_bipush (v := 8) hx hb dX5_append_28 (by decide) ?_
        refine lv_iload hx hb dX5_append_30 (lv_at hl 2 rfl) ?_
        refine lv_imul hx hb dX5_append_32 ?_
        refine lv_lushr (v := (qushr p2 (8 * x4_1))) hx hb dX5_append_33 rfl ?_
        refine lv_ldc2 hx hb hown (hts (.constantLong RX5 19 (255)) (List.mem_of_getElem? (i := 3) rfl)) dX5_append_34 ?_
        refine lv_land hx hb dX5_append_37 ?_
        refine lv_l2i (v := ((qushr p2 (8 * x4_1)) &&& 255).toInt32) hx hb dX5_append_38 rfl ?_
        obtain ⟨i5, hf⟩ := qob_gd hf
        obtain ⟨sc_bytes_3, e6⟩ : ∃ z, z = (upd sc_bytes_2 sc_length_2.toNatClampNeg (((qushr p2 (8 * x4_1)) &&& 255).toInt32)) := ⟨_, rfl⟩
        have hf := qob_bd hf e6
        refine va_iast hx hb hK hP hD hS 1 0 rfl rfl i5 dX5_append_39 (fun H locs hP hD hS => ?_)
        have hP : va_P D vwCl ([oX5 sc q_sc_bytes sc_length_2, aI cy q_sc_bytes 41 sc_bytes_3]) H := by rw [e6]; exact hP
        have hD : va_D A ([oX5 sc q_sc_bytes sc_length_2, aI cy q_sc_bytes 41 sc_bytes_3]) := by rw [e6]; exact hD
        refine lv_aload_n hx hb dX5_append_40 rfl (lv_at hl 0 rfl) ?_
        refine lv_dup hx hb dX5_append_41 rfl ?_
        refine va_get (D := D) (ci := 5) (v := .int sc_length_2) (C := RX5) (T := TX5) (N := 2) hx hb hts inwX5_append_X5 hown hK hP 0 rfl rfl 1 (by decide) (hts (.fieldLink RX5 15 "HedgeWays$Scroll" "length" "I") (List.mem_of_getElem? (i := 1) rfl)) (fun _ h9 => h9) rfl dX5_append_42 ?_
        refine lv_iconst (v := 1) hx hb dX5_append_45 (by decide) ?_
        refine lv_iadd hx hb dX5_append_46 ?_
        refine va_put (D := D) (ci := 5) (v := .int (sc_length_2 + 1)) (ty := .int) (C := RX5) (T := TX5) (N := 2) hx hb hts inwX5_append_X5 tyX5 tyX5_ok nmX5 hown hK hP hD hS 0 rfl rfl 1 (by decide) (hts (.fieldLink RX5 15 "HedgeWays$Scroll" "length" "I") (List.mem_of_getElem? (i := 1) rfl)) (fun _ h9 => h9) rfl (tyX5_ok 1 (by decide)) rfl rfl (Nat.le_of_ble_eq_true rfl) dX5_append_47 (fun H locs hP hD hS => ?_)
        have hP : va_P D vwCl ([oX5 sc q_sc_bytes (sc_length_2 + 1), aI cy q_sc_bytes 41 sc_bytes_3]) H := hP
        have hD : va_D A ([oX5 sc q_sc_bytes (sc_length_2 + 1), aI cy q_sc_bytes 41 sc_bytes_3]) := hD
        refine lv_iinc (v := (x4_1 + (-1))) (lv' := [(4, .int (x4_1 + (-1))), (0, .ref sc), (2, .long p2)]) hx hb dX5_append_50 hl (k := 2) rfl rfl (by decide) rfl (fun ls hl => ?_)
        refine lv_goto (tgt := 5) hx hb dX5_append_53 (by decide) ?_
        exact hL2 (x4_1 + (-1)) (sc_length_2 + 1) sc_bytes_3 hf _ _ _ ⟨hP, hD, hS⟩ (lv_sub hl [1, 2, 0] rfl)
abbrev rmX5_rowMayEnd : Room := { frames := 0, cells := 0, slots := 0, locals := 0 }
theorem hdX5_rowMayEnd : yX5_rowMayEnd.cls ≠ "java/lang/invoke/MethodHandle" ∧ yX5_rowMayEnd.cls ≠ "java/lang/invoke/VarHandle" ∧ (parseMethodDescriptor yX5_rowMayEnd.desc).map (fun d => d.parameters.length) = some 3 := by decide +kernel
set_option maxHeartbeats 4000000 in
set_option maxRecDepth 100000 in
theorem KX5_rowMayEnd {l : Launch} {D : va_G} {cy : Nat → ClassId}  {p1 : Int32} {p2 : Int32} {p3 : Int32} {r : Int32} (hf : fX5_rowMayEnd p1 p2 p3 = r) : CtI l yX5_rowMayEnd wsX5_rowMayEnd rmX5_rowMayEnd D cy [.int p1, .int p2, .int p3] ([]) ([]) r := by
  refine CtI.of (cc := cX5_rowMayEnd) (maxL := 3) (ret := some .boolean) (own := RX5) (by decide) rfl rfl (Nat.le_of_ble_eq_true rfl) ?_
  intro p e s m args below meth c A Q X hQ hK hP hD hS ls hl
  obtain ⟨hx, hb, hml, hown, hts, hr, hlocks, hA, hZ⟩ := id X
  have hl : lv_has ls 3 [(0, .int p1), (1, .int p2), (2, .int p3)] := hl
  unfold fX5_rowMayEnd at hf
  have hf := qbb_top hf
  refine lv_iload_n hx hb dX5_rowMayEnd_0 rfl (lv_at hl 0 rfl) ?_
  refine lv_if_le (tgt := 21) hx hb dX5_rowMayEnd_1 (by decide) (fun c1 => ?_) (fun c1 => ?_)
  · have hf := qbb_t hf c1
    refine lv_iconst (v := 0) hx hb dX5_rowMayEnd_21 (by decide) ?_
    cases qbb_ret hf
    exact ct_zret X hQ hK hP hD hS qnb0 dX5_rowMayEnd_22
  · have hf := qbb_f hf c1
    refine lv_iload_n hx hb dX5_rowMayEnd_4 rfl (lv_at hl 2 rfl) ?_
    refine lv_if_ne (tgt := 21) hx hb dX5_rowMayEnd_5 (by decide) (fun c2 => ?_) (fun c2 => ?_)
    · have hf := qbb_f hf c2
      refine lv_iconst (v := 0) hx hb dX5_rowMayEnd_21 (by decide) ?_
      cases qbb_ret hf
      exact ct_zret X hQ hK hP hD hS qnb0 dX5_rowMayEnd_22
    · have hf := qbb_t hf c2
      refine lv_iload_n hx hb dX5_rowMayEnd_8 rfl (lv_at hl 1 rfl) ?_
      refine lv_if_eq (tgt := 17) hx hb dX5_rowMayEnd_9 (by decide) (fun c3 => ?_) (fun c3 => ?_)
      · have hf := qbb_t hf c3
        refine lv_iconst (v := 1) hx hb dX5_rowMayEnd_17 (by decide) ?_
        refine lv_goto (tgt := 22) hx hb dX5_rowMayEnd_18 (by decide) ?_
        cases qbb_ret hf
        exact ct_zret X hQ hK hP hD hS qnb1 dX5_rowMayEnd_22
      · have hf := qbb_f hf c3
        refine lv_iload_n hx hb dX5_rowMayEnd_12 rfl (lv_at hl 0 rfl) ?_
        refine lv_iload_n hx hb dX5_rowMayEnd_13 rfl (lv_at hl 1 rfl) ?_
        refine lv_icmp_ne (tgt := 21) hx hb dX5_rowMayEnd_14 (by decide) (fun c4 => ?_) (fun c4 => ?_)
        · have hf := qbb_f hf c4
          refine lv_iconst (v := 0) hx hb dX5_rowMayEnd_21 (by decide) ?_
          cases qbb_ret hf
          exact ct_zret X hQ hK hP hD hS qnb0 dX5_rowMayEnd_22
        · have hf := qbb_t hf c4
          refine lv_iconst (v := 1) hx hb dX5_rowMayEnd_17 (by decide) ?_
          refine lv_goto (tgt := 22) hx hb dX5_rowMayEnd_18 (by decide) ?_
          cases qbb_ret hf
          exact ct_zret X hQ hK hP hD hS qnb1 dX5_rowMayEnd_22
abbrev rmX5_opensRight : Room := { frames := 0, cells := 0, slots := 0, locals := 0 }
theorem hdX5_opensRight : yX5_opensRight.cls ≠ "java/lang/invoke/MethodHandle" ∧ yX5_opensRight.cls ≠ "java/lang/invoke/VarHandle" ∧ (parseMethodDescriptor yX5_opensRight.desc).map (fun d => d.parameters.length) = some 1 := by decide +kernel
set_option maxHeartbeats 4000000 in
set_option maxRecDepth 100000 in
theorem KX5_opensRight {l : Launch} {D : va_G} {cy : Nat → ClassId}  {p1 : Int32} {r : Int32} (hf : fX5_opensRight p1 = r) : CtI l yX5_opensRight wsX5_opensRight rmX5_opensRight D cy [.int p1] ([]) ([]) r := by
  refine CtI.of (cc := cX5_opensRight) (maxL := 1) (ret := some .boolean) (own := RX5) (by decide) rfl rfl (Nat.le_of_ble_eq_true rfl) ?_
  intro p e s m args below meth c A Q X hQ hK hP hD hS ls hl
  obtain ⟨hx, hb, hml, hown, hts, hr, hlocks, hA, hZ⟩ := id X
  have hl : lv_has ls 1 [(0, .int p1)] := hl
  unfold fX5_opensRight at hf
  have hf := qbb_top hf
  refine lv_iload_n hx hb dX5_opensRight_0 rfl (lv_at hl 0 rfl) ?_
  refine lv_iconst (v := 1) hx hb dX5_opensRight_1 (by decide) ?_
  refine lv_iand hx hb dX5_opensRight_2 ?_
  refine lv_if_eq (tgt := 10) hx hb dX5_opensRight_3 (by decide) (fun c1 => ?_) (fun c1 => ?_)
  · have hf := qbb_t hf c1
    refine lv_iconst (v := 0) hx hb dX5_opensRight_10 (by decide) ?_
    cases qbb_ret hf
    exact ct_zret X hQ hK hP hD hS qnb0 dX5_opensRight_11
  · have hf := qbb_f hf c1
    refine lv_iconst (v := 1) hx hb dX5_opensRight_6 (by decide) ?_
    refine lv_goto (tgt := 11) hx hb dX5_opensRight_7 (by decide) ?_
    cases qbb_ret hf
    exact ct_zret X hQ hK hP hD hS qnb1 dX5_opensRight_11
abbrev rmX5_opensDown : Room := { frames := 0, cells := 0, slots := 0, locals := 0 }
theorem hdX5_opensDown : yX5_opensDown.cls ≠ "java/lang/invoke/MethodHandle" ∧ yX5_opensDown.cls ≠ "java/lang/invoke/VarHandle" ∧ (parseMethodDescriptor yX5_opensDown.desc).map (fun d => d.parameters.length) = some 1 := by decide +kernel
set_option maxHeartbeats 4000000 in
set_option maxRecDepth 100000 in
theorem KX5_opensDown {l : Launch} {D : va_G} {cy : Nat → ClassId}  {p1 : Int32} {r : Int32} (hf : fX5_opensDown p1 = r) : CtI l yX5_opensDown wsX5_opensDown rmX5_opensDown D cy [.int p1] ([]) ([]) r := by
  refine CtI.of (cc := cX5_opensDown) (maxL := 1) (ret := some .boolean) (own := RX5) (by decide) rfl rfl (Nat.le_of_ble_eq_true rfl) ?_
  intro p e s m args below meth c A Q X hQ hK hP hD hS ls hl
  obtain ⟨hx, hb, hml, hown, hts, hr, hlocks, hA, hZ⟩ := id X
  have hl : lv_has ls 1 [(0, .int p1)] := hl
  unfold fX5_opensDown at hf
  have hf := qbb_top hf
  refine lv_iload_n hx hb dX5_opensDown_0 rfl (lv_at hl 0 rfl) ?_
  refine lv_iconst (v := 2) hx hb dX5_opensDown_1 (by decide) ?_
  refine lv_iand hx hb dX5_opensDown_2 ?_
  refine lv_if_eq (tgt := 10) hx hb dX5_opensDown_3 (by decide) (fun c1 => ?_) (fun c1 => ?_)
  · have hf := qbb_t hf c1
    refine lv_iconst (v := 0) hx hb dX5_opensDown_10 (by decide) ?_
    cases qbb_ret hf
    exact ct_zret X hQ hK hP hD hS qnb0 dX5_opensDown_11
  · have hf := qbb_f hf c1
    refine lv_iconst (v := 1) hx hb dX5_opensDown_6 (by decide) ?_
    refine lv_goto (tgt := 11) hx hb dX5_opensDown_7 (by decide) ?_
    cases qbb_ret hf
    exact ct_zret X hQ hK hP hD hS qnb1 dX5_opensDown_11
abbrev rmX5_figureFits : Room := { frames := 1, cells := 0, slots := 0, locals := 20 }
theorem hdX5_figureFits : yX5_figureFits.cls ≠ "java/lang/invoke/MethodHandle" ∧ yX5_figureFits.cls ≠ "java/lang/invoke/VarHandle" ∧ (parseMethodDescriptor yX5_figureFits.desc).map (fun d => d.parameters.length) = some 4 := by decide +kernel
set_option maxHeartbeats 4000000 in
set_option maxRecDepth 100000 in
theorem KX5_figureFits {l : Launch} {D : va_G} {cy : Nat → ClassId}  {p1 : Int32} {p2 : Int32} {p3 : Int32} {p4 : Int32} {r : Int32} (hf : fX5_figureFits p1 p2 p3 p4 = r) : CtI l yX5_figureFits wsX5_figureFits rmX5_figureFits D cy [.int p1, .int p2, .int p3, .int p4] ([]) ([]) r := by
  refine CtI.of (cc := cX5_figureFits) (maxL := 4) (ret := some .boolean) (own := RX5) (by decide) rfl rfl (Nat.le_of_ble_eq_true rfl) ?_
  intro p e s m args below meth c A Q X hQ hK hP hD hS ls hl
  obtain ⟨hx, hb, hml, hown, hts, hr, hlocks, hA, hZ⟩ := id X
  have hl : lv_has ls 4 [(0, .int p1), (1, .int p2), (2, .int p3), (3, .int p4)] := hl
  unfold fX5_figureFits at hf
  have hf := qbb_top hf
  refine lv_iload_n hx hb dX5_figureFits_0 rfl (lv_at hl 0 rfl) ?_
  refine lv_if_lt (tgt := 44) hx hb dX5_figureFits_1 (by decide) (fun c1 => ?_) (fun c1 => ?_)
  · have hf := qbb_t hf c1
    refine lv_iconst (v := 0) hx hb dX5_figureFits_44 (by decide) ?_
    cases qbb_ret hf
    exact ct_zret X hQ hK hP hD hS qnb0 dX5_figureFits_45
  · have hf := qbb_f hf c1
    refine lv_iload_n hx hb dX5_figureFits_4 rfl (lv_at hl 0 rfl) ?_
    refine lv_iconst (v := 3) hx hb dX5_figureFits_5 (by decide) ?_
    refine lv_icmp_gt (tgt := 44) hx hb dX5_figureFits_6 (by decide) (fun c2 => ?_) (fun c2 => ?_)
    · have hf := qbb_t hf c2
      refine lv_iconst (v := 0) hx hb dX5_figureFits_44 (by decide) ?_
      cases qbb_ret hf
      exact ct_zret X hQ hK hP hD hS qnb0 dX5_figureFits_45
    · have hf := qbb_f hf c2
      refine lv_iload_n hx hb dX5_figureFits_9 rfl (lv_at hl 2 rfl) ?_
      refine lv_iload_n hx hb dX5_figureFits_10 rfl (lv_at hl 3 rfl) ?_
      refine lv_icmp_ge (tgt := 44) hx hb dX5_figureFits_11 (by decide) (fun c3 => ?_) (fun c3 => ?_)
      · have hf := qbb_t hf c3
        refine lv_iconst (v := 0) hx hb dX5_figureFits_44 (by decide) ?_
        cases qbb_ret hf
        exact ct_zret X hQ hK hP hD hS qnb0 dX5_figureFits_45
      · have hf := qbb_f hf c3
        refine lv_iload_n hx hb dX5_figureFits_14 rfl (lv_at hl 0 rfl) ?_
        refine ctS_i0 (r := (fX5_opensRight p1)) (wc := []) (As := [.int p1]) (rest := []) X hK hP hD hS [] rfl rfl rfl (KX5_opensRight rfl _) (va_cwS 1 hts gX5_figureFits_X5_opensRight rfl rfl rfl hdX5_opensRight ⟨Nat.le_of_ble_eq_true rfl, Nat.le_of_ble_eq_true rfl⟩) rfl hl rfl (Nat.le_of_ble_eq_true rfl) dX5_figureFits_15 (Nat.zero_le _) (Nat.zero_le _) (fun H locs hP hS => ?_)
        refine lv_if_eq (tgt := 28) hx hb dX5_figureFits_18 (by decide) (fun c4 => ?_) (fun c4 => ?_)
        · have hf := qbb_t hf c4
          refine lv_iload_n hx hb dX5_figureFits_28 rfl (lv_at hl 0 rfl) ?_
          refine ctS_i0 (r := (fX5_opensDown p1)) (wc := []) (As := [.int p1]) (rest := []) X hK hP hD hS [] rfl rfl rfl (KX5_opensDown rfl _) (va_cwS 1 hts gX5_figureFits_X5_opensDown rfl rfl rfl hdX5_opensDown ⟨Nat.le_of_ble_eq_true rfl, Nat.le_of_ble_eq_true rfl⟩) rfl hl rfl (Nat.le_of_ble_eq_true rfl) dX5_figureFits_29 (Nat.zero_le _) (Nat.zero_le _) (fun H locs hP hS => ?_)
          refine lv_if_eq (tgt := 40) hx hb dX5_figureFits_32 (by decide) (fun c5 => ?_) (fun c5 => ?_)
          · have hf := qbb_t hf c5
            refine lv_iconst (v := 1) hx hb dX5_figureFits_40 (by decide) ?_
            refine lv_goto (tgt := 45) hx hb dX5_figureFits_41 (by decide) ?_
            cases qbb_ret hf
            exact ct_zret X hQ hK hP hD hS qnb1 dX5_figureFits_45
          · have hf := qbb_f hf c5
            refine lv_iload_n hx hb dX5_figureFits_35 rfl (lv_at hl 1 rfl) ?_
            refine lv_iconst (v := 5) hx hb dX5_figureFits_36 (by decide) ?_
            refine lv_icmp_eq (tgt := 44) hx hb dX5_figureFits_37 (by decide) (fun c6 => ?_) (fun c6 => ?_)
            · have hf := qbb_t hf c6
              refine lv_iconst (v := 0) hx hb dX5_figureFits_44 (by decide) ?_
              cases qbb_ret hf
              exact ct_zret X hQ hK hP hD hS qnb0 dX5_figureFits_45
            · have hf := qbb_f hf c6
              refine lv_iconst (v := 1) hx hb dX5_figureFits_40 (by decide) ?_
              refine lv_goto (tgt := 45) hx hb dX5_figureFits_41 (by decide) ?_
              cases qbb_ret hf
              exact ct_zret X hQ hK hP hD hS qnb1 dX5_figureFits_45
        · have hf := qbb_f hf c4
          refine lv_iload_n hx hb dX5_figureFits_21 rfl (lv_at hl 2 rfl) ?_
          refine lv_iload_n hx hb dX5_figureFits_22 rfl (lv_at hl 3 rfl) ?_
          refine lv_iconst (v := 1) hx hb dX5_figureFits_23 (by decide) ?_
          refine lv_isub hx hb dX5_figureFits_24 ?_
          refine lv_icmp_eq (tgt := 44) hx hb dX5_figureFits_25 (by decide) (fun c7 => ?_) (fun c7 => ?_)
          · have hf := qbb_t hf c7
            refine lv_iconst (v := 0) hx hb dX5_figureFits_44 (by decide) ?_
            cases qbb_ret hf
            exact ct_zret X hQ hK hP hD hS qnb0 dX5_figureFits_45
          · have hf := qbb_f hf c7
            refine lv_iload_n hx hb dX5_figureFits_28 rfl (lv_at hl 0 rfl) ?_
            refine ctS_i0 (r := (fX5_opensDown p1)) (wc := []) (As := [.int p1]) (rest := []) X hK hP hD hS [] rfl rfl rfl (KX5_opensDown rfl _) (va_cwS 1 hts gX5_figureFits_X5_opensDown rfl rfl rfl hdX5_opensDown ⟨Nat.le_of_ble_eq_true rfl, Nat.le_of_ble_eq_true rfl⟩) rfl hl rfl (Nat.le_of_ble_eq_true rfl) dX5_figureFits_29 (Nat.zero_le _) (Nat.zero_le _) (fun H locs hP hS => ?_)
            refine lv_if_eq (tgt := 40) hx hb dX5_figureFits_32 (by decide) (fun c8 => ?_) (fun c8 => ?_)
            · have hf := qbb_t hf c8
              refine lv_iconst (v := 1) hx hb dX5_figureFits_40 (by decide) ?_
              refine lv_goto (tgt := 45) hx hb dX5_figureFits_41 (by decide) ?_
              cases qbb_ret hf
              exact ct_zret X hQ hK hP hD hS qnb1 dX5_figureFits_45
            · have hf := qbb_f hf c8
              refine lv_iload_n hx hb dX5_figureFits_35 rfl (lv_at hl 1 rfl) ?_
              refine lv_iconst (v := 5) hx hb dX5_figureFits_36 (by decide) ?_
              refine lv_icmp_eq (tgt := 44) hx hb dX5_figureFits_37 (by decide) (fun c9 => ?_) (fun c9 => ?_)
              · have hf := qbb_t hf c9
                refine lv_iconst (v := 0) hx hb dX5_figureFits_44 (by decide) ?_
                cases qbb_ret hf
                exact ct_zret X hQ hK hP hD hS qnb0 dX5_figureFits_45
              · have hf := qbb_f hf c9
                refine lv_iconst (v := 1) hx hb dX5_figureFits_40 (by decide) ?_
                refine lv_goto (tgt := 45) hx hb dX5_figureFits_41 (by decide) ?_
                cases qbb_ret hf
                exact ct_zret X hQ hK hP hD hS qnb1 dX5_figureFits_45
theorem inwX5_firstFault_X5 : ∀ w ∈ wsX50, w ∈ wsX5_firstFault := fun _ h => List.mem_cons_of_mem _ (List.mem_append_right _ h)
abbrev rmX5_firstFault : Room := { frames := 2, cells := 0, slots := 0, locals := 43 }
theorem hdX5_firstFault : yX5_firstFault.cls = RX5 ∧ yX5_firstFault.cls ≠ "java/lang/invoke/MethodHandle" ∧ yX5_firstFault.cls ≠ "java/lang/invoke/VarHandle" ∧ (parseMethodDescriptor yX5_firstFault.desc).map (fun d => d.parameters.length) = some 0 := by decide +kernel
set_option maxHeartbeats 4000000 in
set_option maxRecDepth 100000 in
theorem KX5_firstFault {l : Launch} {D : va_G} {cy : Nat → ClassId} {sc q_sc_bytes : Nat} {sc_length : Int32} {sc_bytes : Nat → Int32}  {r : Int32} (hf : fX5_firstFault sc_length sc_bytes = some r) : CtI l yX5_firstFault wsX5_firstFault rmX5_firstFault D cy [.ref sc] ([oX5 sc q_sc_bytes sc_length, aI cy q_sc_bytes 41 sc_bytes]) ([oX5 sc q_sc_bytes sc_length, aI cy q_sc_bytes 41 sc_bytes]) r := by
  refine CtI.of (cc := cX5_firstFault) (maxL := 8) (ret := some .int) (own := RX5) (by decide) rfl rfl (Nat.le_of_ble_eq_true rfl) ?_
  intro p e s m args below meth c A Q X hQ hK hP hD hS ls hl
  obtain ⟨hx, hb, hml, hown, hts, hr, hlocks, hA, hZ⟩ := id X
  have hl : lv_has ls 8 [(0, .ref sc)] := hl
  unfold fX5_firstFault at hf
  have hf := qob_top hf
  refine lv_iconst (v := 0) hx hb dX5_firstFault_0 (by decide) ?_
  refine lv_istore_n (lv' := [(1, .int 0), (0, .ref sc)]) hx hb dX5_firstFault_1 rfl hl (by decide) rfl (fun ls hl => ?_)
  refine lv_iconst (v := 0) hx hb dX5_firstFault_2 (by decide) ?_
  refine lv_istore_n (lv' := [(2, .int 0), (1, .int 0), (0, .ref sc)]) hx hb dX5_firstFault_3 rfl hl (by decide) rfl (fun ls hl => ?_)
  refine lv_iconst (v := 0) hx hb dX5_firstFault_4 (by decide) ?_
  refine lv_istore_n (lv' := [(3, .int 0), (2, .int 0), (1, .int 0), (0, .ref sc)]) hx hb dX5_firstFault_5 rfl hl (by decide) rfl (fun ls hl => ?_)
  refine lv_iconst (v := 0) hx hb dX5_firstFault_6 (by decide) ?_
  refine lv_istore (lv' := [(4, .int 0), (3, .int 0), (2, .int 0), (1, .int 0), (0, .ref sc)]) hx hb dX5_firstFault_7 hl (by decide) rfl (fun ls hl => ?_)
  refine lv_iconst (v := 0) hx hb dX5_firstFault_9 (by decide) ?_
  refine lv_istore (lv' := [(5, .int 0), (4, .int 0), (3, .int 0), (2, .int 0), (1, .int 0), (0, .ref sc)]) hx hb dX5_firstFault_10 hl (by decide) rfl (fun ls hl => ?_)
  refine lv_iconst (v := 0) hx hb dX5_firstFault_12 (by decide) ?_
  refine lv_istore (lv' := [(6, .int 0), (5, .int 0), (4, .int 0), (3, .int 0), (2, .int 0), (1, .int 0), (0, .ref sc)]) hx hb dX5_firstFault_13 hl (by decide) rfl (fun ls hl => ?_)
  refine qjoinE4 hf (fun (x2_1 : Int32) (x3_1 : Int32) (x4_1 : Int32) (x5_1 : Int32) => ∀ (H : Heap) (locs : List Loc) (ls : Array Slot), ctW D A s ([oX5 sc q_sc_bytes sc_length, aI cy q_sc_bytes 41 sc_bytes]) H locs → lv_has ls 8 [(0, .ref sc), (2, .int x2_1), (3, .int x3_1), (4, .int x4_1), (5, .int x5_1)] → W p l e rmX5_firstFault s m args below meth c H locs 0 0 Q (F0 m 148 ls [])) ?_ ?_
  · intro x2_1 x3_1 x4_1 x5_1 hf H locs ls ⟨hP, hD, hS⟩ hl
    refine lv_iload_n hx hb dX5_firstFault_148 rfl (lv_at hl 1 rfl) ?_
    refine lv_iload_n hx hb dX5_firstFault_149 rfl (lv_at hl 2 rfl) ?_
    refine lv_iload hx hb dX5_firstFault_150 (lv_at hl 3 rfl) ?_
    refine ctS_i0 (r := (fX5_rowMayEnd x2_1 x3_1 x4_1)) (wc := []) (As := [.int x2_1, .int x3_1, .int x4_1]) (rest := []) X hK hP hD hS [] rfl rfl rfl (KX5_rowMayEnd rfl _) (va_cwS 3 hts gX5_firstFault_X5_rowMayEnd rfl rfl rfl hdX5_rowMayEnd ⟨Nat.le_of_ble_eq_true rfl, Nat.le_of_ble_eq_true rfl⟩) rfl hl rfl (Nat.le_of_ble_eq_true rfl) dX5_firstFault_152 (Nat.zero_le _) (Nat.zero_le _) (fun H locs hP hS => ?_)
    refine lv_if_eq (tgt := 168) hx hb dX5_firstFault_155 (by decide) (fun c1 => ?_) (fun c1 => ?_)
    · have hf := qob_t hf c1
      refine lv_aload_n hx hb dX5_firstFault_168 rfl (lv_at hl 0 rfl) ?_
      refine va_get (D := D) (ci := 5) (v := .int sc_length) (C := RX5) (T := TX5) (N := 2) hx hb hts inwX5_firstFault_X5 hown hK hP 0 rfl rfl 1 (by decide) (hts (.fieldLink RX5 15 "HedgeWays$Scroll" "length" "I") (List.mem_of_getElem? (i := 1) rfl)) (fun _ h9 => h9) rfl dX5_firstFault_169 ?_
      cases qob_ret hf
      exact ct_iret X hQ hK hP hD hS rfl dX5_firstFault_172
    · have hf := qob_f hf c1
      refine lv_iload hx hb dX5_firstFault_158 (lv_at hl 4 rfl) ?_
      refine lv_if_ne (tgt := 168) hx hb dX5_firstFault_160 (by decide) (fun c2 => ?_) (fun c2 => ?_)
      · have hf := qob_f hf c2
        refine lv_aload_n hx hb dX5_firstFault_168 rfl (lv_at hl 0 rfl) ?_
        refine va_get (D := D) (ci := 5) (v := .int sc_length) (C := RX5) (T := TX5) (N := 2) hx hb hts inwX5_firstFault_X5 hown hK hP 0 rfl rfl 1 (by decide) (hts (.fieldLink RX5 15 "HedgeWays$Scroll" "length" "I") (List.mem_of_getElem? (i := 1) rfl)) (fun _ h9 => h9) rfl dX5_firstFault_169 ?_
        cases qob_ret hf
        exact ct_iret X hQ hK hP hD hS rfl dX5_firstFault_172
      · have hf := qob_t hf c2
        refine lv_bipush (v := (-9)) hx hb dX5_firstFault_163 (by decide) ?_
        refine lv_goto (tgt := 172) hx hb dX5_firstFault_165 (by decide) ?_
        cases qob_ret hf
        exact ct_iret X hQ hK hP hD hS rfl dX5_firstFault_172
  · intro J3 hJ3 hf
    refine qwalk6 (fun (x1_1 : Int32) (x2_2 : Int32) (x3_2 : Int32) (x4_2 : Int32) (x5_2 : Int32) (x6_1 : Int32) => ∀ (H : Heap) (locs : List Loc) (ls : Array Slot), ctW D A s ([oX5 sc q_sc_bytes sc_length, aI cy q_sc_bytes 41 sc_bytes]) H locs → lv_has ls 8 [(0, .ref sc), (1, .int x1_1), (2, .int x2_2), (3, .int x3_2), (4, .int x4_2), (5, .int x5_2), (6, .int x6_1)] → W p l e rmX5_firstFault s m args below meth c H locs 0 0 Q (F0 m 15 ls [])) ?_ _ (0 : Int32) (0 : Int32) (0 : Int32) (0 : Int32) (0 : Int32) (0 : Int32) hf _ _ _ ⟨hP, hD, hS⟩ (lv_sub hl [6, 5, 4, 3, 2, 1, 0] rfl)
    intro J4 hL4 x1_1 x2_2 x3_2 x4_2 x5_2 x6_1 hf H locs ls ⟨hP, hD, hS⟩ hl
    refine lv_iload hx hb dX5_firstFault_15 (lv_at hl 6 rfl) ?_
    refine lv_aload_n hx hb dX5_firstFault_17 rfl (lv_at hl 0 rfl) ?_
    refine va_get (D := D) (ci := 5) (v := .int sc_length) (C := RX5) (T := TX5) (N := 2) hx hb hts inwX5_firstFault_X5 hown hK hP 0 rfl rfl 1 (by decide) (hts (.fieldLink RX5 15 "HedgeWays$Scroll" "length" "I") (List.mem_of_getElem? (i := 1) rfl)) (fun _ h9 => h9) rfl dX5_firstFault_18 ?_
    refine lv_icmp_ge (tgt := 148) hx hb dX5_firstFault_21 (by decide) (fun c5 => ?_) (fun c5 => ?_)
    · have hf := qob_t hf c5
      have hf := qob_esc hf
      exact hJ3 x2_2 x3_2 x4_2 x5_2 hf _ _ _ ⟨hP, hD, hS⟩ (lv_sub hl [0, 2, 3, 4, 5] rfl)
    · have hf := qob_f hf c5
      refine lv_iload hx hb dX5_firstFault_24 (lv_at hl 6 rfl) ?_
      refine lv_bipush (v := 41) hx hb dX5_firstFault_26 (by decide) ?_
      refine lv_icmp_ge (tgt := 148) hx hb dX5_firstFault_28 (by decide) (fun c6 => ?_) (fun c6 => ?_)
      · have hf := qob_t hf c6
        have hf := qob_esc hf
        exact hJ3 x2_2 x3_2 x4_2 x5_2 hf _ _ _ ⟨hP, hD, hS⟩ (lv_sub hl [0, 2, 3, 4, 5] rfl)
      · have hf := qob_f hf c6
        refine lv_aload_n hx hb dX5_firstFault_31 rfl (lv_at hl 0 rfl) ?_
        refine va_get (D := D) (ci := 5) (v := .ref q_sc_bytes) (C := RX5) (T := TX5) (N := 2) hx hb hts inwX5_firstFault_X5 hown hK hP 0 rfl rfl 0 (by decide) (hts (.fieldLink RX5 9 "HedgeWays$Scroll" "bytes" "[I") (List.mem_of_getElem? (i := 2) rfl)) (fun _ h9 => h9) rfl dX5_firstFault_32 ?_
        refine lv_iload hx hb dX5_firstFault_35 (lv_at hl 6 rfl) ?_
        obtain ⟨i7, hf⟩ := qob_gd hf
        refine va_iald hx hb hK hP 1 0 rfl rfl i7 dX5_firstFault_37 ?_
        refine lv_bipush (v := 48) hx hb dX5_firstFault_38 (by decide) ?_
        refine lv_isub hx hb dX5_firstFault_40 ?_
        refine lv_istore (lv' := [(7, .int ((sc_bytes x6_1.toNatClampNeg) - 48)), (0, .ref sc), (1, .int x1_1), (2, .int x2_2), (3, .int x3_2), (4, .int x4_2), (5, .int x5_2), (6, .int x6_1)]) hx hb dX5_firstFault_41 hl (by decide) rfl (fun ls hl => ?_)
        refine lv_aload_n hx hb dX5_firstFault_43 rfl (lv_at hl 1 rfl) ?_
        refine va_get (D := D) (ci := 5) (v := .ref q_sc_bytes) (C := RX5) (T := TX5) (N := 2) hx hb hts inwX5_firstFault_X5 hown hK hP 0 rfl rfl 0 (by decide) (hts (.fieldLink RX5 9 "HedgeWays$Scroll" "bytes" "[I") (List.mem_of_getElem? (i := 2) rfl)) (fun _ h9 => h9) rfl dX5_firstFault_44 ?_
        refine lv_iload hx hb dX5_firstFault_47 (lv_at hl 7 rfl) ?_
        obtain ⟨i8, hf⟩ := qob_gd hf
        refine va_iald hx hb hK hP 1 0 rfl rfl i8 dX5_firstFault_49 ?_
        refine lv_bipush (v := 47) hx hb dX5_firstFault_50 (by decide) ?_
        refine lv_icmp_ne (tgt := 86) hx hb dX5_firstFault_52 (by decide) (fun c9 => ?_) (fun c9 => ?_)
        · have hf := qob_f hf c9
          refine lv_iload hx hb dX5_firstFault_86 (lv_at hl 0 rfl) ?_
          refine lv_iload_n hx hb dX5_firstFault_88 rfl (lv_at hl 2 rfl) ?_
          refine lv_iload_n hx hb dX5_firstFault_89 rfl (lv_at hl 3 rfl) ?_
          refine lv_iload_n hx hb dX5_firstFault_90 rfl (lv_at hl 4 rfl) ?_
          refine qjoin1 hf (fun (s_1 : Int32) => ∀ (H : Heap) (locs : List Loc) (ls : Array Slot), ctW D A s ([oX5 sc q_sc_bytes sc_length, aI cy q_sc_bytes 41 sc_bytes]) H locs → lv_has ls 8 [(0, .ref sc), (1, .int x1_1), (2, .int x2_2), (3, .int x3_2), (5, .int x5_2), (6, .int x6_1), (7, .int ((sc_bytes x6_1.toNatClampNeg) - 48))] → W p l e rmX5_firstFault s m args below meth c H locs 0 0 Q (F0 m 100 ls [.int s_1, .int x2_2, .int x1_1, .int ((sc_bytes x6_1.toNatClampNeg) - 48)])) ?_ ?_
          · intro s_1 hf H locs ls ⟨hP, hD, hS⟩ hl
            refine ctS_i0 (r := (fX5_figureFits ((sc_bytes x6_1.toNatClampNeg) - 48) x1_1 x2_2 s_1)) (wc := []) (As := [.int ((sc_bytes x6_1.toNatClampNeg) - 48), .int x1_1, .int x2_2, .int s_1]) (rest := []) X hK hP hD hS [] rfl rfl rfl (KX5_figureFits rfl _) (va_cwS 4 hts gX5_firstFault_X5_figureFits rfl rfl rfl hdX5_figureFits ⟨Nat.le_of_ble_eq_true rfl, Nat.le_of_ble_eq_true rfl⟩) rfl hl rfl (Nat.le_of_ble_eq_true rfl) dX5_firstFault_100 (Nat.zero_le _) (Nat.zero_le _) (fun H locs hP hS => ?_)
            refine lv_if_eq (tgt := 139) hx hb dX5_firstFault_103 (by decide) (fun c10 => ?_) (fun c10 => ?_)
            · have hf := qob_t hf c10
              refine lv_iload hx hb dX5_firstFault_139 (lv_at hl 5 rfl) ?_
              have hf := qob_esc hf
              have hf := qob_esc hf
              cases qob_ret hf
              exact ct_iret X hQ hK hP hD hS rfl dX5_firstFault_141
            · have hf := qob_f hf c10
              refine lv_iinc (v := (x2_2 + 1)) (lv' := [(2, .int (x2_2 + 1)), (0, .ref sc), (1, .int x1_1), (3, .int x3_2), (5, .int x5_2), (6, .int x6_1), (7, .int ((sc_bytes x6_1.toNatClampNeg) - 48))]) hx hb dX5_firstFault_106 hl (k := 2) rfl rfl (by decide) rfl (fun ls hl => ?_)
              refine lv_iload hx hb dX5_firstFault_109 (lv_at hl 6 rfl) ?_
              refine ctS_i0 (r := (fX5_opensRight ((sc_bytes x6_1.toNatClampNeg) - 48))) (wc := []) (As := [.int ((sc_bytes x6_1.toNatClampNeg) - 48)]) (rest := []) X hK hP hD hS [] rfl rfl rfl (KX5_opensRight rfl _) (va_cwS 1 hts gX5_firstFault_X5_opensRight rfl rfl rfl hdX5_opensRight ⟨Nat.le_of_ble_eq_true rfl, Nat.le_of_ble_eq_true rfl⟩) rfl hl rfl (Nat.le_of_ble_eq_true rfl) dX5_firstFault_111 (Nat.zero_le _) (Nat.zero_le _) (fun H locs hP hS => ?_)
              refine lv_topi (fun x4_3 e11 => ?_)
              have hf := qob_bd hf e11
              refine lv_istore (lv' := [(4, .int x4_3), (2, .int (x2_2 + 1)), (0, .ref sc), (1, .int x1_1), (3, .int x3_2), (5, .int x5_2), (6, .int x6_1), (7, .int ((sc_bytes x6_1.toNatClampNeg) - 48))]) hx hb dX5_firstFault_114 hl (by decide) rfl (fun ls hl => ?_)
              refine lv_iload hx hb dX5_firstFault_116 (lv_at hl 5 rfl) ?_
              refine qjoin1 hf (fun (s_2 : Int32) => ∀ (H : Heap) (locs : List Loc) (ls : Array Slot), ctW D A s ([oX5 sc q_sc_bytes sc_length, aI cy q_sc_bytes 41 sc_bytes]) H locs → lv_has ls 8 [(0, .ref sc), (1, .int x1_1), (2, .int (x2_2 + 1)), (3, .int x3_2), (4, .int x4_3), (6, .int x6_1)] → W p l e rmX5_firstFault s m args below meth c H locs 0 0 Q (F0 m 134 ls [.int s_2])) ?_ ?_
              · intro s_2 hf H locs ls ⟨hP, hD, hS⟩ hl
                refine lv_istore (lv' := [(5, .int s_2), (0, .ref sc), (1, .int x1_1), (2, .int (x2_2 + 1)), (3, .int x3_2), (4, .int x4_3), (6, .int x6_1)]) hx hb dX5_firstFault_134 hl (by decide) rfl (fun ls hl => ?_)
                refine lv_goto (tgt := 142) hx hb dX5_firstFault_136 (by decide) ?_
                refine lv_iinc (v := (x6_1 + 1)) (lv' := [(6, .int (x6_1 + 1)), (5, .int s_2), (0, .ref sc), (1, .int x1_1), (2, .int (x2_2 + 1)), (3, .int x3_2), (4, .int x4_3)]) hx hb dX5_firstFault_142 hl (k := 6) rfl rfl (by decide) rfl (fun ls hl => ?_)
                refine lv_goto (tgt := 15) hx hb dX5_firstFault_145 (by decide) ?_
                exact hL4 x1_1 (x2_2 + 1) x3_2 x4_3 s_2 (x6_1 + 1) hf _ _ _ ⟨hP, hD, hS⟩ (lv_sub hl [2, 3, 4, 5, 6, 1, 0] rfl)
              · intro J12 hJ12 hf
                refine lv_if_ne (tgt := 129) hx hb dX5_firstFault_118 (by decide) (fun c13 => ?_) (fun c13 => ?_)
                · have hf := qob_f hf c13
                  refine lv_iconst (v := 1) hx hb dX5_firstFault_129 (by decide) ?_
                  refine lv_goto (tgt := 134) hx hb dX5_firstFault_130 (by decide) ?_
                  exact hJ12 1 hf _ _ _ ⟨hP, hD, hS⟩ (lv_sub hl [2, 3, 1, 4, 0, 6] rfl)
                · have hf := qob_t hf c13
                  refine lv_iload hx hb dX5_firstFault_121 (lv_at hl 7 rfl) ?_
                  refine ctS_i0 (r := (fX5_opensDown ((sc_bytes x6_1.toNatClampNeg) - 48))) (wc := []) (As := [.int ((sc_bytes x6_1.toNatClampNeg) - 48)]) (rest := []) X hK hP hD hS [] rfl rfl rfl (KX5_opensDown rfl _) (va_cwS 1 hts gX5_firstFault_X5_opensDown rfl rfl rfl hdX5_opensDown ⟨Nat.le_of_ble_eq_true rfl, Nat.le_of_ble_eq_true rfl⟩) rfl hl rfl (Nat.le_of_ble_eq_true rfl) dX5_firstFault_123 (Nat.zero_le _) (Nat.zero_le _) (fun H locs hP hS => ?_)
                  refine lv_if_eq (tgt := 133) hx hb dX5_firstFault_126 (by decide) (fun c14 => ?_) (fun c14 => ?_)
                  · have hf := qob_t hf c14
                    refine lv_iconst (v := 0) hx hb dX5_firstFault_133 (by decide) ?_
                    exact hJ12 0 hf _ _ _ ⟨hP, hD, hS⟩ (lv_sub hl [2, 3, 1, 4, 0, 6] rfl)
                  · have hf := qob_f hf c14
                    refine lv_iconst (v := 1) hx hb dX5_firstFault_129 (by decide) ?_
                    refine lv_goto (tgt := 134) hx hb dX5_firstFault_130 (by decide) ?_
                    exact hJ12 1 hf _ _ _ ⟨hP, hD, hS⟩ (lv_sub hl [2, 3, 1, 4, 0, 6] rfl)
          · intro J15 hJ15 hf
            refine lv_if_ne (tgt := 99) hx hb dX5_firstFault_91 (by decide) (fun c16 => ?_) (fun c16 => ?_)
            · have hf := qob_f hf c16
              refine lv_iload_n hx hb dX5_firstFault_99 rfl (lv_at hl 4 rfl) ?_
              exact hJ15 x3_2 hf _ _ _ ⟨hP, hD, hS⟩ (lv_sub hl [1, 2, 3, 4, 6, 7, 0] rfl)
            · have hf := qob_t hf c16
              refine lv_bipush (v := 6) hx hb dX5_firstFault_94 (by decide) ?_
              refine lv_goto (tgt := 100) hx hb dX5_firstFault_96 (by decide) ?_
              exact hJ15 6 hf _ _ _ ⟨hP, hD, hS⟩ (lv_sub hl [1, 2, 3, 4, 6, 7, 0] rfl)
        · have hf := qob_t hf c9
          refine lv_iload_n hx hb dX5_firstFault_55 rfl (lv_at hl 2 rfl) ?_
          refine lv_iconst (v := 5) hx hb dX5_firstFault_56 (by decide) ?_
          refine lv_icmp_ge (tgt := 86) hx hb dX5_firstFault_57 (by decide) (fun c17 => ?_) (fun c17 => ?_)
          · have hf := qob_t hf c17
            refine lv_iload hx hb dX5_firstFault_86 (lv_at hl 0 rfl) ?_
            refine lv_iload_n hx hb dX5_firstFault_88 rfl (lv_at hl 2 rfl) ?_
            refine lv_iload_n hx hb dX5_firstFault_89 rfl (lv_at hl 3 rfl) ?_
            refine lv_iload_n hx hb dX5_firstFault_90 rfl (lv_at hl 4 rfl) ?_
            refine qjoin1 hf (fun (s_3 : Int32) => ∀ (H : Heap) (locs : List Loc) (ls : Array Slot), ctW D A s ([oX5 sc q_sc_bytes sc_length, aI cy q_sc_bytes 41 sc_bytes]) H locs → lv_has ls 8 [(0, .ref sc), (1, .int x1_1), (2, .int x2_2), (3, .int x3_2), (5, .int x5_2), (6, .int x6_1), (7, .int ((sc_bytes x6_1.toNatClampNeg) - 48))] → W p l e rmX5_firstFault s m args below meth c H locs 0 0 Q (F0 m 100 ls [.int s_3, .int x2_2, .int x1_1, .int ((sc_bytes x6_1.toNatClampNeg) - 48)])) ?_ ?_
            · intro s_3 hf H locs ls ⟨hP, hD, hS⟩ hl
              refine ctS_i0 (r := (fX5_figureFits ((sc_bytes x6_1.toNatClampNeg) - 48) x1_1 x2_2 s_3)) (wc := []) (As := [.int ((sc_bytes x6_1.toNatClampNeg) - 48), .int x1_1, .int x2_2, .int s_3]) (rest := []) X hK hP hD hS [] rfl rfl rfl (KX5_figureFits rfl _) (va_cwS 4 hts gX5_firstFault_X5_figureFits rfl rfl rfl hdX5_figureFits ⟨Nat.le_of_ble_eq_true rfl, Nat.le_of_ble_eq_true rfl⟩) rfl hl rfl (Nat.le_of_ble_eq_true rfl) dX5_firstFault_100 (Nat.zero_le _) (Nat.zero_le _) (fun H locs hP hS => ?_)
              refine lv_if_eq (tgt := 139) hx hb dX5_firstFault_103 (by decide) (fun c18 => ?_) (fun c18 => ?_)
              · have hf := qob_t hf c18
                refine lv_iload hx hb dX5_firstFault_139 (lv_at hl 5 rfl) ?_
                have hf := qob_esc hf
                have hf := qob_esc hf
                cases qob_ret hf
                exact ct_iret X hQ hK hP hD hS rfl dX5_firstFault_141
              · have hf := qob_f hf c18
                refine lv_iinc (v := (x2_2 + 1)) (lv' := [(2, .int (x2_2 + 1)), (0, .ref sc), (1, .int x1_1), (3, .int x3_2), (5, .int x5_2), (6, .int x6_1), (7, .int ((sc_bytes x6_1.toNatClampNeg) - 48))]) hx hb dX5_firstFault_106 hl (k := 2) rfl rfl (by decide) rfl (fun ls hl => ?_)
                refine lv_iload hx hb dX5_firstFault_109 (lv_at hl 6 rfl) ?_
                refine ctS_i0 (r := (fX5_opensRight ((sc_bytes x6_1.toNatClampNeg) - 48))) (wc := []) (As := [.int ((sc_bytes x6_1.toNatClampNeg) - 48)]) (rest := []) X hK hP hD hS [] rfl rfl rfl (KX5_opensRight rfl _) (va_cwS 1 hts gX5_firstFault_X5_opensRight rfl rfl rfl hdX5_opensRight ⟨Nat.le_of_ble_eq_true rfl, Nat.le_of_ble_eq_true rfl⟩) rfl hl rfl (Nat.le_of_ble_eq_true rfl) dX5_firstFault_111 (Nat.zero_le _) (Nat.zero_le _) (fun H locs hP hS => ?_)
                refine lv_topi (fun x4_4 e19 => ?_)
                have hf := qob_bd hf e19
                refine lv_istore (lv' := [(4, .int x4_4), (2, .int (x2_2 + 1)), (0, .ref sc), (1, .int x1_1), (3, .int x3_2), (5, .int x5_2), (6, .int x6_1), (7, .int ((sc_bytes x6_1.toNatClampNeg) - 48))]) hx hb dX5_firstFault_114 hl (by decide) rfl (fun ls hl => ?_)
                refine lv_iload hx hb dX5_firstFault_116 (lv_at hl 5 rfl) ?_
                refine qjoin1 hf (fun (s_4 : Int32) => ∀ (H : Heap) (locs : List Loc) (ls : Array Slot), ctW D A s ([oX5 sc q_sc_bytes sc_length, aI cy q_sc_bytes 41 sc_bytes]) H locs → lv_has ls 8 [(0, .ref sc), (1, .int x1_1), (2, .int (x2_2 + 1)), (3, .int x3_2), (4, .int x4_4), (6, .int x6_1)] → W p l e rmX5_firstFault s m args below meth c H locs 0 0 Q (F0 m 134 ls [.int s_4])) ?_ ?_
                · intro s_4 hf H locs ls ⟨hP, hD, hS⟩ hl
                  refine lv_istore (lv' := [(5, .int s_4), (0, .ref sc), (1, .int x1_1), (2, .int (x2_2 + 1)), (3, .int x3_2), (4, .int x4_4), (6, .int x6_1)]) hx hb dX5_firstFault_134 hl (by decide) rfl (fun ls hl => ?_)
                  refine lv_goto (tgt := 142) hx hb dX5_firstFault_136 (by decide) ?_
                  refine lv_iinc (v := (x6_1 + 1)) (lv' := [(6, .int (x6_1 + 1)), (5, .int s_4), (0, .ref sc), (1, .int x1_1), (2, .int (x2_2 + 1)), (3, .int x3_2), (4, .int x4_4)]) hx hb dX5_firstFault_142 hl (k := 6) rfl rfl (by decide) rfl (fun ls hl => ?_)
                  refine lv_goto (tgt := 15) hx hb dX5_firstFault_145 (by decide) ?_
                  exact hL4 x1_1 (x2_2 + 1) x3_2 x4_4 s_4 (x6_1 + 1) hf _ _ _ ⟨hP, hD, hS⟩ (lv_sub hl [2, 3, 4, 5, 6, 1, 0] rfl)
                · intro J20 hJ20 hf
                  refine lv_if_ne (tgt := 129) hx hb dX5_firstFault_118 (by decide) (fun c21 => ?_) (fun c21 => ?_)
                  · have hf := qob_f hf c21
                    refine lv_iconst (v := 1) hx hb dX5_firstFault_129 (by decide) ?_
                    refine lv_goto (tgt := 134) hx hb dX5_firstFault_130 (by decide) ?_
                    exact hJ20 1 hf _ _ _ ⟨hP, hD, hS⟩ (lv_sub hl [2, 3, 1, 4, 0, 6] rfl)
                  · have hf := qob_t hf c21
                    refine lv_iload hx hb dX5_firstFault_121 (lv_at hl 7 rfl) ?_
                    refine ctS_i0 (r := (fX5_opensDown ((sc_bytes x6_1.toNatClampNeg) - 48))) (wc := []) (As := [.int ((sc_bytes x6_1.toNatClampNeg) - 48)]) (rest := []) X hK hP hD hS [] rfl rfl rfl (KX5_opensDown rfl _) (va_cwS 1 hts gX5_firstFault_X5_opensDown rfl rfl rfl hdX5_opensDown ⟨Nat.le_of_ble_eq_true rfl, Nat.le_of_ble_eq_true rfl⟩) rfl hl rfl (Nat.le_of_ble_eq_true rfl) dX5_firstFault_123 (Nat.zero_le _) (Nat.zero_le _) (fun H locs hP hS => ?_)
                    refine lv_if_eq (tgt := 133) hx hb dX5_firstFault_126 (by decide) (fun c22 => ?_) (fun c22 => ?_)
                    · have hf := qob_t hf c22
                      refine lv_iconst (v := 0) hx hb dX5_firstFault_133 (by decide) ?_
                      exact hJ20 0 hf _ _ _ ⟨hP, hD, hS⟩ (lv_sub hl [2, 3, 1, 4, 0, 6] rfl)
                    · have hf := qob_f hf c22
                      refine lv_iconst (v := 1) hx hb dX5_firstFault_129 (by decide) ?_
                      refine lv_goto (tgt := 134) hx hb dX5_firstFault_130 (by decide) ?_
                      exact hJ20 1 hf _ _ _ ⟨hP, hD, hS⟩ (lv_sub hl [2, 3, 1, 4, 0, 6] rfl)
            · intro J23 hJ23 hf
              refine lv_if_ne (tgt := 99) hx hb dX5_firstFault_91 (by decide) (fun c24 => ?_) (fun c24 => ?_)
              · have hf := qob_f hf c24
                refine lv_iload_n hx hb dX5_firstFault_99 rfl (lv_at hl 4 rfl) ?_
                exact hJ23 x3_2 hf _ _ _ ⟨hP, hD, hS⟩ (lv_sub hl [1, 2, 3, 4, 6, 7, 0] rfl)
              · have hf := qob_t hf c24
                refine lv_bipush (v := 6) hx hb dX5_firstFault_94 (by decide) ?_
                refine lv_goto (tgt := 100) hx hb dX5_firstFault_96 (by decide) ?_
                exact hJ23 6 hf _ _ _ ⟨hP, hD, hS⟩ (lv_sub hl [1, 2, 3, 4, 6, 7, 0] rfl)
          · have hf := qob_f hf c17
            refine lv_iload_n hx hb dX5_firstFault_60 rfl (lv_at hl 3 rfl) ?_
            refine lv_iload_n hx hb dX5_firstFault_61 rfl (lv_at hl 4 rfl) ?_
            refine lv_iload hx hb dX5_firstFault_62 (lv_at hl 5 rfl) ?_
            refine ctS_i0 (r := (fX5_rowMayEnd x2_2 x3_2 x4_2)) (wc := []) (As := [.int x2_2, .int x3_2, .int x4_2]) (rest := []) X hK hP hD hS [] rfl rfl rfl (KX5_rowMayEnd rfl _) (va_cwS 3 hts gX5_firstFault_X5_rowMayEnd rfl rfl rfl hdX5_rowMayEnd ⟨Nat.le_of_ble_eq_true rfl, Nat.le_of_ble_eq_true rfl⟩) rfl hl rfl (Nat.le_of_ble_eq_true rfl) dX5_firstFault_64 (Nat.zero_le _) (Nat.zero_le _) (fun H locs hP hS => ?_)
            refine lv_if_eq (tgt := 86) hx hb dX5_firstFault_67 (by decide) (fun c25 => ?_) (fun c25 => ?_)
            · have hf := qob_t hf c25
              refine lv_iload hx hb dX5_firstFault_86 (lv_at hl 0 rfl) ?_
              refine lv_iload_n hx hb dX5_firstFault_88 rfl (lv_at hl 2 rfl) ?_
              refine lv_iload_n hx hb dX5_firstFault_89 rfl (lv_at hl 3 rfl) ?_
              refine lv_iload_n hx hb dX5_firstFault_90 rfl (lv_at hl 4 rfl) ?_
              refine qjoin1 hf (fun (s_5 : Int32) => ∀ (H : Heap) (locs : List Loc) (ls : Array Slot), ctW D A s ([oX5 sc q_sc_bytes sc_length, aI cy q_sc_bytes 41 sc_bytes]) H locs → lv_has ls 8 [(0, .ref sc), (1, .int x1_1), (2, .int x2_2), (3, .int x3_2), (5, .int x5_2), (6, .int x6_1), (7, .int ((sc_bytes x6_1.toNatClampNeg) - 48))] → W p l e rmX5_firstFault s m args below meth c H locs 0 0 Q (F0 m 100 ls [.int s_5, .int x2_2, .int x1_1, .int ((sc_bytes x6_1.toNatClampNeg) - 48)])) ?_ ?_
              · intro s_5 hf H locs ls ⟨hP, hD, hS⟩ hl
                refine ctS_i0 (r := (fX5_figureFits ((sc_bytes x6_1.toNatClampNeg) - 48) x1_1 x2_2 s_5)) (wc := []) (As := [.int ((sc_bytes x6_1.toNatClampNeg) - 48), .int x1_1, .int x2_2, .int s_5]) (rest := []) X hK hP hD hS [] rfl rfl rfl (KX5_figureFits rfl _) (va_cwS 4 hts gX5_firstFault_X5_figureFits rfl rfl rfl hdX5_figureFits ⟨Nat.le_of_ble_eq_true rfl, Nat.le_of_ble_eq_true rfl⟩) rfl hl rfl (Nat.le_of_ble_eq_true rfl) dX5_firstFault_100 (Nat.zero_le _) (Nat.zero_le _) (fun H locs hP hS => ?_)
                refine lv_if_eq (tgt := 139) hx hb dX5_firstFault_103 (by decide) (fun c26 => ?_) (fun c26 => ?_)
                · have hf := qob_t hf c26
                  refine lv_iload hx hb dX5_firstFault_139 (lv_at hl 5 rfl) ?_
                  have hf := qob_esc hf
                  have hf := qob_esc hf
                  cases qob_ret hf
                  exact ct_iret X hQ hK hP hD hS rfl dX5_firstFault_141
                · have hf := qob_f hf c26
                  refine lv_iinc (v := (x2_2 + 1)) (lv' := [(2, .int (x2_2 + 1)), (0, .ref sc), (1, .int x1_1), (3, .int x3_2), (5, .int x5_2), (6, .int x6_1), (7, .int ((sc_bytes x6_1.toNatClampNeg) - 48))]) hx hb dX5_firstFault_106 hl (k := 2) rfl rfl (by decide) rfl (fun ls hl => ?_)
                  refine lv_iload hx hb dX5_firstFault_109 (lv_at hl 6 rfl) ?_
                  refine ctS_i0 (r := (fX5_opensRight ((sc_bytes x6_1.toNatClampNeg) - 48))) (wc := []) (As := [.int ((sc_bytes x6_1.toNatClampNeg) - 48)]) (rest := []) X hK hP hD hS [] rfl rfl rfl (KX5_opensRight rfl _) (va_cwS 1 hts gX5_firstFault_X5_opensRight rfl rfl rfl hdX5_opensRight ⟨Nat.le_of_ble_eq_true rfl, Nat.le_of_ble_eq_true rfl⟩) rfl hl rfl (Nat.le_of_ble_eq_true rfl) dX5_firstFault_111 (Nat.zero_le _) (Nat.zero_le _) (fun H locs hP hS => ?_)
                  refine lv_topi (fun x4_5 e27 => ?_)
                  have hf := qob_bd hf e27
                  refine lv_istore (lv' := [(4, .int x4_5), (2, .int (x2_2 + 1)), (0, .ref sc), (1, .int x1_1), (3, .int x3_2), (5, .int x5_2), (6, .int x6_1), (7, .int ((sc_bytes x6_1.toNatClampNeg) - 48))]) hx hb dX5_firstFault_114 hl (by decide) rfl (fun ls hl => ?_)
                  refine lv_iload hx hb dX5_firstFault_116 (lv_at hl 5 rfl) ?_
                  refine qjoin1 hf (fun (s_6 : Int32) => ∀ (H : Heap) (locs : List Loc) (ls : Array Slot), ctW D A s ([oX5 sc q_sc_bytes sc_length, aI cy q_sc_bytes 41 sc_bytes]) H locs → lv_has ls 8 [(0, .ref sc), (1, .int x1_1), (2, .int (x2_2 + 1)), (3, .int x3_2), (4, .int x4_5), (6, .int x6_1)] → W p l e rmX5_firstFault s m args below meth c H locs 0 0 Q (F0 m 134 ls [.int s_6])) ?_ ?_
                  · intro s_6 hf H locs ls ⟨hP, hD, hS⟩ hl
                    refine lv_istore (lv' := [(5, .int s_6), (0, .ref sc), (1, .int x1_1), (2, .int (x2_2 + 1)), (3, .int x3_2), (4, .int x4_5), (6, .int x6_1)]) hx hb dX5_firstFault_134 hl (by decide) rfl (fun ls hl => ?_)
                    refine lv_goto (tgt := 142) hx hb dX5_firstFault_136 (by decide) ?_
                    refine lv_iinc (v := (x6_1 + 1)) (lv' := [(6, .int (x6_1 + 1)), (5, .int s_6), (0, .ref sc), (1, .int x1_1), (2, .int (x2_2 + 1)), (3, .int x3_2), (4, .int x4_5)]) hx hb dX5_firstFault_142 hl (k := 6) rfl rfl (by decide) rfl (fun ls hl => ?_)
                    refine lv_goto (tgt := 15) hx hb dX5_firstFault_145 (by decide) ?_
                    exact hL4 x1_1 (x2_2 + 1) x3_2 x4_5 s_6 (x6_1 + 1) hf _ _ _ ⟨hP, hD, hS⟩ (lv_sub hl [2, 3, 4, 5, 6, 1, 0] rfl)
                  · intro J28 hJ28 hf
                    refine lv_if_ne (tgt := 129) hx hb dX5_firstFault_118 (by decide) (fun c29 => ?_) (fun c29 => ?_)
                    · have hf := qob_f hf c29
                      refine lv_iconst (v := 1) hx hb dX5_firstFault_129 (by decide) ?_
                      refine lv_goto (tgt := 134) hx hb dX5_firstFault_130 (by decide) ?_
                      exact hJ28 1 hf _ _ _ ⟨hP, hD, hS⟩ (lv_sub hl [2, 3, 1, 4, 0, 6] rfl)
                    · have hf := qob_t hf c29
                      refine lv_iload hx hb dX5_firstFault_121 (lv_at hl 7 rfl) ?_
                      refine ctS_i0 (r := (fX5_opensDown ((sc_bytes x6_1.toNatClampNeg) - 48))) (wc := []) (As := [.int ((sc_bytes x6_1.toNatClampNeg) - 48)]) (rest := []) X hK hP hD hS [] rfl rfl rfl (KX5_opensDown rfl _) (va_cwS 1 hts gX5_firstFault_X5_opensDown rfl rfl rfl hdX5_opensDown ⟨Nat.le_of_ble_eq_true rfl, Nat.le_of_ble_eq_true rfl⟩) rfl hl rfl (Nat.le_of_ble_eq_true rfl) dX5_firstFault_123 (Nat.zero_le _) (Nat.zero_le _) (fun H locs hP hS => ?_)
                      refine lv_if_eq (tgt := 133) hx hb dX5_firstFault_126 (by decide) (fun c30 => ?_) (fun c30 => ?_)
                      · have hf := qob_t hf c30
                        refine lv_iconst (v := 0) hx hb dX5_firstFault_133 (by decide) ?_
                        exact hJ28 0 hf _ _ _ ⟨hP, hD, hS⟩ (lv_sub hl [2, 3, 1, 4, 0, 6] rfl)
                      · have hf := qob_f hf c30
                        refine lv_iconst (v := 1) hx hb dX5_firstFault_129 (by decide) ?_
                        refine lv_goto (tgt := 134) hx hb dX5_firstFault_130 (by decide) ?_
                        exact hJ28 1 hf _ _ _ ⟨hP, hD, hS⟩ (lv_sub hl [2, 3, 1, 4, 0, 6] rfl)
              · intro J31 hJ31 hf
                refine lv_if_ne (tgt := 99) hx hb dX5_firstFault_91 (by decide) (fun c32 => ?_) (fun c32 => ?_)
                · have hf := qob_f hf c32
                  refine lv_iload_n hx hb dX5_firstFault_99 rfl (lv_at hl 4 rfl) ?_
                  exact hJ31 x3_2 hf _ _ _ ⟨hP, hD, hS⟩ (lv_sub hl [1, 2, 3, 4, 6, 7, 0] rfl)
                · have hf := qob_t hf c32
                  refine lv_bipush (v := 6) hx hb dX5_firstFault_94 (by decide) ?_
                  refine lv_goto (tgt := 100) hx hb dX5_firstFault_96 (by decide) ?_
                  exact hJ31 6 hf _ _ _ ⟨hP, hD, hS⟩ (lv_sub hl [1, 2, 3, 4, 6, 7, 0] rfl)
            · have hf := qob_f hf c25
              refine lv_iload_n hx hb dX5_firstFault_70 rfl (lv_at hl 3 rfl) ?_
              refine lv_istore_n (lv' := [(3, .int x2_2), (7, .int ((sc_bytes x6_1.toNatClampNeg) - 48)), (0, .ref sc), (1, .int x1_1), (2, .int x2_2), (4, .int x4_2), (5, .int x5_2), (6, .int x6_1)]) hx hb dX5_firstFault_71 rfl hl (by decide) rfl (fun ls hl => ?_)
              refine lv_iinc (v := (x1_1 + 1)) (lv' := [(1, .int (x1_1 + 1)), (3, .int x2_2), (7, .int ((sc_bytes x6_1.toNatClampNeg) - 48)), (0, .ref sc), (2, .int x2_2), (4, .int x4_2), (5, .int x5_2), (6, .int x6_1)]) hx hb dX5_firstFault_72 hl (k := 3) rfl rfl (by decide) rfl (fun ls hl => ?_)
              refine lv_iconst (v := 0) hx hb dX5_firstFault_75 (by decide) ?_
              refine lv_istore_n (lv' := [(2, .int 0), (1, .int (x1_1 + 1)), (3, .int x2_2), (7, .int ((sc_bytes x6_1.toNatClampNeg) - 48)), (0, .ref sc), (4, .int x4_2), (5, .int x5_2), (6, .int x6_1)]) hx hb dX5_firstFault_76 rfl hl (by decide) rfl (fun ls hl => ?_)
              refine lv_iconst (v := 0) hx hb dX5_firstFault_77 (by decide) ?_
              refine lv_istore (lv' := [(4, .int 0), (2, .int 0), (1, .int (x1_1 + 1)), (3, .int x2_2), (7, .int ((sc_bytes x6_1.toNatClampNeg) - 48)), (0, .ref sc), (5, .int x5_2), (6, .int x6_1)]) hx hb dX5_firstFault_78 hl (by decide) rfl (fun ls hl => ?_)
              refine lv_iconst (v := 0) hx hb dX5_firstFault_80 (by decide) ?_
              refine lv_istore (lv' := [(5, .int 0), (4, .int 0), (2, .int 0), (1, .int (x1_1 + 1)), (3, .int x2_2), (7, .int ((sc_bytes x6_1.toNatClampNeg) - 48)), (0, .ref sc), (6, .int x6_1)]) hx hb dX5_firstFault_81 hl (by decide) rfl (fun ls hl => ?_)
              refine lv_goto (tgt := 142) hx hb dX5_firstFault_83 (by decide) ?_
              refine lv_iinc (v := (x6_1 + 1)) (lv' := [(6, .int (x6_1 + 1)), (5, .int 0), (4, .int 0), (2, .int 0), (1, .int (x1_1 + 1)), (3, .int x2_2), (7, .int ((sc_bytes x6_1.toNatClampNeg) - 48)), (0, .ref sc)]) hx hb dX5_firstFault_142 hl (k := 7) rfl rfl (by decide) rfl (fun ls hl => ?_)
              refine lv_goto (tgt := 15) hx hb dX5_firstFault_145 (by decide) ?_
              exact hL4 (x1_1 + 1) 0 x2_2 0 0 (x6_1 + 1) hf _ _ _ ⟨hP, hD, hS⟩ (lv_sub hl [7, 4, 3, 5, 2, 1, 0] rfl)
theorem inwX5_firstWidth_X5 : ∀ w ∈ wsX50, w ∈ wsX5_firstWidth := fun _ h => List.mem_cons_of_mem _ (List.mem_append_right _ h)
abbrev rmX5_firstWidth : Room := { frames := 0, cells := 0, slots := 0, locals := 0 }
theorem hdX5_firstWidth : yX5_firstWidth.cls = RX5 ∧ yX5_firstWidth.cls ≠ "java/lang/invoke/MethodHandle" ∧ yX5_firstWidth.cls ≠ "java/lang/invoke/VarHandle" ∧ (parseMethodDescriptor yX5_firstWidth.desc).map (fun d => d.parameters.length) = some 0 := by decide +kernel
set_option maxHeartbeats 4000000 in
set_option maxRecDepth 100000 in
theorem KX5_firstWidth {l : Launch} {D : va_G} {cy : Nat → ClassId} {sc q_sc_bytes : Nat} {sc_length : Int32} {sc_bytes : Nat → Int32}  {r : Int32} (hf : fX5_firstWidth sc_length sc_bytes = some r) : CtI l yX5_firstWidth wsX5_firstWidth rmX5_firstWidth D cy [.ref sc] ([oX5 sc q_sc_bytes sc_length, aI cy q_sc_bytes 41 sc_bytes]) ([oX5 sc q_sc_bytes sc_length, aI cy q_sc_bytes 41 sc_bytes]) r := by
  refine CtI.of (cc := cX5_firstWidth) (maxL := 2) (ret := some .int) (own := RX5) (by decide) rfl rfl (Nat.le_of_ble_eq_true rfl) ?_
  intro p e s m args below meth c A Q X hQ hK hP hD hS ls hl
  obtain ⟨hx, hb, hml, hown, hts, hr, hlocks, hA, hZ⟩ := id X
  have hl : lv_has ls 2 [(0, .ref sc)] := hl
  unfold fX5_firstWidth at hf
  have hf := qob_top hf
  refine lv_iconst (v := 0) hx hb dX5_firstWidth_0 (by decide) ?_
  refine lv_istore_n (lv' := [(1, .int 0), (0, .ref sc)]) hx hb dX5_firstWidth_1 rfl hl (by decide) rfl (fun ls hl => ?_)
  refine qjoin1 hf (fun (x1_1 : Int32) => ∀ (H : Heap) (locs : List Loc) (ls : Array Slot), ctW D A s ([oX5 sc q_sc_bytes sc_length, aI cy q_sc_bytes 41 sc_bytes]) H locs → lv_has ls 2 [(1, .int x1_1)] → W p l e rmX5_firstWidth s m args below meth c H locs 0 0 Q (F0 m 33 ls [])) ?_ ?_
  · intro x1_1 hf H locs ls ⟨hP, hD, hS⟩ hl
    refine lv_iload_n hx hb dX5_firstWidth_33 rfl (lv_at hl 0 rfl) ?_
    cases qob_ret hf
    exact ct_iret X hQ hK hP hD hS rfl dX5_firstWidth_34
  · intro J1 hJ1 hf
    refine qwalk1 (fun (x1_2 : Int32) => ∀ (H : Heap) (locs : List Loc) (ls : Array Slot), ctW D A s ([oX5 sc q_sc_bytes sc_length, aI cy q_sc_bytes 41 sc_bytes]) H locs → lv_has ls 2 [(0, .ref sc), (1, .int x1_2)] → W p l e rmX5_firstWidth s m args below meth c H locs 0 0 Q (F0 m 2 ls [])) ?_ _ (0 : Int32) hf _ _ _ ⟨hP, hD, hS⟩ (lv_sub hl [1, 0] rfl)
    intro J2 hL2 x1_2 hf H locs ls ⟨hP, hD, hS⟩ hl
    refine lv_iload_n hx hb dX5_firstWidth_2 rfl (lv_at hl 1 rfl) ?_
    refine lv_aload_n hx hb dX5_firstWidth_3 rfl (lv_at hl 0 rfl) ?_
    refine va_get (D := D) (ci := 5) (v := .int sc_length) (C := RX5) (T := TX5) (N := 2) hx hb hts inwX5_firstWidth_X5 hown hK hP 0 rfl rfl 1 (by decide) (hts (.fieldLink RX5 15 "HedgeWays$Scroll" "length" "I") (List.mem_of_getElem? (i := 1) rfl)) (fun _ h9 => h9) rfl dX5_firstWidth_4 ?_
    refine lv_icmp_ge (tgt := 33) hx hb dX5_firstWidth_7 (by decide) (fun c3 => ?_) (fun c3 => ?_)
    · have hf := qob_t hf c3
      have hf := qob_esc hf
      exact hJ1 x1_2 hf _ _ _ ⟨hP, hD, hS⟩ (lv_sub hl [1] rfl)
    · have hf := qob_f hf c3
      refine lv_iload_n hx hb dX5_firstWidth_10 rfl (lv_at hl 1 rfl) ?_
      refine lv_bipush (v := 6) hx hb dX5_firstWidth_11 (by decide) ?_
      refine lv_icmp_ge (tgt := 33) hx hb dX5_firstWidth_13 (by decide) (fun c4 => ?_) (fun c4 => ?_)
      · have hf := qob_t hf c4
        have hf := qob_esc hf
        exact hJ1 x1_2 hf _ _ _ ⟨hP, hD, hS⟩ (lv_sub hl [1] rfl)
      · have hf := qob_f hf c4
        refine lv_aload_n hx hb dX5_firstWidth_16 rfl (lv_at hl 0 rfl) ?_
        refine va_get (D := D) (ci := 5) (v := .ref q_sc_bytes) (C := RX5) (T := TX5) (N := 2) hx hb hts inwX5_firstWidth_X5 hown hK hP 0 rfl rfl 0 (by decide) (hts (.fieldLink RX5 9 "HedgeWays$Scroll" "bytes" "[I") (List.mem_of_getElem? (i := 2) rfl)) (fun _ h9 => h9) rfl dX5_firstWidth_17 ?_
        refine lv_iload_n hx hb dX5_firstWidth_20 rfl (lv_at hl 1 rfl) ?_
        obtain ⟨i5, hf⟩ := qob_gd hf
        refine va_iald hx hb hK hP 1 0 rfl rfl i5 dX5_firstWidth_21 ?_
        refine lv_bipush (v := 47) hx hb dX5_firstWidth_22 (by decide) ?_
        refine lv_icmp_eq (tgt := 33) hx hb dX5_firstWidth_24 (by decide) (fun c6 => ?_) (fun c6 => ?_)
        · have hf := qob_t hf c6
          have hf := qob_esc hf
          exact hJ1 x1_2 hf _ _ _ ⟨hP, hD, hS⟩ (lv_sub hl [1] rfl)
        · have hf := qob_f hf c6
          refine lv_iinc (v := (x1_2 + 1)) (lv' := [(1, .int (x1_2 + 1)), (0, .ref sc)]) hx hb dX5_firstWidth_27 hl (k := 1) rfl rfl (by decide) rfl (fun ls hl => ?_)
          refine lv_goto (tgt := 2) hx hb dX5_firstWidth_30 (by decide) ?_
          exact hL2 (x1_2 + 1) hf _ _ _ ⟨hP, hD, hS⟩ (lv_sub hl [1, 0] rfl)
theorem inwX5_copyTo_X5 : ∀ w ∈ wsX50, w ∈ wsX5_copyTo := fun _ h => List.mem_cons_of_mem _ (List.mem_append_left _ (List.mem_append_right _ h))
abbrev rmX5_copyTo : Room := { frames := 3, cells := 0, slots := 0, locals := 71 }
theorem hdX5_copyTo : yX5_copyTo.cls = RX5 ∧ yX5_copyTo.cls ≠ "java/lang/invoke/MethodHandle" ∧ yX5_copyTo.cls ≠ "java/lang/invoke/VarHandle" ∧ (parseMethodDescriptor yX5_copyTo.desc).map (fun d => d.parameters.length) = some 1 := by decide +kernel
set_option maxHeartbeats 4000000 in
set_option maxRecDepth 100000 in
theorem KX5_copyTo {l : Launch} {D : va_G} {cy : Nat → ClassId} {sc q_sc_bytes g : Nat} {sc_length : Int32} {sc_bytes : Nat → Int32} {g_rows : Int32} {g_columns : Int32} {g_a : Int32} {g_b : Int32} {g_cells : Int64} {g_right : Int64} {g_down : Int64}  {g_rows' : Int32} {g_columns' : Int32} {g_a' : Int32} {g_b' : Int32} {g_cells' : Int64} {g_right' : Int64} {g_down' : Int64} (hf : fX5_copyTo sc_length sc_bytes g_rows g_columns g_a g_b g_cells g_right g_down = some (g_rows', g_columns', g_a', g_b', g_cells', g_right', g_down')) : CtV l yX5_copyTo wsX5_copyTo rmX5_copyTo D cy [.ref sc, .ref g] ([oX5 sc q_sc_bytes sc_length, aI cy q_sc_bytes 41 sc_bytes, oX1 g g_rows g_columns g_a g_b g_cells g_right g_down]) ([oX5 sc q_sc_bytes sc_length, aI cy q_sc_bytes 41 sc_bytes, oX1 g g_rows' g_columns' g_a' g_b' g_cells' g_right' g_down']) := by
  refine CtV.of (cc := cX5_copyTo) (maxL := 7) (ret := none) (own := RX5) (by decide) rfl rfl (Nat.le_of_ble_eq_true rfl) ?_
  intro p e s m args below meth c A Q X hQ hK hP hD hS ls hl
  obtain ⟨hx, hb, hml, hown, hts, hr, hlocks, hA, hZ⟩ := id X
  have hl : lv_has ls 7 [(0, .ref sc), (1, .ref g)] := hl
  unfold fX5_copyTo at hf
  have hf := qob_top hf
  refine lv_aload_n hx hb dX5_copyTo_0 rfl (lv_at hl 0 rfl) ?_
  obtain ⟨r_1, q1, hf⟩ := qcall1 hf
  refine ctV_i0 (r := r_1) (wc := [oX5 sc q_sc_bytes sc_length, aI cy q_sc_bytes 41 sc_bytes]) (As := []) (rest := []) (q0 := 0) X hK hP hD hS [0, 1] rfl rfl rfl (KX5_firstWidth q1 _) (cwV 0 hts gX5_copyTo_X5_firstWidth rfl rfl rfl hdX5_firstWidth ⟨Nat.le_of_ble_eq_true rfl, Nat.le_of_ble_eq_true rfl⟩) rfl rfl rfl hl rfl (Nat.le_of_ble_eq_true rfl) dX5_copyTo_1 (Nat.zero_le _) (Nat.zero_le _) (fun H locs hP hS => ?_)
  refine lv_istore_n (lv' := [(2, .int r_1), (0, .ref sc), (1, .ref g)]) hx hb dX5_copyTo_4 rfl hl (by decide) rfl (fun ls hl => ?_)
  refine lv_iload_n hx hb dX5_copyTo_5 rfl (lv_at hl 0 rfl) ?_
  refine lv_iconst (v := 1) hx hb dX5_copyTo_6 (by decide) ?_
  refine lv_icmp_ge (tgt := 11) hx hb dX5_copyTo_7 (by decide) (fun c2 => ?_) (fun c2 => ?_)
  · have hf := qob_t hf c2
    refine lv_aload_n hx hb dX5_copyTo_11 rfl (lv_at hl 2 rfl) ?_
    refine lv_aload_n hx hb dX5_copyTo_12 rfl (lv_at hl 1 rfl) ?_
    refine va_get (D := D) (ci := 5) (v := .int sc_length) (C := RX5) (T := TX5) (N := 2) hx hb hts inwX5_copyTo_X5 hown hK hP 0 rfl rfl 1 (by decide) (hts (.fieldLink RX5 15 "HedgeWays$Scroll" "length" "I") (List.mem_of_getElem? (i := 1) rfl)) (fun _ h9 => h9) rfl dX5_copyTo_13 ?_
    refine lv_iconst (v := 1) hx hb dX5_copyTo_16 (by decide) ?_
    refine lv_iadd hx hb dX5_copyTo_17 ?_
    refine lv_iload_n hx hb dX5_copyTo_18 rfl (lv_at hl 0 rfl) ?_
    refine lv_iconst (v := 1) hx hb dX5_copyTo_19 (by decide) ?_
    refine lv_iadd hx hb dX5_copyTo_20 ?_
    obtain ⟨z3, hf⟩ := qob_gz hf
    refine lv_idiv hx hb dX5_copyTo_21 z3 ?_
    refine lv_iload_n hx hb dX5_copyTo_22 rfl (lv_at hl 0 rfl) ?_
    obtain ⟨g_rows_1, g_columns_1, g_a_1, g_b_1, g_cells_1, g_right_1, g_down_1, q4, hf⟩ := qcall7 hf
    refine ctV_v (wc := [oX1 g g_rows g_columns g_a g_b g_cells g_right g_down]) (w1 := [oX1 g g_rows_1 g_columns_1 g_a_1 g_b_1 g_cells_1 g_right_1 g_down_1]) (wr := [oX5 sc q_sc_bytes sc_length, aI cy q_sc_bytes 41 sc_bytes]) (wn := [oX5 sc q_sc_bytes sc_length, aI cy q_sc_bytes 41 sc_bytes, oX1 g g_rows_1 g_columns_1 g_a_1 g_b_1 g_cells_1 g_right_1 g_down_1]) (As := [.int ((sc_length + 1) / (r_1 + 1)), .int r_1]) (rest := []) (q0 := 2) X hK hP hD hS [2] [0, 1] [0, 1, 2] rfl rfl rfl rfl rfl (by decide) rfl rfl rfl (KX1_shutAll q4 _) (cwV 2 hts gX5_copyTo_X1_shutAll rfl rfl rfl hdX1_shutAll ⟨Nat.le_of_ble_eq_true rfl, Nat.le_of_ble_eq_true rfl⟩) rfl rfl rfl hl rfl (Nat.le_of_ble_eq_true rfl) dX5_copyTo_23 (Nat.zero_le _) (Nat.zero_le _) (fun H locs hP hD hS => ?_)
    refine lv_iconst (v := 0) hx hb dX5_copyTo_26 (by decide) ?_
    refine lv_istore_n (lv' := [(3, .int 0), (2, .int r_1), (0, .ref sc), (1, .ref g)]) hx hb dX5_copyTo_27 rfl hl (by decide) rfl (fun ls hl => ?_)
    refine qjoin2 hf (fun (g_right_2 : Int64) (g_down_2 : Int64) => ∀ (H : Heap) (locs : List Loc) (ls : Array Slot), ctW D A s ([oX5 sc q_sc_bytes sc_length, aI cy q_sc_bytes 41 sc_bytes, oX1 g g_rows_1 g_columns_1 g_a_1 g_b_1 g_cells_1 g_right_2 g_down_2]) H locs → lv_has ls 7 [] → W p l e rmX5_copyTo s m args below meth c H locs 0 0 Q (F0 m 109 ls [])) ?_ ?_
    · intro g_right_2 g_down_2 hf H locs ls ⟨hP, hD, hS⟩ hl
      cases qob_ret hf
      exact ct_vret X hQ hK hP hD hS dX5_copyTo_109
    · intro J5 hJ5 hf
      refine qwalk3 (fun (x3_1 : Int32) (g_right_3 : Int64) (g_down_3 : Int64) => ∀ (H : Heap) (locs : List Loc) (ls : Array Slot), ctW D A s ([oX5 sc q_sc_bytes sc_length, aI cy q_sc_bytes 41 sc_bytes, oX1 g g_rows_1 g_columns_1 g_a_1 g_b_1 g_cells_1 g_right_3 g_down_3]) H locs → lv_has ls 7 [(0, .ref sc), (1, .ref g), (2, .int r_1), (3, .int x3_1)] → W p l e rmX5_copyTo s m args below meth c H locs 0 0 Q (F0 m 28 ls [])) ?_ _ (0 : Int32) g_right_1 g_down_1 hf _ _ _ ⟨hP, hD, hS⟩ (lv_sub hl [2, 3, 1, 0] rfl)
      intro J6 hL6 x3_1 g_right_3 g_down_3 hf H locs ls ⟨hP, hD, hS⟩ hl
      refine lv_iload_n hx hb dX5_copyTo_28 rfl (lv_at hl 3 rfl) ?_
      refine lv_aload_n hx hb dX5_copyTo_29 rfl (lv_at hl 0 rfl) ?_
      refine va_get (D := D) (ci := 5) (v := .int sc_length) (C := RX5) (T := TX5) (N := 2) hx hb hts inwX5_copyTo_X5 hown hK hP 0 rfl rfl 1 (by decide) (hts (.fieldLink RX5 15 "HedgeWays$Scroll" "length" "I") (List.mem_of_getElem? (i := 1) rfl)) (fun _ h9 => h9) rfl dX5_copyTo_30 ?_
      refine lv_icmp_ge (tgt := 109) hx hb dX5_copyTo_33 (by decide) (fun c7 => ?_) (fun c7 => ?_)
      · have hf := qob_t hf c7
        have hf := qob_esc hf
        exact hJ5 g_right_3 g_down_3 hf _ _ _ ⟨hP, hD, hS⟩ (lv_sub hl [] rfl)
      · have hf := qob_f hf c7
        refine lv_iload_n hx hb dX5_copyTo_36 rfl (lv_at hl 3 rfl) ?_
        refine lv_bipush (v := 41) hx hb dX5_copyTo_37 (by decide) ?_
        refine lv_icmp_ge (tgt := 109) hx hb dX5_copyTo_39 (by decide) (fun c8 => ?_) (fun c8 => ?_)
        · have hf := qob_t hf c8
          have hf := qob_esc hf
          exact hJ5 g_right_3 g_down_3 hf _ _ _ ⟨hP, hD, hS⟩ (lv_sub hl [] rfl)
        · have hf := qob_f hf c8
          refine lv_iload_n hx hb dX5_copyTo_42 rfl (lv_at hl 3 rfl) ?_
          refine lv_iload_n hx hb dX5_copyTo_43 rfl (lv_at hl 2 rfl) ?_
          refine lv_iconst (v := 1) hx hb dX5_copyTo_44 (by decide) ?_
          refine lv_iadd hx hb dX5_copyTo_45 ?_
          obtain ⟨z9, hf⟩ := qob_gz hf
          refine lv_irem hx hb dX5_copyTo_46 z9 ?_
          refine lv_istore (lv' := [(4, .int (qrem x3_1 (r_1 + 1))), (0, .ref sc), (1, .ref g), (2, .int r_1), (3, .int x3_1)]) hx hb dX5_copyTo_47 hl (by decide) rfl (fun ls hl => ?_)
          refine lv_iload hx hb dX5_copyTo_49 (lv_at hl 0 rfl) ?_
          refine lv_iload_n hx hb dX5_copyTo_51 rfl (lv_at hl 3 rfl) ?_
          refine lv_icmp_ge (tgt := 103) hx hb dX5_copyTo_52 (by decide) (fun c10 => ?_) (fun c10 => ?_)
          · have hf := qob_t hf c10
            refine lv_iinc (v := (x3_1 + 1)) (lv' := [(3, .int (x3_1 + 1)), (4, .int (qrem x3_1 (r_1 + 1))), (0, .ref sc), (1, .ref g), (2, .int r_1)]) hx hb dX5_copyTo_103 hl (k := 4) rfl rfl (by decide) rfl (fun ls hl => ?_)
            refine lv_goto (tgt := 28) hx hb dX5_copyTo_106 (by decide) ?_
            exact hL6 (x3_1 + 1) g_right_3 g_down_3 hf _ _ _ ⟨hP, hD, hS⟩ (lv_sub hl [2, 3, 4, 0] rfl)
          · have hf := qob_f hf c10
            refine lv_iload_n hx hb dX5_copyTo_55 rfl (lv_at hl 4 rfl) ?_
            refine lv_iload_n hx hb dX5_copyTo_56 rfl (lv_at hl 3 rfl) ?_
            refine lv_iconst (v := 1) hx hb dX5_copyTo_57 (by decide) ?_
            refine lv_iadd hx hb dX5_copyTo_58 ?_
            obtain ⟨z11, hf⟩ := qob_gz hf
            refine lv_idiv hx hb dX5_copyTo_59 z11 ?_
            refine lv_bipush (v := 8) hx hb dX5_copyTo_60 (by decide) ?_
            refine lv_imul hx hb dX5_copyTo_62 ?_
            refine lv_iload hx hb dX5_copyTo_63 (lv_at hl 0 rfl) ?_
            refine lv_iadd hx hb dX5_copyTo_65 ?_
            refine lv_topi (fun x5_1 e12 => ?_)
            have hf := qob_bd hf e12
            refine lv_istore (lv' := [(5, .int x5_1), (4, .int (qrem x3_1 (r_1 + 1))), (0, .ref sc), (1, .ref g), (2, .int r_1), (3, .int x3_1)]) hx hb dX5_copyTo_66 hl (by decide) rfl (fun ls hl => ?_)
            refine lv_aload_n hx hb dX5_copyTo_68 rfl (lv_at hl 2 rfl) ?_
            refine va_get (D := D) (ci := 5) (v := .ref q_sc_bytes) (C := RX5) (T := TX5) (N := 2) hx hb hts inwX5_copyTo_X5 hown hK hP 0 rfl rfl 0 (by decide) (hts (.fieldLink RX5 9 "HedgeWays$Scroll" "bytes" "[I") (List.mem_of_getElem? (i := 2) rfl)) (fun _ h9 => h9) rfl dX5_copyTo_69 ?_
            refine lv_iload_n hx hb dX5_copyTo_72 rfl (lv_at hl 5 rfl) ?_
            obtain ⟨i13, hf⟩ := qob_gd hf
            refine va_iald hx hb hK hP 1 0 rfl rfl i13 dX5_copyTo_73 ?_
            refine lv_bipush (v := 48) hx hb dX5_copyTo_74 (by decide) ?_
            refine lv_isub hx hb dX5_copyTo_76 ?_
            refine lv_istore (lv' := [(6, .int ((sc_bytes x3_1.toNatClampNeg) - 48)), (5, .int x5_1), (4, .int (qrem x3_1 (r_1 + 1))), (0, .ref sc), (1, .ref g), (2, .int r_1), (3, .int x3_1)]) hx hb dX5_copyTo_77 hl (by decide) rfl (fun ls hl => ?_)
            refine lv_aload_n hx hb dX5_copyTo_79 rfl (lv_at hl 4 rfl) ?_
            refine lv_iload hx hb dX5_copyTo_80 (lv_at hl 1 rfl) ?_
            refine lv_iconst (v := 1) hx hb dX5_copyTo_82 (by decide) ?_
            refine lv_iload hx hb dX5_copyTo_83 (lv_at hl 0 rfl) ?_
            refine ctS_i0 (r := (fX5_opensRight ((sc_bytes x3_1.toNatClampNeg) - 48))) (wc := []) (As := [.int ((sc_bytes x3_1.toNatClampNeg) - 48)]) (rest := [.int 1, .int x5_1, .ref g]) X hK hP hD hS [] rfl rfl rfl (KX5_opensRight rfl _) (va_cwS 1 hts gX5_copyTo_X5_opensRight rfl rfl rfl hdX5_opensRight ⟨Nat.le_of_ble_eq_true rfl, Nat.le_of_ble_eq_true rfl⟩) rfl hl rfl (Nat.le_of_ble_eq_true rfl) dX5_copyTo_85 (Nat.zero_le _) (Nat.zero_le _) (fun H locs hP hS => ?_)
            obtain ⟨g_right_4, g_down_4, q14, hf⟩ := qcallT2 hf
            refine ctV_v (wc := [oX1 g g_rows_1 g_columns_1 g_a_1 g_b_1 g_cells_1 g_right_3 g_down_3]) (w1 := [oX1 g g_rows_1 g_columns_1 g_a_1 g_b_1 g_cells_1 g_right_4 g_down_4]) (wr := [oX5 sc q_sc_bytes sc_length, aI cy q_sc_bytes 41 sc_bytes]) (wn := [oX5 sc q_sc_bytes sc_length, aI cy q_sc_bytes 41 sc_bytes, oX1 g g_rows_1 g_columns_1 g_a_1 g_b_1 g_cells_1 g_right_4 g_down_4]) (As := [.int x5_1, .int 1, .int (fX5_opensRight ((sc_bytes x3_1.toNatClampNeg) - 48))]) (rest := []) (q0 := 2) X hK hP hD hS [2] [0, 1] [0, 1, 2] rfl rfl rfl rfl rfl (by decide) rfl rfl rfl (KX1_setOpen q14 _) (cwV 3 hts gX5_copyTo_X1_setOpen rfl rfl rfl hdX1_setOpen ⟨Nat.le_of_ble_eq_true rfl, Nat.le_of_ble_eq_true rfl⟩) rfl rfl rfl hl rfl (Nat.le_of_ble_eq_true rfl) dX5_copyTo_88 (Nat.zero_le _) (Nat.zero_le _) (fun H locs hP hD hS => ?_)
            refine lv_aload_n hx hb dX5_copyTo_91 rfl (lv_at hl 4 rfl) ?_
            refine lv_iload hx hb dX5_copyTo_92 (lv_at hl 1 rfl) ?_
            refine lv_iconst (v := 2) hx hb dX5_copyTo_94 (by decide) ?_
            refine lv_iload hx hb dX5_copyTo_95 (lv_at hl 0 rfl) ?_
            refine ctS_i0 (r := (fX5_opensDown ((sc_bytes x3_1.toNatClampNeg) - 48))) (wc := []) (As := [.int ((sc_bytes x3_1.toNatClampNeg) - 48)]) (rest := [.int 2, .int x5_1, .ref g]) X hK hP hD hS [] rfl rfl rfl (KX5_opensDown rfl _) (va_cwS 1 hts gX5_copyTo_X5_opensDown rfl rfl rfl hdX5_opensDown ⟨Nat.le_of_ble_eq_true rfl, Nat.le_of_ble_eq_true rfl⟩) rfl hl rfl (Nat.le_of_ble_eq_true rfl) dX5_copyTo_97 (Nat.zero_le _) (Nat.zero_le _) (fun H locs hP hS => ?_)
            obtain ⟨g_right_5, g_down_5, q15, hf⟩ := qcallT2 hf
            refine ctV_v (wc := [oX1 g g_rows_1 g_columns_1 g_a_1 g_b_1 g_cells_1 g_right_4 g_down_4]) (w1 := [oX1 g g_rows_1 g_columns_1 g_a_1 g_b_1 g_cells_1 g_right_5 g_down_5]) (wr := [oX5 sc q_sc_bytes sc_length, aI cy q_sc_bytes 41 sc_bytes]) (wn := [oX5 sc q_sc_bytes sc_length, aI cy q_sc_bytes 41 sc_bytes, oX1 g g_rows_1 g_columns_1 g_a_1 g_b_1 g_cells_1 g_right_5 g_down_5]) (As := [.int x5_1, .int 2, .int (fX5_opensDown ((sc_bytes x3_1.toNatClampNeg) - 48))]) (rest := []) (q0 := 2) X hK hP hD hS [2] [0, 1] [0, 1, 2] rfl rfl rfl rfl rfl (by decide) rfl rfl rfl (KX1_setOpen q15 _) (cwV 3 hts gX5_copyTo_X1_setOpen rfl rfl rfl hdX1_setOpen ⟨Nat.le_of_ble_eq_true rfl, Nat.le_of_ble_eq_true rfl⟩) rfl rfl rfl hl rfl (Nat.le_of_ble_eq_true rfl) dX5_copyTo_100 (Nat.zero_le _) (Nat.zero_le _) (fun H locs hP hD hS => ?_)
            refine lv_iinc (v := (x3_1 + 1)) (lv' := [(3, .int (x3_1 + 1)), (6, .int ((sc_bytes x3_1.toNatClampNeg) - 48)), (5, .int x5_1), (4, .int (qrem x3_1 (r_1 + 1))), (0, .ref sc), (1, .ref g), (2, .int r_1)]) hx hb dX5_copyTo_103 hl (k := 6) rfl rfl (by decide) rfl (fun ls hl => ?_)
            refine lv_goto (tgt := 28) hx hb dX5_copyTo_106 (by decide) ?_
            exact hL6 (x3_1 + 1) g_right_5 g_down_5 hf _ _ _ ⟨hP, hD, hS⟩ (lv_sub hl [4, 5, 6, 0] rfl)
  · have hf := qob_f hf c2
    cases qob_ret hf
    exact ct_vret X hQ hK hP hD hS dX5_copyTo_10
theorem inwX6_add_X6 : ∀ w ∈ wsX60, w ∈ wsX6_add := fun _ h => List.mem_cons_of_mem _ (List.mem_append_right _ h)
abbrev rmX6_add : Room := { frames := 0, cells := 0, slots := 0, locals := 0 }
theorem hdX6_add : yX6_add.cls = RX6 ∧ yX6_add.cls ≠ "java/lang/invoke/MethodHandle" ∧ yX6_add.cls ≠ "java/lang/invoke/VarHandle" ∧ (parseMethodDescriptor yX6_add.desc).map (fun d => d.parameters.length) = some 1 := by decide +kernel
set_option maxHeartbeats 4000000 in
set_option maxRecDepth 100000 in
theorem KX6_add {l : Launch} {D : va_G} {cy : Nat → ClassId} {su g q_su_order q_su_table : Nat} {su_tr : Nat → Nat} {su_count : Int32} {su_above : Int64} {su_below : Int64} {su_order : Nat → Int32} {g_rows : Int32} {g_columns : Int32} {g_a : Int32} {g_b : Int32} {g_cells : Int64} {g_right : Int64} {g_down : Int64} {su_table : Nat → Nat → Int64} {p1 : Int32} {su_count' : Int32} {su_order' : Nat → Int32} (hf : fX6_add su_count su_order p1 = some (su_count', su_order')) : CtV l yX6_add wsX6_add rmX6_add D cy [.ref su, .int p1] ([oX6 su g q_su_order q_su_table su_count su_above su_below, aI cy q_su_order 16 su_order, aT cy q_su_table su_tr, oX1 g g_rows g_columns g_a g_b g_cells g_right g_down] ++ suR cy su_tr su_table) ([oX6 su g q_su_order q_su_table su_count' su_above su_below, aI cy q_su_order 16 su_order', aT cy q_su_table su_tr, oX1 g g_rows g_columns g_a g_b g_cells g_right g_down] ++ suR cy su_tr su_table) := by
  refine CtV.of (cc := cX6_add) (maxL := 2) (ret := none) (own := RX6) (by decide) rfl rfl (Nat.le_of_ble_eq_true rfl) ?_
  intro p e s m args below meth c A Q X hQ hK hP hD hS ls hl
  obtain ⟨hx, hb, hml, hown, hts, hr, hlocks, hA, hZ⟩ := id X
  have hl : lv_has ls 2 [(0, .ref su), (1, .int p1)] := hl
  unfold fX6_add at hf
  have hf := qob_top hf
  refine lv_aload_n hx hb dX6_add_0 rfl (lv_at hl 0 rfl) ?_
  refine va_get (D := D) (ci := 6) (v := .int su_count) (C := RX6) (T := TX6) (N := 6) hx hb hts inwX6_add_X6 hown hK hP 0 rfl rfl 3 (by decide) (hts (.fieldLink RX6 53 "HedgeWays$Sums" "count" "I") (List.mem_of_getElem? (i := 1) rfl)) (fun _ h9 => h9) rfl dX6_add_1 ?_
  refine lv_bipush (v := 16) hx hb dX6_add_4 (by decide) ?_
  refine lv_icmp_ge (tgt := 29) hx hb dX6_add_6 (by decide) (fun c1 => ?_) (fun c1 => ?_)
  · have hf := qob_t hf c1
    cases qob_ret hf
    exact ct_vret X hQ hK hP hD hS dX6_add_29
  · have hf := qob_f hf c1
    refine lv_aload_n hx hb dX6_add_9 rfl (lv_at hl 0 rfl) ?_
    refine va_get (D := D) (ci := 6) (v := .ref q_su_order) (C := RX6) (T := TX6) (N := 6) hx hb hts inwX6_add_X6 hown hK hP 0 rfl rfl 1 (by decide) (hts (.fieldLink RX6 15 "HedgeWays$Sums" "order" "[I") (List.mem_of_getElem? (i := 2) rfl)) (fun _ h9 => h9) rfl dX6_add_10 ?_
    refine lv_aload_n hx hb dX6_add_13 rfl (lv_at hl 0 rfl) ?_
    refine va_get (D := D) (ci := 6) (v := .int su_count) (C := RX6) (T := TX6) (N := 6) hx hb hts inwX6_add_X6 hown hK hP 0 rfl rfl 3 (by decide) (hts (.fieldLink RX6 53 "HedgeWays$Sums" "count" "I") (List.mem_of_getElem? (i := 1) rfl)) (fun _ h9 => h9) rfl dX6_add_14 ?_
    refine lv_iload_n hx hb dX6_add_17 rfl (lv_at hl 1 rfl) ?_
    obtain ⟨i2, hf⟩ := qob_gd hf
    refine va_iast hx hb hK hP hD hS 1 0 rfl rfl i2 dX6_add_18 (fun H locs hP hD hS => ?_)
    have hP : va_P D vwCl ([oX6 su g q_su_order q_su_table su_count su_above su_below, aI cy q_su_order 16 (upd su_order su_count.toNatClampNeg p1), aT cy q_su_table su_tr, oX1 g g_rows g_columns g_a g_b g_cells g_right g_down] ++ suR cy su_tr su_table) H := hP
    have hD : va_D A ([oX6 su g q_su_order q_su_table su_count su_above su_below, aI cy q_su_order 16 (upd su_order su_count.toNatClampNeg p1), aT cy q_su_table su_tr, oX1 g g_rows g_columns g_a g_b g_cells g_right g_down] ++ suR cy su_tr su_table) := hD
    refine lv_aload_n hx hb dX6_add_19 rfl (lv_at hl 0 rfl) ?_
    refine lv_dup hx hb dX6_add_20 rfl ?_
    refine va_get (D := D) (ci := 6) (v := .int su_count) (C := RX6) (T := TX6) (N := 6) hx hb hts inwX6_add_X6 hown hK hP 0 rfl rfl 3 (by decide) (hts (.fieldLink RX6 53 "HedgeWays$Sums" "count" "I") (List.mem_of_getElem? (i := 1) rfl)) (fun _ h9 => h9) rfl dX6_add_21 ?_
    refine lv_iconst (v := 1) hx hb dX6_add_24 (by decide) ?_
    refine lv_iadd hx hb dX6_add_25 ?_
    refine va_put (D := D) (ci := 6) (v := .int (su_count + 1)) (ty := .int) (C := RX6) (T := TX6) (N := 6) hx hb hts inwX6_add_X6 tyX6 tyX6_ok nmX6 hown hK hP hD hS 0 rfl rfl 3 (by decide) (hts (.fieldLink RX6 53 "HedgeWays$Sums" "count" "I") (List.mem_of_getElem? (i := 1) rfl)) (fun _ h9 => h9) rfl (tyX6_ok 3 (by decide)) rfl rfl (Nat.le_of_ble_eq_true rfl) dX6_add_26 (fun H locs hP hD hS => ?_)
    have hP : va_P D vwCl ([oX6 su g q_su_order q_su_table (su_count + 1) su_above su_below, aI cy q_su_order 16 (upd su_order su_count.toNatClampNeg p1), aT cy q_su_table su_tr, oX1 g g_rows g_columns g_a g_b g_cells g_right g_down] ++ suR cy su_tr su_table) H := hP
    have hD : va_D A ([oX6 su g q_su_order q_su_table (su_count + 1) su_above su_below, aI cy q_su_order 16 (upd su_order su_count.toNatClampNeg p1), aT cy q_su_table su_tr, oX1 g g_rows g_columns g_a g_b g_cells g_right g_down] ++ suR cy su_tr su_table) := hD
    cases qob_ret hf
    exact ct_vret X hQ hK hP hD hS dX6_add_29
theorem inwX6_list_X6 : ∀ w ∈ wsX60, w ∈ wsX6_list := fun _ h => List.mem_cons_of_mem _ (List.mem_append_right _ h)
abbrev rmX6_list : Room := { frames := 1, cells := 0, slots := 0, locals := 22 }
theorem hdX6_list : yX6_list.cls = RX6 ∧ yX6_list.cls ≠ "java/lang/invoke/MethodHandle" ∧ yX6_list.cls ≠ "java/lang/invoke/VarHandle" ∧ (parseMethodDescriptor yX6_list.desc).map (fun d => d.parameters.length) = some 1 := by decide +kernel
set_option maxHeartbeats 4000000 in
set_option maxRecDepth 100000 in
theorem KX6_list {l : Launch} {D : va_G} {cy : Nat → ClassId} {su g q_su_order q_su_table : Nat} {su_tr : Nat → Nat} {su_count : Int32} {su_above : Int64} {su_below : Int64} {su_order : Nat → Int32} {g_rows : Int32} {g_columns : Int32} {g_a : Int32} {g_b : Int32} {g_cells : Int64} {g_right : Int64} {g_down : Int64} {su_table : Nat → Nat → Int64} {p1 : Int64} {su_count' : Int32} {su_order' : Nat → Int32} (hf : fX6_list su_count su_order p1 = some (su_count', su_order')) : CtV l yX6_list wsX6_list rmX6_list D cy [.ref su, .long p1] ([oX6 su g q_su_order q_su_table su_count su_above su_below, aI cy q_su_order 16 su_order, aT cy q_su_table su_tr, oX1 g g_rows g_columns g_a g_b g_cells g_right g_down] ++ suR cy su_tr su_table) ([oX6 su g q_su_order q_su_table su_count' su_above su_below, aI cy q_su_order 16 su_order', aT cy q_su_table su_tr, oX1 g g_rows g_columns g_a g_b g_cells g_right g_down] ++ suR cy su_tr su_table) := by
  refine CtV.of (cc := cX6_list) (maxL := 4) (ret := none) (own := RX6) (by decide) rfl rfl (Nat.le_of_ble_eq_true rfl) ?_
  intro p e s m args below meth c A Q X hQ hK hP hD hS ls hl
  obtain ⟨hx, hb, hml, hown, hts, hr, hlocks, hA, hZ⟩ := id X
  have hl : lv_has ls 4 [(0, .ref su), (1, .long p1)] := hl
  unfold fX6_list at hf
  have hf := qob_top hf
  refine lv_aload_n hx hb dX6_list_0 rfl (lv_at hl 0 rfl) ?_
  refine lv_iconst (v := 0) hx hb dX6_list_1 (by decide) ?_
  refine va_put (D := D) (ci := 6) (v := .int 0) (ty := .int) (C := RX6) (T := TX6) (N := 6) hx hb hts inwX6_list_X6 tyX6 tyX6_ok nmX6 hown hK hP hD hS 0 rfl rfl 3 (by decide) (hts (.fieldLink RX6 53 "HedgeWays$Sums" "count" "I") (List.mem_of_getElem? (i := 1) rfl)) (fun _ h9 => h9) rfl (tyX6_ok 3 (by decide)) rfl rfl (Nat.le_of_ble_eq_true rfl) dX6_list_2 (fun H locs hP hD hS => ?_)
  have hP : va_P D vwCl ([oX6 su g q_su_order q_su_table 0 su_above su_below, aI cy q_su_order 16 su_order, aT cy q_su_table su_tr, oX1 g g_rows g_columns g_a g_b g_cells g_right g_down] ++ suR cy su_tr su_table) H := hP
  have hD : va_D A ([oX6 su g q_su_order q_su_table 0 su_above su_below, aI cy q_su_order 16 su_order, aT cy q_su_table su_tr, oX1 g g_rows g_columns g_a g_b g_cells g_right g_down] ++ suR cy su_tr su_table) := hD
  refine lv_iconst (v := 0) hx hb dX6_list_5 (by decide) ?_
  refine lv_istore_n (lv' := [(3, .int 0), (0, .ref su), (1, .long p1)]) hx hb dX6_list_6 rfl hl (by decide) rfl (fun ls hl => ?_)
  refine qjoin2 hf (fun (su_count_1 : Int32) (su_order_1 : Nat → Int32) => ∀ (H : Heap) (locs : List Loc) (ls : Array Slot), ctW D A s ([oX6 su g q_su_order q_su_table su_count_1 su_above su_below, aI cy q_su_order 16 su_order_1, aT cy q_su_table su_tr, oX1 g g_rows g_columns g_a g_b g_cells g_right g_down] ++ suR cy su_tr su_table) H locs → lv_has ls 4 [] → W p l e rmX6_list s m args below meth c H locs 0 0 Q (F0 m 32 ls [])) ?_ ?_
  · intro su_count_1 su_order_1 hf H locs ls ⟨hP, hD, hS⟩ hl
    cases qob_ret hf
    exact ct_vret X hQ hK hP hD hS dX6_list_32
  · intro J1 hJ1 hf
    refine qwalk3 (fun (x3_1 : Int32) (su_count_2 : Int32) (su_order_2 : Nat → Int32) => ∀ (H : Heap) (locs : List Loc) (ls : Array Slot), ctW D A s ([oX6 su g q_su_order q_su_table su_count_2 su_above su_below, aI cy q_su_order 16 su_order_2, aT cy q_su_table su_tr, oX1 g g_rows g_columns g_a g_b g_cells g_right g_down] ++ suR cy su_tr su_table) H locs → lv_has ls 4 [(0, .ref su), (1, .long p1), (3, .int x3_1)] → W p l e rmX6_list s m args below meth c H locs 0 0 Q (F0 m 7 ls [])) ?_ _ (0 : Int32) (0 : Int32) su_order hf _ _ _ ⟨hP, hD, hS⟩ (lv_sub hl [1, 2, 0] rfl)
    intro J2 hL2 x3_1 su_count_2 su_order_2 hf H locs ls ⟨hP, hD, hS⟩ hl
    refine lv_iload_n hx hb dX6_list_7 rfl (lv_at hl 2 rfl) ?_
    refine lv_bipush (v := 48) hx hb dX6_list_8 (by decide) ?_
    refine lv_icmp_ge (tgt := 32) hx hb dX6_list_10 (by decide) (fun c3 => ?_) (fun c3 => ?_)
    · have hf := qob_t hf c3
      have hf := qob_esc hf
      exact hJ1 su_count_2 su_order_2 hf _ _ _ ⟨hP, hD, hS⟩ (lv_sub hl [] rfl)
    · have hf := qob_f hf c3
      refine lv_lload_n hx hb dX6_list_13 rfl (lv_at hl 1 rfl) ?_
      refine lv_iload_n hx hb dX6_list_14 rfl (lv_at hl 2 rfl) ?_
      refine ctS_i0 (r := (fX1_has p1 x3_1)) (wc := []) (As := [.long p1, .int x3_1]) (rest := []) X hK hP hD hS [] rfl rfl rfl (KX1_has rfl _) (va_cwS 2 hts gX6_list_X1_has rfl rfl rfl hdX1_has ⟨Nat.le_of_ble_eq_true rfl, Nat.le_of_ble_eq_true rfl⟩) rfl hl rfl (Nat.le_of_ble_eq_true rfl) dX6_list_15 (Nat.zero_le _) (Nat.zero_le _) (fun H locs hP hS => ?_)
      refine lv_if_eq (tgt := 26) hx hb dX6_list_18 (by decide) (fun c4 => ?_) (fun c4 => ?_)
      · have hf := qob_t hf c4
        refine lv_iinc (v := (x3_1 + 1)) (lv' := [(3, .int (x3_1 + 1)), (0, .ref su), (1, .long p1)]) hx hb dX6_list_26 hl (k := 2) rfl rfl (by decide) rfl (fun ls hl => ?_)
        refine lv_goto (tgt := 7) hx hb dX6_list_29 (by decide) ?_
        exact hL2 (x3_1 + 1) su_count_2 su_order_2 hf _ _ _ ⟨hP, hD, hS⟩ (lv_sub hl [1, 2, 0] rfl)
      · have hf := qob_f hf c4
        refine lv_aload_n hx hb dX6_list_21 rfl (lv_at hl 0 rfl) ?_
        refine lv_iload_n hx hb dX6_list_22 rfl (lv_at hl 2 rfl) ?_
        obtain ⟨su_count_3, su_order_3, q5, hf⟩ := qcall2 hf
        refine ctV_v (wc := [oX6 su g q_su_order q_su_table su_count_2 su_above su_below, aI cy q_su_order 16 su_order_2, aT cy q_su_table su_tr, oX1 g g_rows g_columns g_a g_b g_cells g_right g_down] ++ suR cy su_tr su_table) (w1 := [oX6 su g q_su_order q_su_table su_count_3 su_above su_below, aI cy q_su_order 16 su_order_3, aT cy q_su_table su_tr, oX1 g g_rows g_columns g_a g_b g_cells g_right g_down] ++ suR cy su_tr su_table) (wr := []) (wn := [oX6 su g q_su_order q_su_table su_count_3 su_above su_below, aI cy q_su_order 16 su_order_3, aT cy q_su_table su_tr, oX1 g g_rows g_columns g_a g_b g_cells g_right g_down] ++ suR cy su_tr su_table) (As := [.int x3_1]) (rest := []) (q0 := 0) X hK hP hD hS [0, 1, 2, 3, 4, 5, 6, 7, 8, 9, 10, 11, 12, 13, 14, 15, 16, 17, 18, 19] [] [0, 1, 2, 3, 4, 5, 6, 7, 8, 9, 10, 11, 12, 13, 14, 15, 16, 17, 18, 19] rfl rfl rfl rfl rfl (by decide) rfl rfl rfl (KX6_add q5 _) (cwV 1 hts gX6_list_X6_add rfl rfl rfl hdX6_add ⟨Nat.le_of_ble_eq_true rfl, Nat.le_of_ble_eq_true rfl⟩) rfl rfl rfl hl rfl (Nat.le_of_ble_eq_true rfl) dX6_list_23 (Nat.zero_le _) (Nat.zero_le _) (fun H locs hP hD hS => ?_)
        refine lv_iinc (v := (x3_1 + 1)) (lv' := [(3, .int (x3_1 + 1)), (0, .ref su), (1, .long p1)]) hx hb dX6_list_26 hl (k := 2) rfl rfl (by decide) rfl (fun ls hl => ?_)
        refine lv_goto (tgt := 7) hx hb dX6_list_29 (by decide) ?_
        exact hL2 (x3_1 + 1) su_count_3 su_order_3 hf _ _ _ ⟨hP, hD, hS⟩ (lv_sub hl [1, 2, 0] rfl)
theorem inwX6_fillTable_X6 : ∀ w ∈ wsX60, w ∈ wsX6_fillTable := fun _ h => List.mem_cons_of_mem _ (List.mem_append_left _ (List.mem_append_right _ h))
abbrev rmX6_fillTable : Room := { frames := 2, cells := 0, slots := 0, locals := 43 }
theorem hdX6_fillTable : yX6_fillTable.cls = RX6 ∧ yX6_fillTable.cls ≠ "java/lang/invoke/MethodHandle" ∧ yX6_fillTable.cls ≠ "java/lang/invoke/VarHandle" ∧ (parseMethodDescriptor yX6_fillTable.desc).map (fun d => d.parameters.length) = some 0 := by decide +kernel
set_option maxHeartbeats 4000000 in
set_option maxRecDepth 100000 in
theorem KX6_fillTable {l : Launch} {D : va_G} {cy : Nat → ClassId} {su g q_su_order q_su_table : Nat} {su_tr : Nat → Nat} {su_count : Int32} {su_above : Int64} {su_below : Int64} {su_order : Nat → Int32} {g_rows : Int32} {g_columns : Int32} {g_a : Int32} {g_b : Int32} {g_cells : Int64} {g_right : Int64} {g_down : Int64} {su_table : Nat → Nat → Int64}  {su_table' : Nat → Nat → Int64} (hf : fX6_fillTable su_count su_order g_right g_down su_table = some su_table') : CtV l yX6_fillTable wsX6_fillTable rmX6_fillTable D cy [.ref su] ([oX6 su g q_su_order q_su_table su_count su_above su_below, aI cy q_su_order 16 su_order, aT cy q_su_table su_tr, oX1 g g_rows g_columns g_a g_b g_cells g_right g_down] ++ suR cy su_tr su_table) ([oX6 su g q_su_order q_su_table su_count su_above su_below, aI cy q_su_order 16 su_order, aT cy q_su_table su_tr, oX1 g g_rows g_columns g_a g_b g_cells g_right g_down] ++ suR cy su_tr su_table') := by
  refine CtV.of (cc := cX6_fillTable) (maxL := 5) (ret := none) (own := RX6) (by decide) rfl rfl (Nat.le_of_ble_eq_true rfl) ?_
  intro p e s m args below meth c A Q X hQ hK hP hD hS ls hl
  obtain ⟨hx, hb, hml, hown, hts, hr, hlocks, hA, hZ⟩ := id X
  have hl : lv_has ls 5 [(0, .ref su)] := hl
  unfold fX6_fillTable at hf
  have hf := qob_top hf
  refine lv_iconst (v := 0) hx hb dX6_fillTable_0 (by decide) ?_
  refine lv_istore_n (lv' := [(1, .int 0), (0, .ref su)]) hx hb dX6_fillTable_1 rfl hl (by decide) rfl (fun ls hl => ?_)
  refine qjoin1 hf (fun (su_table_1 : Nat → Nat → Int64) => ∀ (H : Heap) (locs : List Loc) (ls : Array Slot), ctW D A s ([oX6 su g q_su_order q_su_table su_count su_above su_below, aI cy q_su_order 16 su_order, aT cy q_su_table su_tr, oX1 g g_rows g_columns g_a g_b g_cells g_right g_down] ++ suR cy su_tr su_table_1) H locs → lv_has ls 5 [] → W p l e rmX6_fillTable s m args below meth c H locs 0 0 Q (F0 m 135 ls [])) ?_ ?_
  · intro su_table_1 hf H locs ls ⟨hP, hD, hS⟩ hl
    cases qob_ret hf
    exact ct_vret X hQ hK hP hD hS dX6_fillTable_135
  · intro J1 hJ1 hf
    refine qwalk2 (fun (x1_1 : Int32) (su_table_2 : Nat → Nat → Int64) => ∀ (H : Heap) (locs : List Loc) (ls : Array Slot), ctW D A s ([oX6 su g q_su_order q_su_table su_count su_above su_below, aI cy q_su_order 16 su_order, aT cy q_su_table su_tr, oX1 g g_rows g_columns g_a g_b g_cells g_right g_down] ++ suR cy su_tr su_table_2) H locs → lv_has ls 5 [(0, .ref su), (1, .int x1_1)] → W p l e rmX6_fillTable s m args below meth c H locs 0 0 Q (F0 m 2 ls [])) ?_ _ (0 : Int32) su_table hf _ _ _ ⟨hP, hD, hS⟩ (lv_sub hl [1, 0] rfl)
    intro J2 hL2 x1_1 su_table_2 hf H locs ls ⟨hP, hD, hS⟩ hl
    refine lv_iload_n hx hb dX6_fillTable_2 rfl (lv_at hl 1 rfl) ?_
    refine lv_aload_n hx hb dX6_fillTable_3 rfl (lv_at hl 0 rfl) ?_
    refine va_get (D := D) (ci := 6) (v := .int su_count) (C := RX6) (T := TX6) (N := 6) hx hb hts inwX6_fillTable_X6 hown hK hP 0 rfl rfl 3 (by decide) (hts (.fieldLink RX6 53 "HedgeWays$Sums" "count" "I") (List.mem_of_getElem? (i := 1) rfl)) (fun _ h9 => h9) rfl dX6_fillTable_4 ?_
    refine lv_icmp_ge (tgt := 135) hx hb dX6_fillTable_7 (by decide) (fun c3 => ?_) (fun c3 => ?_)
    · have hf := qob_t hf c3
      have hf := qob_esc hf
      exact hJ1 su_table_2 hf _ _ _ ⟨hP, hD, hS⟩ (lv_sub hl [] rfl)
    · have hf := qob_f hf c3
      refine lv_iload_n hx hb dX6_fillTable_10 rfl (lv_at hl 1 rfl) ?_
      refine lv_bipush (v := 16) hx hb dX6_fillTable_11 (by decide) ?_
      refine lv_icmp_ge (tgt := 135) hx hb dX6_fillTable_13 (by decide) (fun c4 => ?_) (fun c4 => ?_)
      · have hf := qob_t hf c4
        have hf := qob_esc hf
        exact hJ1 su_table_2 hf _ _ _ ⟨hP, hD, hS⟩ (lv_sub hl [] rfl)
      · have hf := qob_f hf c4
        refine lv_aload_n hx hb dX6_fillTable_16 rfl (lv_at hl 0 rfl) ?_
        refine va_get (D := D) (ci := 6) (v := .ref g) (C := RX6) (T := TX6) (N := 6) hx hb hts inwX6_fillTable_X6 hown hK hP 0 rfl rfl 0 (by decide) (hts (.fieldLink RX6 9 "HedgeWays$Sums" "grid" "LHedgeWays$Grid;") (List.mem_of_getElem? (i := 2) rfl)) (fun _ h9 => h9) rfl dX6_fillTable_17 ?_
        refine lv_aload_n hx hb dX6_fillTable_20 rfl (lv_at hl 0 rfl) ?_
        refine va_get (D := D) (ci := 6) (v := .ref q_su_order) (C := RX6) (T := TX6) (N := 6) hx hb hts inwX6_fillTable_X6 hown hK hP 0 rfl rfl 1 (by decide) (hts (.fieldLink RX6 15 "HedgeWays$Sums" "order" "[I") (List.mem_of_getElem? (i := 3) rfl)) (fun _ h9 => h9) rfl dX6_fillTable_21 ?_
        refine lv_iload_n hx hb dX6_fillTable_24 rfl (lv_at hl 1 rfl) ?_
        obtain ⟨i5, hf⟩ := qob_gd hf
        refine va_iald hx hb hK hP 1 0 rfl rfl i5 dX6_fillTable_25 ?_
        refine ctS_l0 (r := (fX1_bit (su_order x1_1.toNatClampNeg))) (wc := []) (As := [.int (su_order x1_1.toNatClampNeg)]) (rest := [.ref g]) X hK hP hD hS [] rfl rfl rfl (KX1_bit rfl _) (va_cwS 1 hts gX6_fillTable_X1_bit rfl rfl rfl hdX1_bit ⟨Nat.le_of_ble_eq_true rfl, Nat.le_of_ble_eq_true rfl⟩) rfl hl rfl (Nat.le_of_ble_eq_true rfl) dX6_fillTable_26 (Nat.zero_le _) (Nat.zero_le _) (fun H locs hP hS => ?_)
        refine ctV_l0 (r := (fX1_near g_right g_down (fX1_bit (su_order x1_1.toNatClampNeg)))) (wc := [oX1 g g_rows g_columns g_a g_b g_cells g_right g_down]) (As := [.long (fX1_bit (su_order x1_1.toNatClampNeg))]) (rest := []) (q0 := 3) X hK hP hD hS [3] rfl rfl rfl (KX1_near rfl _) (cwV 1 hts gX6_fillTable_X1_near rfl rfl rfl hdX1_near ⟨Nat.le_of_ble_eq_true rfl, Nat.le_of_ble_eq_true rfl⟩) rfl rfl rfl hl rfl (Nat.le_of_ble_eq_true rfl) dX6_fillTable_29 (Nat.zero_le _) (Nat.zero_le _) (fun H locs hP hS => ?_)
        refine lv_topl (fun x2_1 e6 => ?_)
        have hf := qob_bd hf e6
        refine lv_lstore_n (lv' := [(2, .long x2_1), (0, .ref su), (1, .int x1_1)]) hx hb dX6_fillTable_32 rfl hl (by decide) rfl (fun ls hl => ?_)
        refine lv_iconst (v := 0) hx hb dX6_fillTable_33 (by decide) ?_
        refine lv_istore (lv' := [(4, .int 0), (2, .long x2_1), (0, .ref su), (1, .int x1_1)]) hx hb dX6_fillTable_34 hl (by decide) rfl (fun ls hl => ?_)
        refine qjoin1 hf (fun (su_table_3 : Nat → Nat → Int64) => ∀ (H : Heap) (locs : List Loc) (ls : Array Slot), ctW D A s ([oX6 su g q_su_order q_su_table su_count su_above su_below, aI cy q_su_order 16 su_order, aT cy q_su_table su_tr, oX1 g g_rows g_columns g_a g_b g_cells g_right g_down] ++ suR cy su_tr su_table_3) H locs → lv_has ls 5 [(0, .ref su), (1, .int x1_1)] → W p l e rmX6_fillTable s m args below meth c H locs 0 0 Q (F0 m 88 ls [])) ?_ ?_
        · intro su_table_3 hf H locs ls ⟨hP, hD, hS⟩ hl
          refine lv_aload_n hx hb dX6_fillTable_88 rfl (lv_at hl 0 rfl) ?_
          refine va_get (D := D) (ci := 6) (v := .ref q_su_table) (C := RX6) (T := TX6) (N := 6) hx hb hts inwX6_fillTable_X6 hown hK hP 0 rfl rfl 2 (by decide) (hts (.fieldLink RX6 21 "HedgeWays$Sums" "table" "[[J") (List.mem_of_getElem? (i := 4) rfl)) (fun _ h9 => h9) rfl dX6_fillTable_89 ?_
          refine lv_iload_n hx hb dX6_fillTable_92 rfl (lv_at hl 1 rfl) ?_
          obtain ⟨i7, hf⟩ := qob_gd hf
          refine tb_aald hx hb hK hP 2 rfl i7 dX6_fillTable_93 ?_
          refine lv_iload_n hx hb dX6_fillTable_94 rfl (lv_at hl 1 rfl) ?_
          refine lv_aload_n hx hb dX6_fillTable_95 rfl (lv_at hl 0 rfl) ?_
          refine va_get (D := D) (ci := 6) (v := .ref g) (C := RX6) (T := TX6) (N := 6) hx hb hts inwX6_fillTable_X6 hown hK hP 0 rfl rfl 0 (by decide) (hts (.fieldLink RX6 9 "HedgeWays$Sums" "grid" "LHedgeWays$Grid;") (List.mem_of_getElem? (i := 2) rfl)) (fun _ h9 => h9) rfl dX6_fillTable_96 ?_
          refine lv_aload_n hx hb dX6_fillTable_99 rfl (lv_at hl 0 rfl) ?_
          refine va_get (D := D) (ci := 6) (v := .ref q_su_order) (C := RX6) (T := TX6) (N := 6) hx hb hts inwX6_fillTable_X6 hown hK hP 0 rfl rfl 1 (by decide) (hts (.fieldLink RX6 15 "HedgeWays$Sums" "order" "[I") (List.mem_of_getElem? (i := 3) rfl)) (fun _ h9 => h9) rfl dX6_fillTable_100 ?_
          refine lv_iload_n hx hb dX6_fillTable_103 rfl (lv_at hl 1 rfl) ?_
          obtain ⟨i8, hf⟩ := qob_gd hf
          refine va_iald hx hb hK hP 1 0 rfl rfl i8 dX6_fillTable_104 ?_
          refine ctV_i0 (r := (fX1_neighbours g_right g_down (su_order x1_1.toNatClampNeg))) (wc := [oX1 g g_rows g_columns g_a g_b g_cells g_right g_down]) (As := [.int (su_order x1_1.toNatClampNeg)]) (rest := [.int x1_1, .ref (su_tr x1_1.toNatClampNeg)]) (q0 := 3) X hK hP hD hS [3] rfl rfl rfl (KX1_neighbours rfl _) (cwV 1 hts gX6_fillTable_X1_neighbours rfl rfl rfl hdX1_neighbours ⟨Nat.le_of_ble_eq_true rfl, Nat.le_of_ble_eq_true rfl⟩) rfl rfl rfl hl rfl (Nat.le_of_ble_eq_true rfl) dX6_fillTable_105 (Nat.zero_le _) (Nat.zero_le _) (fun H locs hP hS => ?_)
          refine lv_i2l (v := (fX1_neighbours g_right g_down (su_order x1_1.toNatClampNeg)).toInt64) hx hb dX6_fillTable_108 rfl ?_
          obtain ⟨i9, hf⟩ := qob_gd hf
          obtain ⟨su_table_4, e10⟩ : ∃ z, z = updT su_table_3 x1_1.toNatClampNeg x1_1.toNatClampNeg ((fX1_neighbours g_right g_down (su_order x1_1.toNatClampNeg)).toInt64) := ⟨_, rfl⟩
          have hf := qob_bd hf e10
          refine tb_last hx hb hK hP hD hS 4 i7 rfl i9 dX6_fillTable_109 (fun H locs hP hD hS => ?_)
          rw [← e10] at hP hD
          have hP : va_P D vwCl ([oX6 su g q_su_order q_su_table su_count su_above su_below, aI cy q_su_order 16 su_order, aT cy q_su_table su_tr, oX1 g g_rows g_columns g_a g_b g_cells g_right g_down] ++ suR cy su_tr su_table_4) H := hP
          have hD : va_D A ([oX6 su g q_su_order q_su_table su_count su_above su_below, aI cy q_su_order 16 su_order, aT cy q_su_table su_tr, oX1 g g_rows g_columns g_a g_b g_cells g_right g_down] ++ suR cy su_tr su_table_4) := hD
          refine lv_aload_n hx hb dX6_fillTable_110 rfl (lv_at hl 0 rfl) ?_
          refine va_get (D := D) (ci := 6) (v := .ref q_su_table) (C := RX6) (T := TX6) (N := 6) hx hb hts inwX6_fillTable_X6 hown hK hP 0 rfl rfl 2 (by decide) (hts (.fieldLink RX6 21 "HedgeWays$Sums" "table" "[[J") (List.mem_of_getElem? (i := 4) rfl)) (fun _ h9 => h9) rfl dX6_fillTable_111 ?_
          refine lv_iload_n hx hb dX6_fillTable_114 rfl (lv_at hl 1 rfl) ?_
          obtain ⟨i11, hf⟩ := qob_gd hf
          refine tb_aald hx hb hK hP 2 rfl i11 dX6_fillTable_115 ?_
          refine lv_aload_n hx hb dX6_fillTable_116 rfl (lv_at hl 0 rfl) ?_
          refine va_get (D := D) (ci := 6) (v := .int su_count) (C := RX6) (T := TX6) (N := 6) hx hb hts inwX6_fillTable_X6 hown hK hP 0 rfl rfl 3 (by decide) (hts (.fieldLink RX6 53 "HedgeWays$Sums" "count" "I") (List.mem_of_getElem? (i := 1) rfl)) (fun _ h9 => h9) rfl dX6_fillTable_117 ?_
          refine lv_aload_n hx hb dX6_fillTable_120 rfl (lv_at hl 0 rfl) ?_
          refine va_get (D := D) (ci := 6) (v := .ref q_su_table) (C := RX6) (T := TX6) (N := 6) hx hb hts inwX6_fillTable_X6 hown hK hP 0 rfl rfl 2 (by decide) (hts (.fieldLink RX6 21 "HedgeWays$Sums" "table" "[[J") (List.mem_of_getElem? (i := 4) rfl)) (fun _ h9 => h9) rfl dX6_fillTable_121 ?_
          refine lv_iload_n hx hb dX6_fillTable_124 rfl (lv_at hl 1 rfl) ?_
          obtain ⟨i12, hf⟩ := qob_gd hf
          refine tb_aald hx hb hK hP 2 rfl i12 dX6_fillTable_125 ?_
          refine lv_iload_n hx hb dX6_fillTable_126 rfl (lv_at hl 1 rfl) ?_
          obtain ⟨i13, hf⟩ := qob_gd hf
          refine tb_lald hx hb hK hP 4 i12 rfl i13 dX6_fillTable_127 ?_
          obtain ⟨i14, hf⟩ := qob_gd hf
          obtain ⟨su_table_5, e15⟩ : ∃ z, z = updT su_table_4 x1_1.toNatClampNeg su_count.toNatClampNeg (su_table_4 x1_1.toNatClampNeg x1_1.toNatClampNeg) := ⟨_, rfl⟩
          have hf := qob_bd hf e15
          refine tb_last hx hb hK hP hD hS 4 i12 rfl i14 dX6_fillTable_128 (fun H locs hP hD hS => ?_)
          rw [← e15] at hP hD
          have hP : va_P D vwCl ([oX6 su g q_su_order q_su_table su_count su_above su_below, aI cy q_su_order 16 su_order, aT cy q_su_table su_tr, oX1 g g_rows g_columns g_a g_b g_cells g_right g_down] ++ suR cy su_tr su_table_5) H := hP
          have hD : va_D A ([oX6 su g q_su_order q_su_table su_count su_above su_below, aI cy q_su_order 16 su_order, aT cy q_su_table su_tr, oX1 g g_rows g_columns g_a g_b g_cells g_right g_down] ++ suR cy su_tr su_table_5) := hD
          refine lv_iinc (v := (x1_1 + 1)) (lv' := [(1, .int (x1_1 + 1)), (0, .ref su)]) hx hb dX6_fillTable_129 hl (k := 1) rfl rfl (by decide) rfl (fun ls hl => ?_)
          refine lv_goto (tgt := 2) hx hb dX6_fillTable_132 (by decide) ?_
          exact hL2 (x1_1 + 1) su_table_5 hf _ _ _ ⟨hP, hD, hS⟩ (lv_sub hl [1, 0] rfl)
        · intro J16 hJ16 hf
          refine qwalk2 (fun (x4_1 : Int32) (su_table_6 : Nat → Nat → Int64) => ∀ (H : Heap) (locs : List Loc) (ls : Array Slot), ctW D A s ([oX6 su g q_su_order q_su_table su_count su_above su_below, aI cy q_su_order 16 su_order, aT cy q_su_table su_tr, oX1 g g_rows g_columns g_a g_b g_cells g_right g_down] ++ suR cy su_tr su_table_6) H locs → lv_has ls 5 [(0, .ref su), (1, .int x1_1), (2, .long x2_1), (4, .int x4_1)] → W p l e rmX6_fillTable s m args below meth c H locs 0 0 Q (F0 m 36 ls [])) ?_ _ (0 : Int32) su_table_2 hf _ _ _ ⟨hP, hD, hS⟩ (lv_sub hl [2, 3, 1, 0] rfl)
          intro J17 hL17 x4_1 su_table_6 hf H locs ls ⟨hP, hD, hS⟩ hl
          refine lv_iload hx hb dX6_fillTable_36 (lv_at hl 3 rfl) ?_
          refine lv_aload_n hx hb dX6_fillTable_38 rfl (lv_at hl 0 rfl) ?_
          refine va_get (D := D) (ci := 6) (v := .int su_count) (C := RX6) (T := TX6) (N := 6) hx hb hts inwX6_fillTable_X6 hown hK hP 0 rfl rfl 3 (by decide) (hts (.fieldLink RX6 53 "HedgeWays$Sums" "count" "I") (List.mem_of_getElem? (i := 1) rfl)) (fun _ h9 => h9) rfl dX6_fillTable_39 ?_
          refine lv_icmp_ge (tgt := 88) hx hb dX6_fillTable_42 (by decide) (fun c18 => ?_) (fun c18 => ?_)
          · have hf := qob_t hf c18
            have hf := qob_esc hf
            exact hJ16 su_table_6 hf _ _ _ ⟨hP, hD, hS⟩ (lv_sub hl [0, 1] rfl)
          · have hf := qob_f hf c18
            refine lv_iload hx hb dX6_fillTable_45 (lv_at hl 3 rfl) ?_
            refine lv_bipush (v := 16) hx hb dX6_fillTable_47 (by decide) ?_
            refine lv_icmp_ge (tgt := 88) hx hb dX6_fillTable_49 (by decide) (fun c19 => ?_) (fun c19 => ?_)
            · have hf := qob_t hf c19
              have hf := qob_esc hf
              exact hJ16 su_table_6 hf _ _ _ ⟨hP, hD, hS⟩ (lv_sub hl [0, 1] rfl)
            · have hf := qob_f hf c19
              refine lv_aload_n hx hb dX6_fillTable_52 rfl (lv_at hl 0 rfl) ?_
              refine va_get (D := D) (ci := 6) (v := .ref q_su_table) (C := RX6) (T := TX6) (N := 6) hx hb hts inwX6_fillTable_X6 hown hK hP 0 rfl rfl 2 (by decide) (hts (.fieldLink RX6 21 "HedgeWays$Sums" "table" "[[J") (List.mem_of_getElem? (i := 4) rfl)) (fun _ h9 => h9) rfl dX6_fillTable_53 ?_
              refine lv_iload_n hx hb dX6_fillTable_56 rfl (lv_at hl 1 rfl) ?_
              obtain ⟨i20, hf⟩ := qob_gd hf
              refine tb_aald hx hb hK hP 2 rfl i20 dX6_fillTable_57 ?_
              refine lv_iload hx hb dX6_fillTable_58 (lv_at hl 3 rfl) ?_
              refine lv_lload_n hx hb dX6_fillTable_60 rfl (lv_at hl 2 rfl) ?_
              refine lv_aload_n hx hb dX6_fillTable_61 rfl (lv_at hl 0 rfl) ?_
              refine va_get (D := D) (ci := 6) (v := .ref q_su_order) (C := RX6) (T := TX6) (N := 6) hx hb hts inwX6_fillTable_X6 hown hK hP 0 rfl rfl 1 (by decide) (hts (.fieldLink RX6 15 "HedgeWays$Sums" "order" "[I") (List.mem_of_getElem? (i := 3) rfl)) (fun _ h9 => h9) rfl dX6_fillTable_62 ?_
              refine lv_iload hx hb dX6_fillTable_65 (lv_at hl 3 rfl) ?_
              obtain ⟨i21, hf⟩ := qob_gd hf
              refine va_iald hx hb hK hP 1 0 rfl rfl i21 dX6_fillTable_67 ?_
              refine ctS_i0 (r := (fX1_has x2_1 (su_order x4_1.toNatClampNeg))) (wc := []) (As := [.long x2_1, .int (su_order x4_1.toNatClampNeg)]) (rest := [.int x4_1, .ref (su_tr x1_1.toNatClampNeg)]) X hK hP hD hS [] rfl rfl rfl (KX1_has rfl _) (va_cwS 2 hts gX6_fillTable_X1_has rfl rfl rfl hdX1_has ⟨Nat.le_of_ble_eq_true rfl, Nat.le_of_ble_eq_true rfl⟩) rfl hl rfl (Nat.le_of_ble_eq_true rfl) dX6_fillTable_68 (Nat.zero_le _) (Nat.zero_le _) (fun H locs hP hS => ?_)
              refine lv_if_eq (tgt := 80) hx hb dX6_fillTable_71 (by decide) (fun c22 => ?_) (fun c22 => ?_)
              · have hf := qob_t hf c22
                refine lv_lconst (v := 0) hx hb dX6_fillTable_80 (by decide) ?_
                obtain ⟨i23, hf⟩ := qob_gd hf
                obtain ⟨su_table_7, e24⟩ : ∃ z, z = updT su_table_6 x1_1.toNatClampNeg x4_1.toNatClampNeg 0 := ⟨_, rfl⟩
                have hf := qob_bd hf e24
                refine tb_last hx hb hK hP hD hS 4 i20 rfl i23 dX6_fillTable_81 (fun H locs hP hD hS => ?_)
                rw [← e24] at hP hD
                have hP : va_P D vwCl ([oX6 su g q_su_order q_su_table su_count su_above su_below, aI cy q_su_order 16 su_order, aT cy q_su_table su_tr, oX1 g g_rows g_columns g_a g_b g_cells g_right g_down] ++ suR cy su_tr su_table_7) H := hP
                have hD : va_D A ([oX6 su g q_su_order q_su_table su_count su_above su_below, aI cy q_su_order 16 su_order, aT cy q_su_table su_tr, oX1 g g_rows g_columns g_a g_b g_cells g_right g_down] ++ suR cy su_tr su_table_7) := hD
                refine lv_iinc (v := (x4_1 + 1)) (lv' := [(4, .int (x4_1 + 1)), (0, .ref su), (1, .int x1_1), (2, .long x2_1)]) hx hb dX6_fillTable_82 hl (k := 3) rfl rfl (by decide) rfl (fun ls hl => ?_)
                refine lv_goto (tgt := 36) hx hb dX6_fillTable_85 (by decide) ?_
                exact hL17 (x4_1 + 1) su_table_7 hf _ _ _ ⟨hP, hD, hS⟩ (lv_sub hl [1, 2, 3, 0] rfl)
              · have hf := qob_f hf c22
                refine lv_ldc2 hx hb hown (hts (.constantLong RX6 37 (-1)) (List.mem_of_getElem? (i := 5) rfl)) dX6_fillTable_74 ?_
                refine lv_goto (tgt := 81) hx hb dX6_fillTable_77 (by decide) ?_
                obtain ⟨i25, hf⟩ := qob_gd hf
                obtain ⟨su_table_8, e26⟩ : ∃ z, z = updT su_table_6 x1_1.toNatClampNeg x4_1.toNatClampNeg (-1) := ⟨_, rfl⟩
                have hf := qob_bd hf e26
                refine tb_last hx hb hK hP hD hS 4 i20 rfl i25 dX6_fillTable_81 (fun H locs hP hD hS => ?_)
                rw [← e26] at hP hD
                have hP : va_P D vwCl ([oX6 su g q_su_order q_su_table su_count su_above su_below, aI cy q_su_order 16 su_order, aT cy q_su_table su_tr, oX1 g g_rows g_columns g_a g_b g_cells g_right g_down] ++ suR cy su_tr su_table_8) H := hP
                have hD : va_D A ([oX6 su g q_su_order q_su_table su_count su_above su_below, aI cy q_su_order 16 su_order, aT cy q_su_table su_tr, oX1 g g_rows g_columns g_a g_b g_cells g_right g_down] ++ suR cy su_tr su_table_8) := hD
                refine lv_iinc (v := (x4_1 + 1)) (lv' := [(4, .int (x4_1 + 1)), (0, .ref su), (1, .int x1_1), (2, .long x2_1)]) hx hb dX6_fillTable_82 hl (k := 3) rfl rfl (by decide) rfl (fun ls hl => ?_)
                refine lv_goto (tgt := 36) hx hb dX6_fillTable_85 (by decide) ?_
                exact hL17 (x4_1 + 1) su_table_8 hf _ _ _ ⟨hP, hD, hS⟩ (lv_sub hl [1, 2, 3, 0] rfl)
theorem inwX6_eliminate_X6 : ∀ w ∈ wsX60, w ∈ wsX6_eliminate := fun _ h => List.mem_cons_of_mem _ (List.mem_append_right _ h)
abbrev rmX6_eliminate : Room := { frames := 0, cells := 0, slots := 0, locals := 0 }
theorem hdX6_eliminate : yX6_eliminate.cls = RX6 ∧ yX6_eliminate.cls ≠ "java/lang/invoke/MethodHandle" ∧ yX6_eliminate.cls ≠ "java/lang/invoke/VarHandle" ∧ (parseMethodDescriptor yX6_eliminate.desc).map (fun d => d.parameters.length) = some 0 := by decide +kernel
set_option maxHeartbeats 4000000 in
set_option maxRecDepth 100000 in
theorem KX6_eliminate {l : Launch} {D : va_G} {cy : Nat → ClassId} {su g q_su_order q_su_table : Nat} {su_tr : Nat → Nat} {su_count : Int32} {su_above : Int64} {su_below : Int64} {su_order : Nat → Int32} {g_rows : Int32} {g_columns : Int32} {g_a : Int32} {g_b : Int32} {g_cells : Int64} {g_right : Int64} {g_down : Int64} {su_table : Nat → Nat → Int64}  {su_table' : Nat → Nat → Int64} (hf : fX6_eliminate su_count su_table = some su_table') : CtV l yX6_eliminate wsX6_eliminate rmX6_eliminate D cy [.ref su] ([oX6 su g q_su_order q_su_table su_count su_above su_below, aI cy q_su_order 16 su_order, aT cy q_su_table su_tr, oX1 g g_rows g_columns g_a g_b g_cells g_right g_down] ++ suR cy su_tr su_table) ([oX6 su g q_su_order q_su_table su_count su_above su_below, aI cy q_su_order 16 su_order, aT cy q_su_table su_tr, oX1 g g_rows g_columns g_a g_b g_cells g_right g_down] ++ suR cy su_tr su_table') := by
  refine CtV.of (cc := cX6_eliminate) (maxL := 8) (ret := none) (own := RX6) (by decide) rfl rfl (Nat.le_of_ble_eq_true rfl) ?_
  intro p e s m args below meth c A Q X hQ hK hP hD hS ls hl
  obtain ⟨hx, hb, hml, hown, hts, hr, hlocks, hA, hZ⟩ := id X
  have hl : lv_has ls 8 [(0, .ref su)] := hl
  unfold fX6_eliminate at hf
  have hf := qob_top hf
  refine lv_lconst (v := 1) hx hb dX6_eliminate_0 (by decide) ?_
  refine lv_lstore_n (lv' := [(1, .long 1), (0, .ref su)]) hx hb dX6_eliminate_1 rfl hl (by decide) rfl (fun ls hl => ?_)
  refine lv_iconst (v := 0) hx hb dX6_eliminate_2 (by decide) ?_
  refine lv_istore_n (lv' := [(3, .int 0), (1, .long 1), (0, .ref su)]) hx hb dX6_eliminate_3 rfl hl (by decide) rfl (fun ls hl => ?_)
  refine qjoin1 hf (fun (su_table_1 : Nat → Nat → Int64) => ∀ (H : Heap) (locs : List Loc) (ls : Array Slot), ctW D A s ([oX6 su g q_su_order q_su_table su_count su_above su_below, aI cy q_su_order 16 su_order, aT cy q_su_table su_tr, oX1 g g_rows g_columns g_a g_b g_cells g_right g_down] ++ suR cy su_tr su_table_1) H locs → lv_has ls 8 [] → W p l e rmX6_eliminate s m args below meth c H locs 0 0 Q (F0 m 144 ls [])) ?_ ?_
  · intro su_table_1 hf H locs ls ⟨hP, hD, hS⟩ hl
    cases qob_ret hf
    exact ct_vret X hQ hK hP hD hS dX6_eliminate_144
  · intro J1 hJ1 hf
    refine qwalk3 (fun (x1_1 : Int64) (x3_1 : Int32) (su_table_2 : Nat → Nat → Int64) => ∀ (H : Heap) (locs : List Loc) (ls : Array Slot), ctW D A s ([oX6 su g q_su_order q_su_table su_count su_above su_below, aI cy q_su_order 16 su_order, aT cy q_su_table su_tr, oX1 g g_rows g_columns g_a g_b g_cells g_right g_down] ++ suR cy su_tr su_table_2) H locs → lv_has ls 8 [(0, .ref su), (1, .long x1_1), (3, .int x3_1)] → W p l e rmX6_eliminate s m args below meth c H locs 0 0 Q (F0 m 4 ls [])) ?_ _ (1 : Int64) (0 : Int32) su_table hf _ _ _ ⟨hP, hD, hS⟩ (lv_sub hl [2, 1, 0] rfl)
    intro J2 hL2 x1_1 x3_1 su_table_2 hf H locs ls ⟨hP, hD, hS⟩ hl
    refine lv_iload_n hx hb dX6_eliminate_4 rfl (lv_at hl 2 rfl) ?_
    refine lv_aload_n hx hb dX6_eliminate_5 rfl (lv_at hl 0 rfl) ?_
    refine va_get (D := D) (ci := 6) (v := .int su_count) (C := RX6) (T := TX6) (N := 6) hx hb hts inwX6_eliminate_X6 hown hK hP 0 rfl rfl 3 (by decide) (hts (.fieldLink RX6 53 "HedgeWays$Sums" "count" "I") (List.mem_of_getElem? (i := 1) rfl)) (fun _ h9 => h9) rfl dX6_eliminate_6 ?_
    refine lv_iconst (v := 1) hx hb dX6_eliminate_9 (by decide) ?_
    refine lv_isub hx hb dX6_eliminate_10 ?_
    refine lv_icmp_ge (tgt := 144) hx hb dX6_eliminate_11 (by decide) (fun c3 => ?_) (fun c3 => ?_)
    · have hf := qob_t hf c3
      have hf := qob_esc hf
      exact hJ1 su_table_2 hf _ _ _ ⟨hP, hD, hS⟩ (lv_sub hl [] rfl)
    · have hf := qob_f hf c3
      refine lv_iload_n hx hb dX6_eliminate_14 rfl (lv_at hl 2 rfl) ?_
      refine lv_bipush (v := 16) hx hb dX6_eliminate_15 (by decide) ?_
      refine lv_icmp_ge (tgt := 144) hx hb dX6_eliminate_17 (by decide) (fun c4 => ?_) (fun c4 => ?_)
      · have hf := qob_t hf c4
        have hf := qob_esc hf
        exact hJ1 su_table_2 hf _ _ _ ⟨hP, hD, hS⟩ (lv_sub hl [] rfl)
      · have hf := qob_f hf c4
        refine lv_aload_n hx hb dX6_eliminate_20 rfl (lv_at hl 0 rfl) ?_
        refine va_get (D := D) (ci := 6) (v := .ref q_su_table) (C := RX6) (T := TX6) (N := 6) hx hb hts inwX6_eliminate_X6 hown hK hP 0 rfl rfl 2 (by decide) (hts (.fieldLink RX6 21 "HedgeWays$Sums" "table" "[[J") (List.mem_of_getElem? (i := 2) rfl)) (fun _ h9 => h9) rfl dX6_eliminate_21 ?_
        refine lv_iload_n hx hb dX6_eliminate_24 rfl (lv_at hl 2 rfl) ?_
        obtain ⟨i5, hf⟩ := qob_gd hf
        refine tb_aald hx hb hK hP 2 rfl i5 dX6_eliminate_25 ?_
        refine lv_iload_n hx hb dX6_eliminate_26 rfl (lv_at hl 2 rfl) ?_
        obtain ⟨i6, hf⟩ := qob_gd hf
        refine tb_lald hx hb hK hP 4 i5 rfl i6 dX6_eliminate_27 ?_
        refine lv_topl (fun x4_1 e7 => ?_)
        have hf := qob_bd hf e7
        refine lv_lstore (lv' := [(4, .long x4_1), (0, .ref su), (1, .long x1_1), (3, .int x3_1)]) hx hb dX6_eliminate_28 hl (by decide) rfl (fun ls hl => ?_)
        refine lv_iload_n hx hb dX6_eliminate_30 rfl (lv_at hl 3 rfl) ?_
        refine lv_iconst (v := 1) hx hb dX6_eliminate_31 (by decide) ?_
        refine lv_iadd hx hb dX6_eliminate_32 ?_
        refine lv_istore (lv' := [(6, .int (x3_1 + 1)), (4, .long x4_1), (0, .ref su), (1, .long x1_1), (3, .int x3_1)]) hx hb dX6_eliminate_33 hl (by decide) rfl (fun ls hl => ?_)
        refine qjoin1 hf (fun (su_table_3 : Nat → Nat → Int64) => ∀ (H : Heap) (locs : List Loc) (ls : Array Slot), ctW D A s ([oX6 su g q_su_order q_su_table su_count su_above su_below, aI cy q_su_order 16 su_order, aT cy q_su_table su_tr, oX1 g g_rows g_columns g_a g_b g_cells g_right g_down] ++ suR cy su_tr su_table_3) H locs → lv_has ls 8 [(0, .ref su), (3, .int x3_1), (4, .long x4_1)] → W p l e rmX6_eliminate s m args below meth c H locs 0 0 Q (F0 m 135 ls [])) ?_ ?_
        · intro su_table_3 hf H locs ls ⟨hP, hD, hS⟩ hl
          refine lv_lload hx hb dX6_eliminate_135 (lv_at hl 2 rfl) ?_
          refine lv_lstore_n (lv' := [(1, .long x4_1), (0, .ref su), (3, .int x3_1), (4, .long x4_1)]) hx hb dX6_eliminate_137 rfl hl (by decide) rfl (fun ls hl => ?_)
          refine lv_iinc (v := (x3_1 + 1)) (lv' := [(3, .int (x3_1 + 1)), (1, .long x4_1), (0, .ref su), (4, .long x4_1)]) hx hb dX6_eliminate_138 hl (k := 2) rfl rfl (by decide) rfl (fun ls hl => ?_)
          refine lv_goto (tgt := 4) hx hb dX6_eliminate_141 (by decide) ?_
          exact hL2 x4_1 (x3_1 + 1) su_table_3 hf _ _ _ ⟨hP, hD, hS⟩ (lv_sub hl [2, 1, 0] rfl)
        · intro J8 hJ8 hf
          refine qwalk2 (fun (x6_1 : Int32) (su_table_4 : Nat → Nat → Int64) => ∀ (H : Heap) (locs : List Loc) (ls : Array Slot), ctW D A s ([oX6 su g q_su_order q_su_table su_count su_above su_below, aI cy q_su_order 16 su_order, aT cy q_su_table su_tr, oX1 g g_rows g_columns g_a g_b g_cells g_right g_down] ++ suR cy su_tr su_table_4) H locs → lv_has ls 8 [(0, .ref su), (1, .long x1_1), (3, .int x3_1), (4, .long x4_1), (6, .int x6_1)] → W p l e rmX6_eliminate s m args below meth c H locs 0 0 Q (F0 m 35 ls [])) ?_ _ (x3_1 + 1) su_table_2 hf _ _ _ ⟨hP, hD, hS⟩ (lv_sub hl [2, 3, 4, 1, 0] rfl)
          intro J9 hL9 x6_1 su_table_4 hf H locs ls ⟨hP, hD, hS⟩ hl
          refine lv_iload hx hb dX6_eliminate_35 (lv_at hl 4 rfl) ?_
          refine lv_aload_n hx hb dX6_eliminate_37 rfl (lv_at hl 0 rfl) ?_
          refine va_get (D := D) (ci := 6) (v := .int su_count) (C := RX6) (T := TX6) (N := 6) hx hb hts inwX6_eliminate_X6 hown hK hP 0 rfl rfl 3 (by decide) (hts (.fieldLink RX6 53 "HedgeWays$Sums" "count" "I") (List.mem_of_getElem? (i := 1) rfl)) (fun _ h9 => h9) rfl dX6_eliminate_38 ?_
          refine lv_icmp_ge (tgt := 135) hx hb dX6_eliminate_41 (by decide) (fun c10 => ?_) (fun c10 => ?_)
          · have hf := qob_t hf c10
            have hf := qob_esc hf
            exact hJ8 su_table_4 hf _ _ _ ⟨hP, hD, hS⟩ (lv_sub hl [0, 2, 3] rfl)
          · have hf := qob_f hf c10
            refine lv_iload hx hb dX6_eliminate_44 (lv_at hl 4 rfl) ?_
            refine lv_bipush (v := 16) hx hb dX6_eliminate_46 (by decide) ?_
            refine lv_icmp_ge (tgt := 135) hx hb dX6_eliminate_48 (by decide) (fun c11 => ?_) (fun c11 => ?_)
            · have hf := qob_t hf c11
              have hf := qob_esc hf
              exact hJ8 su_table_4 hf _ _ _ ⟨hP, hD, hS⟩ (lv_sub hl [0, 2, 3] rfl)
            · have hf := qob_f hf c11
              refine lv_iload_n hx hb dX6_eliminate_51 rfl (lv_at hl 2 rfl) ?_
              refine lv_iconst (v := 1) hx hb dX6_eliminate_52 (by decide) ?_
              refine lv_iadd hx hb dX6_eliminate_53 ?_
              refine lv_istore (lv' := [(7, .int (x3_1 + 1)), (0, .ref su), (1, .long x1_1), (3, .int x3_1), (4, .long x4_1), (6, .int x6_1)]) hx hb dX6_eliminate_54 hl (by decide) rfl (fun ls hl => ?_)
              refine qjoin1 hf (fun (su_table_5 : Nat → Nat → Int64) => ∀ (H : Heap) (locs : List Loc) (ls : Array Slot), ctW D A s ([oX6 su g q_su_order q_su_table su_count su_above su_below, aI cy q_su_order 16 su_order, aT cy q_su_table su_tr, oX1 g g_rows g_columns g_a g_b g_cells g_right g_down] ++ suR cy su_tr su_table_5) H locs → lv_has ls 8 [(0, .ref su), (1, .long x1_1), (3, .int x3_1), (4, .long x4_1), (6, .int x6_1)] → W p l e rmX6_eliminate s m args below meth c H locs 0 0 Q (F0 m 129 ls [])) ?_ ?_
              · intro su_table_5 hf H locs ls ⟨hP, hD, hS⟩ hl
                refine lv_iinc (v := (x6_1 + 1)) (lv' := [(6, .int (x6_1 + 1)), (0, .ref su), (1, .long x1_1), (3, .int x3_1), (4, .long x4_1)]) hx hb dX6_eliminate_129 hl (k := 4) rfl rfl (by decide) rfl (fun ls hl => ?_)
                refine lv_goto (tgt := 35) hx hb dX6_eliminate_132 (by decide) ?_
                exact hL9 (x6_1 + 1) su_table_5 hf _ _ _ ⟨hP, hD, hS⟩ (lv_sub hl [1, 2, 3, 4, 0] rfl)
              · intro J12 hJ12 hf
                refine qwalk2 (fun (x7_1 : Int32) (su_table_6 : Nat → Nat → Int64) => ∀ (H : Heap) (locs : List Loc) (ls : Array Slot), ctW D A s ([oX6 su g q_su_order q_su_table su_count su_above su_below, aI cy q_su_order 16 su_order, aT cy q_su_table su_tr, oX1 g g_rows g_columns g_a g_b g_cells g_right g_down] ++ suR cy su_tr su_table_6) H locs → lv_has ls 8 [(0, .ref su), (1, .long x1_1), (3, .int x3_1), (4, .long x4_1), (6, .int x6_1), (7, .int x7_1)] → W p l e rmX6_eliminate s m args below meth c H locs 0 0 Q (F0 m 56 ls [])) ?_ _ (x3_1 + 1) su_table_4 hf _ _ _ ⟨hP, hD, hS⟩ (lv_sub hl [1, 2, 3, 4, 5, 0] rfl)
                intro J13 hL13 x7_1 su_table_6 hf H locs ls ⟨hP, hD, hS⟩ hl
                refine lv_iload hx hb dX6_eliminate_56 (lv_at hl 5 rfl) ?_
                refine lv_aload_n hx hb dX6_eliminate_58 rfl (lv_at hl 0 rfl) ?_
                refine va_get (D := D) (ci := 6) (v := .int su_count) (C := RX6) (T := TX6) (N := 6) hx hb hts inwX6_eliminate_X6 hown hK hP 0 rfl rfl 3 (by decide) (hts (.fieldLink RX6 53 "HedgeWays$Sums" "count" "I") (List.mem_of_getElem? (i := 1) rfl)) (fun _ h9 => h9) rfl dX6_eliminate_59 ?_
                refine lv_icmp_gt (tgt := 129) hx hb dX6_eliminate_62 (by decide) (fun c14 => ?_) (fun c14 => ?_)
                · have hf := qob_t hf c14
                  have hf := qob_esc hf
                  exact hJ12 su_table_6 hf _ _ _ ⟨hP, hD, hS⟩ (lv_sub hl [0, 1, 2, 3, 4] rfl)
                · have hf := qob_f hf c14
                  refine lv_iload hx hb dX6_eliminate_65 (lv_at hl 5 rfl) ?_
                  refine lv_bipush (v := 16) hx hb dX6_eliminate_67 (by decide) ?_
                  refine lv_icmp_gt (tgt := 129) hx hb dX6_eliminate_69 (by decide) (fun c15 => ?_) (fun c15 => ?_)
                  · have hf := qob_t hf c15
                    have hf := qob_esc hf
                    exact hJ12 su_table_6 hf _ _ _ ⟨hP, hD, hS⟩ (lv_sub hl [0, 1, 2, 3, 4] rfl)
                  · have hf := qob_f hf c15
                    refine lv_lload_n hx hb dX6_eliminate_72 rfl (lv_at hl 1 rfl) ?_
                    refine lv_lconst (v := 0) hx hb dX6_eliminate_73 (by decide) ?_
                    refine W.lcmp hx hb dX6_eliminate_74 ?_
                    refine lv_if_eq (tgt := 129) hx hb dX6_eliminate_75 (by decide) (fun c16 => ?_) (fun c16 => ?_)
                    · have hf := qob_t hf c16
                      have hf := qob_esc hf
                      exact hJ12 su_table_6 hf _ _ _ ⟨hP, hD, hS⟩ (lv_sub hl [0, 1, 2, 3, 4] rfl)
                    · have hf := qob_f hf c16
                      refine lv_aload_n hx hb dX6_eliminate_78 rfl (lv_at hl 0 rfl) ?_
                      refine va_get (D := D) (ci := 6) (v := .ref q_su_table) (C := RX6) (T := TX6) (N := 6) hx hb hts inwX6_eliminate_X6 hown hK hP 0 rfl rfl 2 (by decide) (hts (.fieldLink RX6 21 "HedgeWays$Sums" "table" "[[J") (List.mem_of_getElem? (i := 2) rfl)) (fun _ h9 => h9) rfl dX6_eliminate_79 ?_
                      refine lv_iload hx hb dX6_eliminate_82 (lv_at hl 4 rfl) ?_
                      obtain ⟨i17, hf⟩ := qob_gd hf
                      refine tb_aald hx hb hK hP 2 rfl i17 dX6_eliminate_84 ?_
                      refine lv_iload hx hb dX6_eliminate_85 (lv_at hl 5 rfl) ?_
                      refine lv_aload_n hx hb dX6_eliminate_87 rfl (lv_at hl 0 rfl) ?_
                      refine va_get (D := D) (ci := 6) (v := .ref q_su_table) (C := RX6) (T := TX6) (N := 6) hx hb hts inwX6_eliminate_X6 hown hK hP 0 rfl rfl 2 (by decide) (hts (.fieldLink RX6 21 "HedgeWays$Sums" "table" "[[J") (List.mem_of_getElem? (i := 2) rfl)) (fun _ h9 => h9) rfl dX6_eliminate_88 ?_
                      refine lv_iload hx hb dX6_eliminate_91 (lv_at hl 4 rfl) ?_
                      obtain ⟨i18, hf⟩ := qob_gd hf
                      refine tb_aald hx hb hK hP 2 rfl i18 dX6_eliminate_93 ?_
                      refine lv_iload hx hb dX6_eliminate_94 (lv_at hl 5 rfl) ?_
                      obtain ⟨i19, hf⟩ := qob_gd hf
                      refine tb_lald hx hb hK hP 4 i18 rfl i19 dX6_eliminate_96 ?_
                      refine lv_lload hx hb dX6_eliminate_97 (lv_at hl 3 rfl) ?_
                      refine lv_lmul hx hb dX6_eliminate_99 ?_
                      refine lv_aload_n hx hb dX6_eliminate_100 rfl (lv_at hl 0 rfl) ?_
                      refine va_get (D := D) (ci := 6) (v := .ref q_su_table) (C := RX6) (T := TX6) (N := 6) hx hb hts inwX6_eliminate_X6 hown hK hP 0 rfl rfl 2 (by decide) (hts (.fieldLink RX6 21 "HedgeWays$Sums" "table" "[[J") (List.mem_of_getElem? (i := 2) rfl)) (fun _ h9 => h9) rfl dX6_eliminate_101 ?_
                      refine lv_iload hx hb dX6_eliminate_104 (lv_at hl 4 rfl) ?_
                      obtain ⟨i20, hf⟩ := qob_gd hf
                      refine tb_aald hx hb hK hP 2 rfl i20 dX6_eliminate_106 ?_
                      refine lv_iload_n hx hb dX6_eliminate_107 rfl (lv_at hl 2 rfl) ?_
                      obtain ⟨i21, hf⟩ := qob_gd hf
                      refine tb_lald hx hb hK hP 4 i20 rfl i21 dX6_eliminate_108 ?_
                      refine lv_aload_n hx hb dX6_eliminate_109 rfl (lv_at hl 0 rfl) ?_
                      refine va_get (D := D) (ci := 6) (v := .ref q_su_table) (C := RX6) (T := TX6) (N := 6) hx hb hts inwX6_eliminate_X6 hown hK hP 0 rfl rfl 2 (by decide) (hts (.fieldLink RX6 21 "HedgeWays$Sums" "table" "[[J") (List.mem_of_getElem? (i := 2) rfl)) (fun _ h9 => h9) rfl dX6_eliminate_110 ?_
                      refine lv_iload_n hx hb dX6_eliminate_113 rfl (lv_at hl 2 rfl) ?_
                      obtain ⟨i22, hf⟩ := qob_gd hf
                      refine tb_aald hx hb hK hP 2 rfl i22 dX6_eliminate_114 ?_
                      refine lv_iload hx hb dX6_eliminate_115 (lv_at hl 5 rfl) ?_
                      obtain ⟨i23, hf⟩ := qob_gd hf
                      refine tb_lald hx hb hK hP 4 i22 rfl i23 dX6_eliminate_117 ?_
                      refine lv_lmul hx hb dX6_eliminate_118 ?_
                      refine lv_lsub hx hb dX6_eliminate_119 ?_
                      refine lv_lload_n hx hb dX6_eliminate_120 rfl (lv_at hl 1 rfl) ?_
                      obtain ⟨z24, hf⟩ := qob_gl hf
                      refine lv_ldiv hx hb dX6_eliminate_121 z24 ?_
                      obtain ⟨i25, hf⟩ := qob_gd hf
                      obtain ⟨su_table_7, e26⟩ : ∃ z, z = updT su_table_6 x6_1.toNatClampNeg x7_1.toNatClampNeg ((((su_table_6 x6_1.toNatClampNeg x7_1.toNatClampNeg) * x4_1) - ((su_table_6 x6_1.toNatClampNeg x3_1.toNatClampNeg) * (su_table_6 x3_1.toNatClampNeg x7_1.toNatClampNeg))) / x1_1) := ⟨_, rfl⟩
                      have hf := qob_bd hf e26
                      refine tb_last hx hb hK hP hD hS 4 i20 rfl i25 dX6_eliminate_122 (fun H locs hP hD hS => ?_)
                      rw [← e26] at hP hD
                      have hP : va_P D vwCl ([oX6 su g q_su_order q_su_table su_count su_above su_below, aI cy q_su_order 16 su_order, aT cy q_su_table su_tr, oX1 g g_rows g_columns g_a g_b g_cells g_right g_down] ++ suR cy su_tr su_table_7) H := hP
                      have hD : va_D A ([oX6 su g q_su_order q_su_table su_count su_above su_below, aI cy q_su_order 16 su_order, aT cy q_su_table su_tr, oX1 g g_rows g_columns g_a g_b g_cells g_right g_down] ++ suR cy su_tr su_table_7) := hD
                      refine lv_iinc (v := (x7_1 + 1)) (lv' := [(7, .int (x7_1 + 1)), (0, .ref su), (1, .long x1_1), (3, .int x3_1), (4, .long x4_1), (6, .int x6_1)]) hx hb dX6_eliminate_123 hl (k := 5) rfl rfl (by decide) rfl (fun ls hl => ?_)
                      refine lv_goto (tgt := 56) hx hb dX6_eliminate_126 (by decide) ?_
                      exact hL13 (x7_1 + 1) su_table_7 hf _ _ _ ⟨hP, hD, hS⟩ (lv_sub hl [1, 2, 3, 4, 5, 0] rfl)
abbrev rmX6_commonDivisor : Room := { frames := 0, cells := 0, slots := 0, locals := 0 }
theorem hdX6_commonDivisor : yX6_commonDivisor.cls ≠ "java/lang/invoke/MethodHandle" ∧ yX6_commonDivisor.cls ≠ "java/lang/invoke/VarHandle" ∧ (parseMethodDescriptor yX6_commonDivisor.desc).map (fun d => d.parameters.length) = some 2 := by decide +kernel
set_option maxHeartbeats 4000000 in
set_option maxRecDepth 100000 in
theorem KX6_commonDivisor {l : Launch} {D : va_G} {cy : Nat → ClassId}  {p1 : Int64} {p2 : Int64} {r : Int64} (hf : fX6_commonDivisor p1 p2 = some r) : CtL l yX6_commonDivisor wsX6_commonDivisor rmX6_commonDivisor D cy [.long p1, .long p2] ([]) ([]) r := by
  refine CtL.of (cc := cX6_commonDivisor) (maxL := 11) (ret := some .long) (own := RX6) (by decide) rfl rfl (Nat.le_of_ble_eq_true rfl) ?_
  intro p e s m args below meth c A Q X hQ hK hP hD hS ls hl
  obtain ⟨hx, hb, hml, hown, hts, hr, hlocks, hA, hZ⟩ := id X
  have hl : lv_has ls 11 [(0, .long p1), (2, .long p2)] := hl
  unfold fX6_commonDivisor at hf
  have hf := qob_top hf
  refine lv_lload_n hx hb dX6_commonDivisor_0 rfl (lv_at hl 0 rfl) ?_
  refine lv_lstore (lv' := [(4, .long p1), (0, .long p1), (2, .long p2)]) hx hb dX6_commonDivisor_1 hl (by decide) rfl (fun ls hl => ?_)
  refine lv_lload_n hx hb dX6_commonDivisor_3 rfl (lv_at hl 2 rfl) ?_
  refine lv_lstore (lv' := [(6, .long p2), (4, .long p1), (0, .long p1), (2, .long p2)]) hx hb dX6_commonDivisor_4 hl (by decide) rfl (fun ls hl => ?_)
  refine lv_iconst (v := 0) hx hb dX6_commonDivisor_6 (by decide) ?_
  refine lv_istore (lv' := [(8, .int 0), (6, .long p2), (4, .long p1), (0, .long p1), (2, .long p2)]) hx hb dX6_commonDivisor_7 hl (by decide) rfl (fun ls hl => ?_)
  refine qjoin1 hf (fun (x4_1 : Int64) => ∀ (H : Heap) (locs : List Loc) (ls : Array Slot), ctW D A s ([]) H locs → lv_has ls 11 [(4, .long x4_1)] → W p l e rmX6_commonDivisor s m args below meth c H locs 0 0 Q (F0 m 44 ls [])) ?_ ?_
  · intro x4_1 hf H locs ls ⟨hP, hD, hS⟩ hl
    refine lv_lload hx hb dX6_commonDivisor_44 (lv_at hl 0 rfl) ?_
    cases qob_ret hf
    exact ct_lret X hQ hK hP hD hS rfl dX6_commonDivisor_46
  · intro J1 hJ1 hf
    refine qwalk3 (fun (x4_2 : Int64) (x6_1 : Int64) (x8_1 : Int32) => ∀ (H : Heap) (locs : List Loc) (ls : Array Slot), ctW D A s ([]) H locs → lv_has ls 11 [(4, .long x4_2), (6, .long x6_1), (8, .int x8_1)] → W p l e rmX6_commonDivisor s m args below meth c H locs 0 0 Q (F0 m 9 ls [])) ?_ _ p1 p2 (0 : Int32) hf _ _ _ ⟨hP, hD, hS⟩ (lv_sub hl [2, 1, 0] rfl)
    intro J2 hL2 x4_2 x6_1 x8_1 hf H locs ls ⟨hP, hD, hS⟩ hl
    refine lv_iload hx hb dX6_commonDivisor_9 (lv_at hl 2 rfl) ?_
    refine lv_bipush (v := 100) hx hb dX6_commonDivisor_11 (by decide) ?_
    refine lv_icmp_ge (tgt := 44) hx hb dX6_commonDivisor_13 (by decide) (fun c3 => ?_) (fun c3 => ?_)
    · have hf := qob_t hf c3
      have hf := qob_esc hf
      exact hJ1 x4_2 hf _ _ _ ⟨hP, hD, hS⟩ (lv_sub hl [0] rfl)
    · have hf := qob_f hf c3
      refine lv_lload hx hb dX6_commonDivisor_16 (lv_at hl 1 rfl) ?_
      refine lv_lconst (v := 0) hx hb dX6_commonDivisor_18 (by decide) ?_
      refine W.lcmp hx hb dX6_commonDivisor_19 ?_
      refine lv_if_eq (tgt := 44) hx hb dX6_commonDivisor_20 (by decide) (fun c4 => ?_) (fun c4 => ?_)
      · have hf := qob_t hf c4
        have hf := qob_esc hf
        exact hJ1 x4_2 hf _ _ _ ⟨hP, hD, hS⟩ (lv_sub hl [0] rfl)
      · have hf := qob_f hf c4
        refine lv_lload hx hb dX6_commonDivisor_23 (lv_at hl 0 rfl) ?_
        refine lv_lload hx hb dX6_commonDivisor_25 (lv_at hl 1 rfl) ?_
        obtain ⟨z5, hf⟩ := qob_gl hf
        refine lv_lrem hx hb dX6_commonDivisor_27 z5 ?_
        refine lv_lstore (lv' := [(9, .long (qreml x4_2 x6_1)), (4, .long x4_2), (6, .long x6_1), (8, .int x8_1)]) hx hb dX6_commonDivisor_28 hl (by decide) rfl (fun ls hl => ?_)
        refine lv_lload hx hb dX6_commonDivisor_30 (lv_at hl 2 rfl) ?_
        refine lv_lstore (lv' := [(4, .long x6_1), (9, .long (qreml x4_2 x6_1)), (6, .long x6_1), (8, .int x8_1)]) hx hb dX6_commonDivisor_32 hl (by decide) rfl (fun ls hl => ?_)
        refine lv_lload hx hb dX6_commonDivisor_34 (lv_at hl 1 rfl) ?_
        refine lv_lstore (lv' := [(6, .long (qreml x4_2 x6_1)), (4, .long x6_1), (9, .long (qreml x4_2 x6_1)), (8, .int x8_1)]) hx hb dX6_commonDivisor_36 hl (by decide) rfl (fun ls hl => ?_)
        refine lv_iinc (v := (x8_1 + 1)) (lv' := [(8, .int (x8_1 + 1)), (6, .long (qreml x4_2 x6_1)), (4, .long x6_1), (9, .long (qreml x4_2 x6_1))]) hx hb dX6_commonDivisor_38 hl (k := 3) rfl rfl (by decide) rfl (fun ls hl => ?_)
        refine lv_goto (tgt := 9) hx hb dX6_commonDivisor_41 (by decide) ?_
        exact hL2 x6_1 (qreml x4_2 x6_1) (x8_1 + 1) hf _ _ _ ⟨hP, hD, hS⟩ (lv_sub hl [2, 1, 0] rfl)
theorem inwX6_setFraction_X6 : ∀ w ∈ wsX60, w ∈ wsX6_setFraction := fun _ h => List.mem_cons_of_mem _ (List.mem_append_right _ h)
abbrev rmX6_setFraction : Room := { frames := 1, cells := 0, slots := 0, locals := 30 }
theorem hdX6_setFraction : yX6_setFraction.cls = RX6 ∧ yX6_setFraction.cls ≠ "java/lang/invoke/MethodHandle" ∧ yX6_setFraction.cls ≠ "java/lang/invoke/VarHandle" ∧ (parseMethodDescriptor yX6_setFraction.desc).map (fun d => d.parameters.length) = some 2 := by decide +kernel
set_option maxHeartbeats 4000000 in
set_option maxRecDepth 100000 in
theorem KX6_setFraction {l : Launch} {D : va_G} {cy : Nat → ClassId} {su g q_su_order q_su_table : Nat} {su_tr : Nat → Nat} {su_count : Int32} {su_above : Int64} {su_below : Int64} {su_order : Nat → Int32} {g_rows : Int32} {g_columns : Int32} {g_a : Int32} {g_b : Int32} {g_cells : Int64} {g_right : Int64} {g_down : Int64} {su_table : Nat → Nat → Int64} {p1 : Int64} {p2 : Int64} {su_above' : Int64} {su_below' : Int64} (hf : fX6_setFraction su_above su_below p1 p2 = some (su_above', su_below')) : CtV l yX6_setFraction wsX6_setFraction rmX6_setFraction D cy [.ref su, .long p1, .long p2] ([oX6 su g q_su_order q_su_table su_count su_above su_below, aI cy q_su_order 16 su_order, aT cy q_su_table su_tr, oX1 g g_rows g_columns g_a g_b g_cells g_right g_down] ++ suR cy su_tr su_table) ([oX6 su g q_su_order q_su_table su_count su_above' su_below', aI cy q_su_order 16 su_order, aT cy q_su_table su_tr, oX1 g g_rows g_columns g_a g_b g_cells g_right g_down] ++ suR cy su_tr su_table) := by
  refine CtV.of (cc := cX6_setFraction) (maxL := 7) (ret := none) (own := RX6) (by decide) rfl rfl (Nat.le_of_ble_eq_true rfl) ?_
  intro p e s m args below meth c A Q X hQ hK hP hD hS ls hl
  obtain ⟨hx, hb, hml, hown, hts, hr, hlocks, hA, hZ⟩ := id X
  have hl : lv_has ls 7 [(0, .ref su), (1, .long p1), (3, .long p2)] := hl
  unfold fX6_setFraction at hf
  have hf := qob_top hf
  refine lv_lload_n hx hb dX6_setFraction_0 rfl (lv_at hl 1 rfl) ?_
  refine lv_lload_n hx hb dX6_setFraction_1 rfl (lv_at hl 2 rfl) ?_
  obtain ⟨r_1, q1, hf⟩ := qcall1 hf
  refine ctS_l0 (r := r_1) (wc := []) (As := [.long p1, .long p2]) (rest := []) X hK hP hD hS [] rfl rfl rfl (KX6_commonDivisor q1 _) (va_cwS 2 hts gX6_setFraction_X6_commonDivisor rfl rfl rfl hdX6_commonDivisor ⟨Nat.le_of_ble_eq_true rfl, Nat.le_of_ble_eq_true rfl⟩) rfl hl rfl (Nat.le_of_ble_eq_true rfl) dX6_setFraction_2 (Nat.zero_le _) (Nat.zero_le _) (fun H locs hP hS => ?_)
  refine lv_lstore (lv' := [(5, .long r_1), (0, .ref su), (1, .long p1), (3, .long p2)]) hx hb dX6_setFraction_5 hl (by decide) rfl (fun ls hl => ?_)
  refine lv_lload hx hb dX6_setFraction_7 (lv_at hl 0 rfl) ?_
  refine lv_lconst (v := 0) hx hb dX6_setFraction_9 (by decide) ?_
  refine W.lcmp hx hb dX6_setFraction_10 ?_
  refine lv_if_eq (tgt := 30) hx hb dX6_setFraction_11 (by decide) (fun c2 => ?_) (fun c2 => ?_)
  · have hf := qob_t hf c2
    cases qob_ret hf
    exact ct_vret X hQ hK hP hD hS dX6_setFraction_30
  · have hf := qob_f hf c2
    refine lv_aload_n hx hb dX6_setFraction_14 rfl (lv_at hl 1 rfl) ?_
    refine lv_lload_n hx hb dX6_setFraction_15 rfl (lv_at hl 2 rfl) ?_
    refine lv_lload hx hb dX6_setFraction_16 (lv_at hl 0 rfl) ?_
    obtain ⟨z3, hf⟩ := qob_gl hf
    refine lv_ldiv hx hb dX6_setFraction_18 z3 ?_
    refine va_put (D := D) (ci := 6) (v := .long (p1 / r_1)) (ty := .long) (C := RX6) (T := TX6) (N := 6) hx hb hts inwX6_setFraction_X6 tyX6 tyX6_ok nmX6 hown hK hP hD hS 0 rfl rfl 4 (by decide) (hts (.fieldLink RX6 24 "HedgeWays$Sums" "above" "J") (List.mem_of_getElem? (i := 1) rfl)) (fun _ h9 => h9) rfl (tyX6_ok 4 (by decide)) rfl rfl (Nat.le_of_ble_eq_true rfl) dX6_setFraction_19 (fun H locs hP hD hS => ?_)
    have hP : va_P D vwCl ([oX6 su g q_su_order q_su_table su_count (p1 / r_1) su_below, aI cy q_su_order 16 su_order, aT cy q_su_table su_tr, oX1 g g_rows g_columns g_a g_b g_cells g_right g_down] ++ suR cy su_tr su_table) H := hP
    have hD : va_D A ([oX6 su g q_su_order q_su_table su_count (p1 / r_1) su_below, aI cy q_su_order 16 su_order, aT cy q_su_table su_tr, oX1 g g_rows g_columns g_a g_b g_cells g_right g_down] ++ suR cy su_tr su_table) := hD
    refine lv_aload_n hx hb dX6_setFraction_22 rfl (lv_at hl 1 rfl) ?_
    refine lv_lload_n hx hb dX6_setFraction_23 rfl (lv_at hl 3 rfl) ?_
    refine lv_lload hx hb dX6_setFraction_24 (lv_at hl 0 rfl) ?_
    obtain ⟨z4, hf⟩ := qob_gl hf
    refine lv_ldiv hx hb dX6_setFraction_26 z4 ?_
    refine va_put (D := D) (ci := 6) (v := .long (p2 / r_1)) (ty := .long) (C := RX6) (T := TX6) (N := 6) hx hb hts inwX6_setFraction_X6 tyX6 tyX6_ok nmX6 hown hK hP hD hS 0 rfl rfl 5 (by decide) (hts (.fieldLink RX6 28 "HedgeWays$Sums" "below" "J") (List.mem_of_getElem? (i := 2) rfl)) (fun _ h9 => h9) rfl (tyX6_ok 5 (by decide)) rfl rfl (Nat.le_of_ble_eq_true rfl) dX6_setFraction_27 (fun H locs hP hD hS => ?_)
    have hP : va_P D vwCl ([oX6 su g q_su_order q_su_table su_count (p1 / r_1) (p2 / r_1), aI cy q_su_order 16 su_order, aT cy q_su_table su_tr, oX1 g g_rows g_columns g_a g_b g_cells g_right g_down] ++ suR cy su_tr su_table) H := hP
    have hD : va_D A ([oX6 su g q_su_order q_su_table su_count (p1 / r_1) (p2 / r_1), aI cy q_su_order 16 su_order, aT cy q_su_table su_tr, oX1 g g_rows g_columns g_a g_b g_cells g_right g_down] ++ suR cy su_tr su_table) := hD
    cases qob_ret hf
    exact ct_vret X hQ hK hP hD hS dX6_setFraction_30
theorem inwX6_meanSteps_X6 : ∀ w ∈ wsX60, w ∈ wsX6_meanSteps := fun _ h => List.mem_cons_of_mem _ (List.mem_append_left _ (List.mem_append_right _ h))
abbrev rmX6_meanSteps : Room := { frames := 3, cells := 0, slots := 0, locals := 67 }
theorem hdX6_meanSteps : yX6_meanSteps.cls = RX6 ∧ yX6_meanSteps.cls ≠ "java/lang/invoke/MethodHandle" ∧ yX6_meanSteps.cls ≠ "java/lang/invoke/VarHandle" ∧ (parseMethodDescriptor yX6_meanSteps.desc).map (fun d => d.parameters.length) = some 3 := by decide +kernel
set_option maxHeartbeats 4000000 in
set_option maxRecDepth 100000 in
theorem KX6_meanSteps {l : Launch} {D : va_G} {cy : Nat → ClassId} {su g q_su_order q_su_table : Nat} {su_tr : Nat → Nat} {su_count : Int32} {su_above : Int64} {su_below : Int64} {su_order : Nat → Int32} {g_rows : Int32} {g_columns : Int32} {g_a : Int32} {g_b : Int32} {g_cells : Int64} {g_right : Int64} {g_down : Int64} {su_table : Nat → Nat → Int64} {p1 : Int64} {p2 : Int32} {p3 : Int32} {su_count' : Int32} {su_above' : Int64} {su_below' : Int64} {su_order' : Nat → Int32} {su_table' : Nat → Nat → Int64} (hf : fX6_meanSteps su_count su_above su_below su_order g_right g_down su_table p1 p2 p3 = some (su_count', su_above', su_below', su_order', su_table')) : CtV l yX6_meanSteps wsX6_meanSteps rmX6_meanSteps D cy [.ref su, .long p1, .int p2, .int p3] ([oX6 su g q_su_order q_su_table su_count su_above su_below, aI cy q_su_order 16 su_order, aT cy q_su_table su_tr, oX1 g g_rows g_columns g_a g_b g_cells g_right g_down] ++ suR cy su_tr su_table) ([oX6 su g q_su_order q_su_table su_count' su_above' su_below', aI cy q_su_order 16 su_order', aT cy q_su_table su_tr, oX1 g g_rows g_columns g_a g_b g_cells g_right g_down] ++ suR cy su_tr su_table') := by
  refine CtV.of (cc := cX6_meanSteps) (maxL := 5) (ret := none) (own := RX6) (by decide) rfl rfl (Nat.le_of_ble_eq_true rfl) ?_
  intro p e s m args below meth c A Q X hQ hK hP hD hS ls hl
  obtain ⟨hx, hb, hml, hown, hts, hr, hlocks, hA, hZ⟩ := id X
  have hl : lv_has ls 5 [(0, .ref su), (1, .long p1), (3, .int p2), (4, .int p3)] := hl
  unfold fX6_meanSteps at hf
  have hf := qob_top hf
  refine lv_aload_n hx hb dX6_meanSteps_0 rfl (lv_at hl 0 rfl) ?_
  refine lv_lconst (v := 0) hx hb dX6_meanSteps_1 (by decide) ?_
  refine va_put (D := D) (ci := 6) (v := .long 0) (ty := .long) (C := RX6) (T := TX6) (N := 6) hx hb hts inwX6_meanSteps_X6 tyX6 tyX6_ok nmX6 hown hK hP hD hS 0 rfl rfl 4 (by decide) (hts (.fieldLink RX6 24 "HedgeWays$Sums" "above" "J") (List.mem_of_getElem? (i := 1) rfl)) (fun _ h9 => h9) rfl (tyX6_ok 4 (by decide)) rfl rfl (Nat.le_of_ble_eq_true rfl) dX6_meanSteps_2 (fun H locs hP hD hS => ?_)
  have hP : va_P D vwCl ([oX6 su g q_su_order q_su_table su_count 0 su_below, aI cy q_su_order 16 su_order, aT cy q_su_table su_tr, oX1 g g_rows g_columns g_a g_b g_cells g_right g_down] ++ suR cy su_tr su_table) H := hP
  have hD : va_D A ([oX6 su g q_su_order q_su_table su_count 0 su_below, aI cy q_su_order 16 su_order, aT cy q_su_table su_tr, oX1 g g_rows g_columns g_a g_b g_cells g_right g_down] ++ suR cy su_tr su_table) := hD
  refine lv_aload_n hx hb dX6_meanSteps_5 rfl (lv_at hl 0 rfl) ?_
  refine lv_lconst (v := 1) hx hb dX6_meanSteps_6 (by decide) ?_
  refine va_put (D := D) (ci := 6) (v := .long 1) (ty := .long) (C := RX6) (T := TX6) (N := 6) hx hb hts inwX6_meanSteps_X6 tyX6 tyX6_ok nmX6 hown hK hP hD hS 0 rfl rfl 5 (by decide) (hts (.fieldLink RX6 28 "HedgeWays$Sums" "below" "J") (List.mem_of_getElem? (i := 2) rfl)) (fun _ h9 => h9) rfl (tyX6_ok 5 (by decide)) rfl rfl (Nat.le_of_ble_eq_true rfl) dX6_meanSteps_7 (fun H locs hP hD hS => ?_)
  have hP : va_P D vwCl ([oX6 su g q_su_order q_su_table su_count 0 1, aI cy q_su_order 16 su_order, aT cy q_su_table su_tr, oX1 g g_rows g_columns g_a g_b g_cells g_right g_down] ++ suR cy su_tr su_table) H := hP
  have hD : va_D A ([oX6 su g q_su_order q_su_table su_count 0 1, aI cy q_su_order 16 su_order, aT cy q_su_table su_tr, oX1 g g_rows g_columns g_a g_b g_cells g_right g_down] ++ suR cy su_tr su_table) := hD
  refine lv_iload_n hx hb dX6_meanSteps_10 rfl (lv_at hl 2 rfl) ?_
  refine lv_iload hx hb dX6_meanSteps_11 (lv_at hl 3 rfl) ?_
  refine lv_icmp_ne (tgt := 17) hx hb dX6_meanSteps_13 (by decide) (fun c1 => ?_) (fun c1 => ?_)
  · have hf := qob_f hf c1
    refine lv_aload_n hx hb dX6_meanSteps_17 rfl (lv_at hl 0 rfl) ?_
    refine lv_lload_n hx hb dX6_meanSteps_18 rfl (lv_at hl 1 rfl) ?_
    refine lv_iload_n hx hb dX6_meanSteps_19 rfl (lv_at hl 2 rfl) ?_
    refine ctS_l0 (r := (fX1_bit p2)) (wc := []) (As := [.int p2]) (rest := [.long p1, .ref su]) X hK hP hD hS [] rfl rfl rfl (KX1_bit rfl _) (va_cwS 1 hts gX6_meanSteps_X1_bit rfl rfl rfl hdX1_bit ⟨Nat.le_of_ble_eq_true rfl, Nat.le_of_ble_eq_true rfl⟩) rfl hl rfl (Nat.le_of_ble_eq_true rfl) dX6_meanSteps_20 (Nat.zero_le _) (Nat.zero_le _) (fun H locs hP hS => ?_)
    refine lv_ldc2 hx hb hown (hts (.constantLong RX6 37 (-1)) (List.mem_of_getElem? (i := 3) rfl)) dX6_meanSteps_23 ?_
    refine lv_lxor hx hb dX6_meanSteps_26 ?_
    refine lv_land hx hb dX6_meanSteps_27 ?_
    refine lv_iload hx hb dX6_meanSteps_28 (lv_at hl 3 rfl) ?_
    refine ctS_l0 (r := (fX1_bit p3)) (wc := []) (As := [.int p3]) (rest := [.long (p1 &&& ((fX1_bit p2) ^^^ (-1))), .ref su]) X hK hP hD hS [] rfl rfl rfl (KX1_bit rfl _) (va_cwS 1 hts gX6_meanSteps_X1_bit rfl rfl rfl hdX1_bit ⟨Nat.le_of_ble_eq_true rfl, Nat.le_of_ble_eq_true rfl⟩) rfl hl rfl (Nat.le_of_ble_eq_true rfl) dX6_meanSteps_30 (Nat.zero_le _) (Nat.zero_le _) (fun H locs hP hS => ?_)
    refine lv_ldc2 hx hb hown (hts (.constantLong RX6 37 (-1)) (List.mem_of_getElem? (i := 3) rfl)) dX6_meanSteps_33 ?_
    refine lv_lxor hx hb dX6_meanSteps_36 ?_
    refine lv_land hx hb dX6_meanSteps_37 ?_
    obtain ⟨su_count_1, su_order_1, q2, hf⟩ := qcall2 hf
    refine ctV_v (wc := [oX6 su g q_su_order q_su_table su_count 0 1, aI cy q_su_order 16 su_order, aT cy q_su_table su_tr, oX1 g g_rows g_columns g_a g_b g_cells g_right g_down] ++ suR cy su_tr su_table) (w1 := [oX6 su g q_su_order q_su_table su_count_1 0 1, aI cy q_su_order 16 su_order_1, aT cy q_su_table su_tr, oX1 g g_rows g_columns g_a g_b g_cells g_right g_down] ++ suR cy su_tr su_table) (wr := []) (wn := [oX6 su g q_su_order q_su_table su_count_1 0 1, aI cy q_su_order 16 su_order_1, aT cy q_su_table su_tr, oX1 g g_rows g_columns g_a g_b g_cells g_right g_down] ++ suR cy su_tr su_table) (As := [.long ((p1 &&& ((fX1_bit p2) ^^^ (-1))) &&& ((fX1_bit p3) ^^^ (-1)))]) (rest := []) (q0 := 0) X hK hP hD hS [0, 1, 2, 3, 4, 5, 6, 7, 8, 9, 10, 11, 12, 13, 14, 15, 16, 17, 18, 19] [] [0, 1, 2, 3, 4, 5, 6, 7, 8, 9, 10, 11, 12, 13, 14, 15, 16, 17, 18, 19] rfl rfl rfl rfl rfl (by decide) rfl rfl rfl (KX6_list q2 _) (cwV 1 hts gX6_meanSteps_X6_list rfl rfl rfl hdX6_list ⟨Nat.le_of_ble_eq_true rfl, Nat.le_of_ble_eq_true rfl⟩) rfl rfl rfl hl rfl (Nat.le_of_ble_eq_true rfl) dX6_meanSteps_38 (Nat.zero_le _) (Nat.zero_le _) (fun H locs hP hD hS => ?_)
    refine lv_aload_n hx hb dX6_meanSteps_41 rfl (lv_at hl 0 rfl) ?_
    refine lv_iload_n hx hb dX6_meanSteps_42 rfl (lv_at hl 2 rfl) ?_
    obtain ⟨su_count_2, su_order_2, q3, hf⟩ := qcall2 hf
    refine ctV_v (wc := [oX6 su g q_su_order q_su_table su_count_1 0 1, aI cy q_su_order 16 su_order_1, aT cy q_su_table su_tr, oX1 g g_rows g_columns g_a g_b g_cells g_right g_down] ++ suR cy su_tr su_table) (w1 := [oX6 su g q_su_order q_su_table su_count_2 0 1, aI cy q_su_order 16 su_order_2, aT cy q_su_table su_tr, oX1 g g_rows g_columns g_a g_b g_cells g_right g_down] ++ suR cy su_tr su_table) (wr := []) (wn := [oX6 su g q_su_order q_su_table su_count_2 0 1, aI cy q_su_order 16 su_order_2, aT cy q_su_table su_tr, oX1 g g_rows g_columns g_a g_b g_cells g_right g_down] ++ suR cy su_tr su_table) (As := [.int p2]) (rest := []) (q0 := 0) X hK hP hD hS [0, 1, 2, 3, 4, 5, 6, 7, 8, 9, 10, 11, 12, 13, 14, 15, 16, 17, 18, 19] [] [0, 1, 2, 3, 4, 5, 6, 7, 8, 9, 10, 11, 12, 13, 14, 15, 16, 17, 18, 19] rfl rfl rfl rfl rfl (by decide) rfl rfl rfl (KX6_add q3 _) (cwV 1 hts gX6_meanSteps_X6_add rfl rfl rfl hdX6_add ⟨Nat.le_of_ble_eq_true rfl, Nat.le_of_ble_eq_true rfl⟩) rfl rfl rfl hl rfl (Nat.le_of_ble_eq_true rfl) dX6_meanSteps_43 (Nat.zero_le _) (Nat.zero_le _) (fun H locs hP hD hS => ?_)
    refine lv_aload_n hx hb dX6_meanSteps_46 rfl (lv_at hl 0 rfl) ?_
    obtain ⟨su_table_1, q4, hf⟩ := qcall1 hf
    refine ctV_v (wc := [oX6 su g q_su_order q_su_table su_count_2 0 1, aI cy q_su_order 16 su_order_2, aT cy q_su_table su_tr, oX1 g g_rows g_columns g_a g_b g_cells g_right g_down] ++ suR cy su_tr su_table) (w1 := [oX6 su g q_su_order q_su_table su_count_2 0 1, aI cy q_su_order 16 su_order_2, aT cy q_su_table su_tr, oX1 g g_rows g_columns g_a g_b g_cells g_right g_down] ++ suR cy su_tr su_table_1) (wr := []) (wn := [oX6 su g q_su_order q_su_table su_count_2 0 1, aI cy q_su_order 16 su_order_2, aT cy q_su_table su_tr, oX1 g g_rows g_columns g_a g_b g_cells g_right g_down] ++ suR cy su_tr su_table_1) (As := []) (rest := []) (q0 := 0) X hK hP hD hS [0, 1, 2, 3, 4, 5, 6, 7, 8, 9, 10, 11, 12, 13, 14, 15, 16, 17, 18, 19] [] [0, 1, 2, 3, 4, 5, 6, 7, 8, 9, 10, 11, 12, 13, 14, 15, 16, 17, 18, 19] rfl rfl rfl rfl rfl (by decide) rfl rfl rfl (KX6_fillTable q4 _) (cwV 0 hts gX6_meanSteps_X6_fillTable rfl rfl rfl hdX6_fillTable ⟨Nat.le_of_ble_eq_true rfl, Nat.le_of_ble_eq_true rfl⟩) rfl rfl rfl hl rfl (Nat.le_of_ble_eq_true rfl) dX6_meanSteps_47 (Nat.zero_le _) (Nat.zero_le _) (fun H locs hP hD hS => ?_)
    refine lv_aload_n hx hb dX6_meanSteps_50 rfl (lv_at hl 0 rfl) ?_
    obtain ⟨su_table_2, q5, hf⟩ := qcall1 hf
    refine ctV_v (wc := [oX6 su g q_su_order q_su_table su_count_2 0 1, aI cy q_su_order 16 su_order_2, aT cy q_su_table su_tr, oX1 g g_rows g_columns g_a g_b g_cells g_right g_down] ++ suR cy su_tr su_table_1) (w1 := [oX6 su g q_su_order q_su_table su_count_2 0 1, aI cy q_su_order 16 su_order_2, aT cy q_su_table su_tr, oX1 g g_rows g_columns g_a g_b g_cells g_right g_down] ++ suR cy su_tr su_table_2) (wr := []) (wn := [oX6 su g q_su_order q_su_table su_count_2 0 1, aI cy q_su_order 16 su_order_2, aT cy q_su_table su_tr, oX1 g g_rows g_columns g_a g_b g_cells g_right g_down] ++ suR cy su_tr su_table_2) (As := []) (rest := []) (q0 := 0) X hK hP hD hS [0, 1, 2, 3, 4, 5, 6, 7, 8, 9, 10, 11, 12, 13, 14, 15, 16, 17, 18, 19] [] [0, 1, 2, 3, 4, 5, 6, 7, 8, 9, 10, 11, 12, 13, 14, 15, 16, 17, 18, 19] rfl rfl rfl rfl rfl (by decide) rfl rfl rfl (KX6_eliminate q5 _) (cwV 0 hts gX6_meanSteps_X6_eliminate rfl rfl rfl hdX6_eliminate ⟨Nat.le_of_ble_eq_true rfl, Nat.le_of_ble_eq_true rfl⟩) rfl rfl rfl hl rfl (Nat.le_of_ble_eq_true rfl) dX6_meanSteps_51 (Nat.zero_le _) (Nat.zero_le _) (fun H locs hP hD hS => ?_)
    refine lv_aload_n hx hb dX6_meanSteps_54 rfl (lv_at hl 0 rfl) ?_
    refine va_get (D := D) (ci := 6) (v := .int su_count_2) (C := RX6) (T := TX6) (N := 6) hx hb hts inwX6_meanSteps_X6 hown hK hP 0 rfl rfl 3 (by decide) (hts (.fieldLink RX6 53 "HedgeWays$Sums" "count" "I") (List.mem_of_getElem? (i := 4) rfl)) (fun _ h9 => h9) rfl dX6_meanSteps_55 ?_
    refine lv_iconst (v := 1) hx hb dX6_meanSteps_58 (by decide) ?_
    refine lv_icmp_lt (tgt := 109) hx hb dX6_meanSteps_59 (by decide) (fun c6 => ?_) (fun c6 => ?_)
    · have hf := qob_t hf c6
      cases qob_ret hf
      exact ct_vret X hQ hK hP hD hS dX6_meanSteps_109
    · have hf := qob_f hf c6
      refine lv_aload_n hx hb dX6_meanSteps_62 rfl (lv_at hl 0 rfl) ?_
      refine va_get (D := D) (ci := 6) (v := .int su_count_2) (C := RX6) (T := TX6) (N := 6) hx hb hts inwX6_meanSteps_X6 hown hK hP 0 rfl rfl 3 (by decide) (hts (.fieldLink RX6 53 "HedgeWays$Sums" "count" "I") (List.mem_of_getElem? (i := 4) rfl)) (fun _ h9 => h9) rfl dX6_meanSteps_63 ?_
      refine lv_bipush (v := 16) hx hb dX6_meanSteps_66 (by decide) ?_
      refine lv_icmp_gt (tgt := 109) hx hb dX6_meanSteps_68 (by decide) (fun c7 => ?_) (fun c7 => ?_)
      · have hf := qob_t hf c7
        cases qob_ret hf
        exact ct_vret X hQ hK hP hD hS dX6_meanSteps_109
      · have hf := qob_f hf c7
        refine lv_aload_n hx hb dX6_meanSteps_71 rfl (lv_at hl 0 rfl) ?_
        refine lv_aload_n hx hb dX6_meanSteps_72 rfl (lv_at hl 0 rfl) ?_
        refine va_get (D := D) (ci := 6) (v := .ref q_su_table) (C := RX6) (T := TX6) (N := 6) hx hb hts inwX6_meanSteps_X6 hown hK hP 0 rfl rfl 2 (by decide) (hts (.fieldLink RX6 21 "HedgeWays$Sums" "table" "[[J") (List.mem_of_getElem? (i := 5) rfl)) (fun _ h9 => h9) rfl dX6_meanSteps_73 ?_
        refine lv_aload_n hx hb dX6_meanSteps_76 rfl (lv_at hl 0 rfl) ?_
        refine va_get (D := D) (ci := 6) (v := .int su_count_2) (C := RX6) (T := TX6) (N := 6) hx hb hts inwX6_meanSteps_X6 hown hK hP 0 rfl rfl 3 (by decide) (hts (.fieldLink RX6 53 "HedgeWays$Sums" "count" "I") (List.mem_of_getElem? (i := 4) rfl)) (fun _ h9 => h9) rfl dX6_meanSteps_77 ?_
        refine lv_iconst (v := 1) hx hb dX6_meanSteps_80 (by decide) ?_
        refine lv_isub hx hb dX6_meanSteps_81 ?_
        obtain ⟨i8, hf⟩ := qob_gd hf
        refine tb_aald hx hb hK hP 2 rfl i8 dX6_meanSteps_82 ?_
        refine lv_aload_n hx hb dX6_meanSteps_83 rfl (lv_at hl 0 rfl) ?_
        refine va_get (D := D) (ci := 6) (v := .int su_count_2) (C := RX6) (T := TX6) (N := 6) hx hb hts inwX6_meanSteps_X6 hown hK hP 0 rfl rfl 3 (by decide) (hts (.fieldLink RX6 53 "HedgeWays$Sums" "count" "I") (List.mem_of_getElem? (i := 4) rfl)) (fun _ h9 => h9) rfl dX6_meanSteps_84 ?_
        obtain ⟨i9, hf⟩ := qob_gd hf
        refine tb_lald hx hb hK hP 4 i8 rfl i9 dX6_meanSteps_87 ?_
        refine lv_aload_n hx hb dX6_meanSteps_88 rfl (lv_at hl 0 rfl) ?_
        refine va_get (D := D) (ci := 6) (v := .ref q_su_table) (C := RX6) (T := TX6) (N := 6) hx hb hts inwX6_meanSteps_X6 hown hK hP 0 rfl rfl 2 (by decide) (hts (.fieldLink RX6 21 "HedgeWays$Sums" "table" "[[J") (List.mem_of_getElem? (i := 5) rfl)) (fun _ h9 => h9) rfl dX6_meanSteps_89 ?_
        refine lv_aload_n hx hb dX6_meanSteps_92 rfl (lv_at hl 0 rfl) ?_
        refine va_get (D := D) (ci := 6) (v := .int su_count_2) (C := RX6) (T := TX6) (N := 6) hx hb hts inwX6_meanSteps_X6 hown hK hP 0 rfl rfl 3 (by decide) (hts (.fieldLink RX6 53 "HedgeWays$Sums" "count" "I") (List.mem_of_getElem? (i := 4) rfl)) (fun _ h9 => h9) rfl dX6_meanSteps_93 ?_
        refine lv_iconst (v := 1) hx hb dX6_meanSteps_96 (by decide) ?_
        refine lv_isub hx hb dX6_meanSteps_97 ?_
        obtain ⟨i10, hf⟩ := qob_gd hf
        refine tb_aald hx hb hK hP 2 rfl i10 dX6_meanSteps_98 ?_
        refine lv_aload_n hx hb dX6_meanSteps_99 rfl (lv_at hl 0 rfl) ?_
        refine va_get (D := D) (ci := 6) (v := .int su_count_2) (C := RX6) (T := TX6) (N := 6) hx hb hts inwX6_meanSteps_X6 hown hK hP 0 rfl rfl 3 (by decide) (hts (.fieldLink RX6 53 "HedgeWays$Sums" "count" "I") (List.mem_of_getElem? (i := 4) rfl)) (fun _ h9 => h9) rfl dX6_meanSteps_100 ?_
        refine lv_iconst (v := 1) hx hb dX6_meanSteps_103 (by decide) ?_
        refine lv_isub hx hb dX6_meanSteps_104 ?_
        obtain ⟨i11, hf⟩ := qob_gd hf
        refine tb_lald hx hb hK hP 4 i10 rfl i11 dX6_meanSteps_105 ?_
        obtain ⟨su_above_1, su_below_1, q12, hf⟩ := qcall2 hf
        refine ctV_v (wc := [oX6 su g q_su_order q_su_table su_count_2 0 1, aI cy q_su_order 16 su_order_2, aT cy q_su_table su_tr, oX1 g g_rows g_columns g_a g_b g_cells g_right g_down] ++ suR cy su_tr su_table_2) (w1 := [oX6 su g q_su_order q_su_table su_count_2 su_above_1 su_below_1, aI cy q_su_order 16 su_order_2, aT cy q_su_table su_tr, oX1 g g_rows g_columns g_a g_b g_cells g_right g_down] ++ suR cy su_tr su_table_2) (wr := []) (wn := [oX6 su g q_su_order q_su_table su_count_2 su_above_1 su_below_1, aI cy q_su_order 16 su_order_2, aT cy q_su_table su_tr, oX1 g g_rows g_columns g_a g_b g_cells g_right g_down] ++ suR cy su_tr su_table_2) (As := [.long (su_table_2 ((su_count_2 - 1)).toNatClampNeg su_count_2.toNatClampNeg), .long (su_table_2 ((su_count_2 - 1)).toNatClampNeg ((su_count_2 - 1)).toNatClampNeg)]) (rest := []) (q0 := 0) X hK hP hD hS [0, 1, 2, 3, 4, 5, 6, 7, 8, 9, 10, 11, 12, 13, 14, 15, 16, 17, 18, 19] [] [0, 1, 2, 3, 4, 5, 6, 7, 8, 9, 10, 11, 12, 13, 14, 15, 16, 17, 18, 19] rfl rfl rfl rfl rfl (by decide) rfl rfl rfl (KX6_setFraction q12 _) (cwV 2 hts gX6_meanSteps_X6_setFraction rfl rfl rfl hdX6_setFraction ⟨Nat.le_of_ble_eq_true rfl, Nat.le_of_ble_eq_true rfl⟩) rfl rfl rfl hl rfl (Nat.le_of_ble_eq_true rfl) dX6_meanSteps_106 (Nat.zero_le _) (Nat.zero_le _) (fun H locs hP hD hS => ?_)
        cases qob_ret hf
        exact ct_vret X hQ hK hP hD hS dX6_meanSteps_109
  · have hf := qob_t hf c1
    cases qob_ret hf
    exact ct_vret X hQ hK hP hD hS dX6_meanSteps_16
theorem inwX6_treesOf_X6 : ∀ w ∈ wsX60, w ∈ wsX6_treesOf := fun _ h => List.mem_cons_of_mem _ (List.mem_append_left _ (List.mem_append_right _ h))
abbrev rmX6_treesOf : Room := { frames := 3, cells := 0, slots := 0, locals := 67 }
theorem hdX6_treesOf : yX6_treesOf.cls = RX6 ∧ yX6_treesOf.cls ≠ "java/lang/invoke/MethodHandle" ∧ yX6_treesOf.cls ≠ "java/lang/invoke/VarHandle" ∧ (parseMethodDescriptor yX6_treesOf.desc).map (fun d => d.parameters.length) = some 2 := by decide +kernel
set_option maxHeartbeats 4000000 in
set_option maxRecDepth 100000 in
theorem KX6_treesOf {l : Launch} {D : va_G} {cy : Nat → ClassId} {su g q_su_order q_su_table : Nat} {su_tr : Nat → Nat} {su_count : Int32} {su_above : Int64} {su_below : Int64} {su_order : Nat → Int32} {g_rows : Int32} {g_columns : Int32} {g_a : Int32} {g_b : Int32} {g_cells : Int64} {g_right : Int64} {g_down : Int64} {su_table : Nat → Nat → Int64} {p1 : Int64} {p2 : Int32} {r : Int64} {su_count' : Int32} {su_order' : Nat → Int32} {su_table' : Nat → Nat → Int64} (hf : fX6_treesOf su_count su_order g_right g_down su_table p1 p2 = some (r, su_count', su_order', su_table')) : CtL l yX6_treesOf wsX6_treesOf rmX6_treesOf D cy [.ref su, .long p1, .int p2] ([oX6 su g q_su_order q_su_table su_count su_above su_below, aI cy q_su_order 16 su_order, aT cy q_su_table su_tr, oX1 g g_rows g_columns g_a g_b g_cells g_right g_down] ++ suR cy su_tr su_table) ([oX6 su g q_su_order q_su_table su_count' su_above su_below, aI cy q_su_order 16 su_order', aT cy q_su_table su_tr, oX1 g g_rows g_columns g_a g_b g_cells g_right g_down] ++ suR cy su_tr su_table') r := by
  refine CtL.of (cc := cX6_treesOf) (maxL := 4) (ret := some .long) (own := RX6) (by decide) rfl rfl (Nat.le_of_ble_eq_true rfl) ?_
  intro p e s m args below meth c A Q X hQ hK hP hD hS ls hl
  obtain ⟨hx, hb, hml, hown, hts, hr, hlocks, hA, hZ⟩ := id X
  have hl : lv_has ls 4 [(0, .ref su), (1, .long p1), (3, .int p2)] := hl
  unfold fX6_treesOf at hf
  have hf := qob_top hf
  refine lv_aload_n hx hb dX6_treesOf_0 rfl (lv_at hl 0 rfl) ?_
  refine lv_lload_n hx hb dX6_treesOf_1 rfl (lv_at hl 1 rfl) ?_
  refine lv_iload_n hx hb dX6_treesOf_2 rfl (lv_at hl 2 rfl) ?_
  refine ctS_l0 (r := (fX1_bit p2)) (wc := []) (As := [.int p2]) (rest := [.long p1, .ref su]) X hK hP hD hS [] rfl rfl rfl (KX1_bit rfl _) (va_cwS 1 hts gX6_treesOf_X1_bit rfl rfl rfl hdX1_bit ⟨Nat.le_of_ble_eq_true rfl, Nat.le_of_ble_eq_true rfl⟩) rfl hl rfl (Nat.le_of_ble_eq_true rfl) dX6_treesOf_3 (Nat.zero_le _) (Nat.zero_le _) (fun H locs hP hS => ?_)
  refine lv_ldc2 hx hb hown (hts (.constantLong RX6 37 (-1)) (List.mem_of_getElem? (i := 1) rfl)) dX6_treesOf_6 ?_
  refine lv_lxor hx hb dX6_treesOf_9 ?_
  refine lv_land hx hb dX6_treesOf_10 ?_
  obtain ⟨su_count_1, su_order_1, q1, hf⟩ := qcall2 hf
  refine ctV_v (wc := [oX6 su g q_su_order q_su_table su_count su_above su_below, aI cy q_su_order 16 su_order, aT cy q_su_table su_tr, oX1 g g_rows g_columns g_a g_b g_cells g_right g_down] ++ suR cy su_tr su_table) (w1 := [oX6 su g q_su_order q_su_table su_count_1 su_above su_below, aI cy q_su_order 16 su_order_1, aT cy q_su_table su_tr, oX1 g g_rows g_columns g_a g_b g_cells g_right g_down] ++ suR cy su_tr su_table) (wr := []) (wn := [oX6 su g q_su_order q_su_table su_count_1 su_above su_below, aI cy q_su_order 16 su_order_1, aT cy q_su_table su_tr, oX1 g g_rows g_columns g_a g_b g_cells g_right g_down] ++ suR cy su_tr su_table) (As := [.long (p1 &&& ((fX1_bit p2) ^^^ (-1)))]) (rest := []) (q0 := 0) X hK hP hD hS [0, 1, 2, 3, 4, 5, 6, 7, 8, 9, 10, 11, 12, 13, 14, 15, 16, 17, 18, 19] [] [0, 1, 2, 3, 4, 5, 6, 7, 8, 9, 10, 11, 12, 13, 14, 15, 16, 17, 18, 19] rfl rfl rfl rfl rfl (by decide) rfl rfl rfl (KX6_list q1 _) (cwV 1 hts gX6_treesOf_X6_list rfl rfl rfl hdX6_list ⟨Nat.le_of_ble_eq_true rfl, Nat.le_of_ble_eq_true rfl⟩) rfl rfl rfl hl rfl (Nat.le_of_ble_eq_true rfl) dX6_treesOf_11 (Nat.zero_le _) (Nat.zero_le _) (fun H locs hP hD hS => ?_)
  refine lv_aload_n hx hb dX6_treesOf_14 rfl (lv_at hl 0 rfl) ?_
  obtain ⟨su_table_1, q2, hf⟩ := qcall1 hf
  refine ctV_v (wc := [oX6 su g q_su_order q_su_table su_count_1 su_above su_below, aI cy q_su_order 16 su_order_1, aT cy q_su_table su_tr, oX1 g g_rows g_columns g_a g_b g_cells g_right g_down] ++ suR cy su_tr su_table) (w1 := [oX6 su g q_su_order q_su_table su_count_1 su_above su_below, aI cy q_su_order 16 su_order_1, aT cy q_su_table su_tr, oX1 g g_rows g_columns g_a g_b g_cells g_right g_down] ++ suR cy su_tr su_table_1) (wr := []) (wn := [oX6 su g q_su_order q_su_table su_count_1 su_above su_below, aI cy q_su_order 16 su_order_1, aT cy q_su_table su_tr, oX1 g g_rows g_columns g_a g_b g_cells g_right g_down] ++ suR cy su_tr su_table_1) (As := []) (rest := []) (q0 := 0) X hK hP hD hS [0, 1, 2, 3, 4, 5, 6, 7, 8, 9, 10, 11, 12, 13, 14, 15, 16, 17, 18, 19] [] [0, 1, 2, 3, 4, 5, 6, 7, 8, 9, 10, 11, 12, 13, 14, 15, 16, 17, 18, 19] rfl rfl rfl rfl rfl (by decide) rfl rfl rfl (KX6_fillTable q2 _) (cwV 0 hts gX6_treesOf_X6_fillTable rfl rfl rfl hdX6_fillTable ⟨Nat.le_of_ble_eq_true rfl, Nat.le_of_ble_eq_true rfl⟩) rfl rfl rfl hl rfl (Nat.le_of_ble_eq_true rfl) dX6_treesOf_15 (Nat.zero_le _) (Nat.zero_le _) (fun H locs hP hD hS => ?_)
  refine lv_aload_n hx hb dX6_treesOf_18 rfl (lv_at hl 0 rfl) ?_
  obtain ⟨su_table_2, q3, hf⟩ := qcall1 hf
  refine ctV_v (wc := [oX6 su g q_su_order q_su_table su_count_1 su_above su_below, aI cy q_su_order 16 su_order_1, aT cy q_su_table su_tr, oX1 g g_rows g_columns g_a g_b g_cells g_right g_down] ++ suR cy su_tr su_table_1) (w1 := [oX6 su g q_su_order q_su_table su_count_1 su_above su_below, aI cy q_su_order 16 su_order_1, aT cy q_su_table su_tr, oX1 g g_rows g_columns g_a g_b g_cells g_right g_down] ++ suR cy su_tr su_table_2) (wr := []) (wn := [oX6 su g q_su_order q_su_table su_count_1 su_above su_below, aI cy q_su_order 16 su_order_1, aT cy q_su_table su_tr, oX1 g g_rows g_columns g_a g_b g_cells g_right g_down] ++ suR cy su_tr su_table_2) (As := []) (rest := []) (q0 := 0) X hK hP hD hS [0, 1, 2, 3, 4, 5, 6, 7, 8, 9, 10, 11, 12, 13, 14, 15, 16, 17, 18, 19] [] [0, 1, 2, 3, 4, 5, 6, 7, 8, 9, 10, 11, 12, 13, 14, 15, 16, 17, 18, 19] rfl rfl rfl rfl rfl (by decide) rfl rfl rfl (KX6_eliminate q3 _) (cwV 0 hts gX6_treesOf_X6_eliminate rfl rfl rfl hdX6_eliminate ⟨Nat.le_of_ble_eq_true rfl, Nat.le_of_ble_eq_true rfl⟩) rfl rfl rfl hl rfl (Nat.le_of_ble_eq_true rfl) dX6_treesOf_19 (Nat.zero_le _) (Nat.zero_le _) (fun H locs hP hD hS => ?_)
  refine lv_aload_n hx hb dX6_treesOf_22 rfl (lv_at hl 0 rfl) ?_
  refine va_get (D := D) (ci := 6) (v := .int su_count_1) (C := RX6) (T := TX6) (N := 6) hx hb hts inwX6_treesOf_X6 hown hK hP 0 rfl rfl 3 (by decide) (hts (.fieldLink RX6 53 "HedgeWays$Sums" "count" "I") (List.mem_of_getElem? (i := 2) rfl)) (fun _ h9 => h9) rfl dX6_treesOf_23 ?_
  refine lv_iconst (v := 1) hx hb dX6_treesOf_26 (by decide) ?_
  refine lv_icmp_lt (tgt := 39) hx hb dX6_treesOf_27 (by decide) (fun c4 => ?_) (fun c4 => ?_)
  · have hf := qob_t hf c4
    refine lv_lconst (v := 1) hx hb dX6_treesOf_39 (by decide) ?_
    refine lv_goto (tgt := 61) hx hb dX6_treesOf_40 (by decide) ?_
    cases qob_ret hf
    exact ct_lret X hQ hK hP hD hS rfl dX6_treesOf_61
  · have hf := qob_f hf c4
    refine lv_aload_n hx hb dX6_treesOf_30 rfl (lv_at hl 0 rfl) ?_
    refine va_get (D := D) (ci := 6) (v := .int su_count_1) (C := RX6) (T := TX6) (N := 6) hx hb hts inwX6_treesOf_X6 hown hK hP 0 rfl rfl 3 (by decide) (hts (.fieldLink RX6 53 "HedgeWays$Sums" "count" "I") (List.mem_of_getElem? (i := 2) rfl)) (fun _ h9 => h9) rfl dX6_treesOf_31 ?_
    refine lv_bipush (v := 16) hx hb dX6_treesOf_34 (by decide) ?_
    refine lv_icmp_le (tgt := 43) hx hb dX6_treesOf_36 (by decide) (fun c5 => ?_) (fun c5 => ?_)
    · have hf := qob_t hf c5
      refine lv_aload_n hx hb dX6_treesOf_43 rfl (lv_at hl 0 rfl) ?_
      refine va_get (D := D) (ci := 6) (v := .ref q_su_table) (C := RX6) (T := TX6) (N := 6) hx hb hts inwX6_treesOf_X6 hown hK hP 0 rfl rfl 2 (by decide) (hts (.fieldLink RX6 21 "HedgeWays$Sums" "table" "[[J") (List.mem_of_getElem? (i := 3) rfl)) (fun _ h9 => h9) rfl dX6_treesOf_44 ?_
      refine lv_aload_n hx hb dX6_treesOf_47 rfl (lv_at hl 0 rfl) ?_
      refine va_get (D := D) (ci := 6) (v := .int su_count_1) (C := RX6) (T := TX6) (N := 6) hx hb hts inwX6_treesOf_X6 hown hK hP 0 rfl rfl 3 (by decide) (hts (.fieldLink RX6 53 "HedgeWays$Sums" "count" "I") (List.mem_of_getElem? (i := 2) rfl)) (fun _ h9 => h9) rfl dX6_treesOf_48 ?_
      refine lv_iconst (v := 1) hx hb dX6_treesOf_51 (by decide) ?_
      refine lv_isub hx hb dX6_treesOf_52 ?_
      obtain ⟨i6, hf⟩ := qob_gd hf
      refine tb_aald hx hb hK hP 2 rfl i6 dX6_treesOf_53 ?_
      refine lv_aload_n hx hb dX6_treesOf_54 rfl (lv_at hl 0 rfl) ?_
      refine va_get (D := D) (ci := 6) (v := .int su_count_1) (C := RX6) (T := TX6) (N := 6) hx hb hts inwX6_treesOf_X6 hown hK hP 0 rfl rfl 3 (by decide) (hts (.fieldLink RX6 53 "HedgeWays$Sums" "count" "I") (List.mem_of_getElem? (i := 2) rfl)) (fun _ h9 => h9) rfl dX6_treesOf_55 ?_
      refine lv_iconst (v := 1) hx hb dX6_treesOf_58 (by decide) ?_
      refine lv_isub hx hb dX6_treesOf_59 ?_
      obtain ⟨i7, hf⟩ := qob_gd hf
      refine tb_lald hx hb hK hP 4 i6 rfl i7 dX6_treesOf_60 ?_
      cases qob_ret hf
      exact ct_lret X hQ hK hP hD hS rfl dX6_treesOf_61
    · have hf := qob_f hf c5
      refine lv_lconst (v := 1) hx hb dX6_treesOf_39 (by decide) ?_
      refine lv_goto (tgt := 61) hx hb dX6_treesOf_40 (by decide) ?_
      cases qob_ret hf
      exact ct_lret X hQ hK hP hD hS rfl dX6_treesOf_61
theorem inwX7_parts_X1 : ∀ w ∈ wsX10, w ∈ wsX7_parts := fun _ h => List.mem_cons_of_mem _ (List.mem_append_right _ h)
theorem inwX7_parts_X7 : ∀ w ∈ wsX70, w ∈ wsX7_parts := fun _ h => List.mem_cons_of_mem _ (List.mem_append_left _ (List.mem_append_right _ h))
abbrev rmX7_parts : Room := { frames := 3, cells := 0, slots := 0, locals := 72 }
theorem hdX7_parts : yX7_parts.cls = RX7 ∧ yX7_parts.cls ≠ "java/lang/invoke/MethodHandle" ∧ yX7_parts.cls ≠ "java/lang/invoke/VarHandle" ∧ (parseMethodDescriptor yX7_parts.desc).map (fun d => d.parameters.length) = some 0 := by decide +kernel
set_option maxHeartbeats 4000000 in
set_option maxRecDepth 100000 in
theorem KX7_parts {l : Launch} {D : va_G} {cy : Nat → ClassId} {sv g : Nat} {g_rows : Int32} {g_columns : Int32} {g_a : Int32} {g_b : Int32} {g_cells : Int64} {g_right : Int64} {g_down : Int64}  {r : Int32} (hf : fX7_parts g_cells g_right g_down = some r) : CtI l yX7_parts wsX7_parts rmX7_parts D cy [.ref sv] ([oX7 sv g, oX1 g g_rows g_columns g_a g_b g_cells g_right g_down]) ([oX7 sv g, oX1 g g_rows g_columns g_a g_b g_cells g_right g_down]) r := by
  refine CtI.of (cc := cX7_parts) (maxL := 5) (ret := some .int) (own := RX7) (by decide) rfl rfl (Nat.le_of_ble_eq_true rfl) ?_
  intro p e s m args below meth c A Q X hQ hK hP hD hS ls hl
  obtain ⟨hx, hb, hml, hown, hts, hr, hlocks, hA, hZ⟩ := id X
  have hl : lv_has ls 5 [(0, .ref sv)] := hl
  unfold fX7_parts at hf
  have hf := qob_top hf
  refine lv_iconst (v := 0) hx hb dX7_parts_0 (by decide) ?_
  refine lv_istore_n (lv' := [(1, .int 0), (0, .ref sv)]) hx hb dX7_parts_1 rfl hl (by decide) rfl (fun ls hl => ?_)
  refine lv_aload_n hx hb dX7_parts_2 rfl (lv_at hl 1 rfl) ?_
  refine va_get (D := D) (ci := 7) (v := .ref g) (C := RX7) (T := TX7) (N := 1) hx hb hts inwX7_parts_X7 hown hK hP 0 rfl rfl 0 (by decide) (hts (.fieldLink RX7 9 "HedgeWays$Survey" "grid" "LHedgeWays$Grid;") (List.mem_of_getElem? (i := 1) rfl)) (fun _ h9 => h9) rfl dX7_parts_3 ?_
  refine va_get (D := D) (ci := 1) (v := .long g_cells) (C := RX1) (T := TX1) (N := 7) hx hb hts inwX7_parts_X1 hown hK hP 1 rfl rfl 4 (by decide) (hts (.fieldLink RX7 15 "HedgeWays$Grid" "cells" "J") (List.mem_of_getElem? (i := 2) rfl)) (fun _ h9 => h9) rfl dX7_parts_6 ?_
  refine lv_lstore_n (lv' := [(2, .long g_cells), (1, .int 0), (0, .ref sv)]) hx hb dX7_parts_9 rfl hl (by decide) rfl (fun ls hl => ?_)
  refine lv_iconst (v := 0) hx hb dX7_parts_10 (by decide) ?_
  refine lv_istore (lv' := [(4, .int 0), (2, .long g_cells), (1, .int 0), (0, .ref sv)]) hx hb dX7_parts_11 hl (by decide) rfl (fun ls hl => ?_)
  refine qjoin1 hf (fun (x1_1 : Int32) => ∀ (H : Heap) (locs : List Loc) (ls : Array Slot), ctW D A s ([oX7 sv g, oX1 g g_rows g_columns g_a g_b g_cells g_right g_down]) H locs → lv_has ls 5 [(1, .int x1_1)] → W p l e rmX7_parts s m args below meth c H locs 0 0 Q (F0 m 53 ls [])) ?_ ?_
  · intro x1_1 hf H locs ls ⟨hP, hD, hS⟩ hl
    refine lv_iload_n hx hb dX7_parts_53 rfl (lv_at hl 0 rfl) ?_
    cases qob_ret hf
    exact ct_iret X hQ hK hP hD hS rfl dX7_parts_54
  · intro J1 hJ1 hf
    refine qwalk3 (fun (x1_2 : Int32) (x2_1 : Int64) (x4_1 : Int32) => ∀ (H : Heap) (locs : List Loc) (ls : Array Slot), ctW D A s ([oX7 sv g, oX1 g g_rows g_columns g_a g_b g_cells g_right g_down]) H locs → lv_has ls 5 [(0, .ref sv), (1, .int x1_2), (2, .long x2_1), (4, .int x4_1)] → W p l e rmX7_parts s m args below meth c H locs 0 0 Q (F0 m 13 ls [])) ?_ _ (0 : Int32) g_cells (0 : Int32) hf _ _ _ ⟨hP, hD, hS⟩ (lv_sub hl [3, 2, 1, 0] rfl)
    intro J2 hL2 x1_2 x2_1 x4_1 hf H locs ls ⟨hP, hD, hS⟩ hl
    refine lv_iload hx hb dX7_parts_13 (lv_at hl 3 rfl) ?_
    refine lv_bipush (v := 36) hx hb dX7_parts_15 (by decide) ?_
    refine lv_icmp_ge (tgt := 53) hx hb dX7_parts_17 (by decide) (fun c3 => ?_) (fun c3 => ?_)
    · have hf := qob_t hf c3
      have hf := qob_esc hf
      exact hJ1 x1_2 hf _ _ _ ⟨hP, hD, hS⟩ (lv_sub hl [1] rfl)
    · have hf := qob_f hf c3
      refine lv_lload_n hx hb dX7_parts_20 rfl (lv_at hl 2 rfl) ?_
      refine lv_lconst (v := 0) hx hb dX7_parts_21 (by decide) ?_
      refine W.lcmp hx hb dX7_parts_22 ?_
      refine lv_if_eq (tgt := 53) hx hb dX7_parts_23 (by decide) (fun c4 => ?_) (fun c4 => ?_)
      · have hf := qob_t hf c4
        have hf := qob_esc hf
        exact hJ1 x1_2 hf _ _ _ ⟨hP, hD, hS⟩ (lv_sub hl [1] rfl)
      · have hf := qob_f hf c4
        refine lv_lload_n hx hb dX7_parts_26 rfl (lv_at hl 2 rfl) ?_
        refine lv_aload_n hx hb dX7_parts_27 rfl (lv_at hl 0 rfl) ?_
        refine va_get (D := D) (ci := 7) (v := .ref g) (C := RX7) (T := TX7) (N := 1) hx hb hts inwX7_parts_X7 hown hK hP 0 rfl rfl 0 (by decide) (hts (.fieldLink RX7 9 "HedgeWays$Survey" "grid" "LHedgeWays$Grid;") (List.mem_of_getElem? (i := 1) rfl)) (fun _ h9 => h9) rfl dX7_parts_28 ?_
        refine lv_lload_n hx hb dX7_parts_31 rfl (lv_at hl 2 rfl) ?_
        refine ctS_i0 (r := (fX1_least x2_1)) (wc := []) (As := [.long x2_1]) (rest := [.ref g, .long x2_1]) X hK hP hD hS [] rfl rfl rfl (KX1_least rfl _) (va_cwS 1 hts gX7_parts_X1_least rfl rfl rfl hdX1_least ⟨Nat.le_of_ble_eq_true rfl, Nat.le_of_ble_eq_true rfl⟩) rfl hl rfl (Nat.le_of_ble_eq_true rfl) dX7_parts_32 (Nat.zero_le _) (Nat.zero_le _) (fun H locs hP hS => ?_)
        obtain ⟨r_1, q5, hf⟩ := qcall1 hf
        refine ctV_l0 (r := r_1) (wc := [oX1 g g_rows g_columns g_a g_b g_cells g_right g_down]) (As := [.int (fX1_least x2_1)]) (rest := [.long x2_1]) (q0 := 1) X hK hP hD hS [1] rfl rfl rfl (KX1_partOf q5 _) (cwV 1 hts gX7_parts_X1_partOf rfl rfl rfl hdX1_partOf ⟨Nat.le_of_ble_eq_true rfl, Nat.le_of_ble_eq_true rfl⟩) rfl rfl rfl hl rfl (Nat.le_of_ble_eq_true rfl) dX7_parts_35 (Nat.zero_le _) (Nat.zero_le _) (fun H locs hP hS => ?_)
        refine lv_ldc2 hx hb hown (hts (.constantLong RX7 29 (-1)) (List.mem_of_getElem? (i := 3) rfl)) dX7_parts_38 ?_
        refine lv_lxor hx hb dX7_parts_41 ?_
        refine lv_land hx hb dX7_parts_42 ?_
        refine lv_lstore_n (lv' := [(2, .long (x2_1 &&& (r_1 ^^^ (-1)))), (0, .ref sv), (1, .int x1_2), (4, .int x4_1)]) hx hb dX7_parts_43 rfl hl (by decide) rfl (fun ls hl => ?_)
        refine lv_iinc (v := (x1_2 + 1)) (lv' := [(1, .int (x1_2 + 1)), (2, .long (x2_1 &&& (r_1 ^^^ (-1)))), (0, .ref sv), (4, .int x4_1)]) hx hb dX7_parts_44 hl (k := 2) rfl rfl (by decide) rfl (fun ls hl => ?_)
        refine lv_iinc (v := (x4_1 + 1)) (lv' := [(4, .int (x4_1 + 1)), (1, .int (x1_2 + 1)), (2, .long (x2_1 &&& (r_1 ^^^ (-1)))), (0, .ref sv)]) hx hb dX7_parts_47 hl (k := 3) rfl rfl (by decide) rfl (fun ls hl => ?_)
        refine lv_goto (tgt := 13) hx hb dX7_parts_50 (by decide) ?_
        exact hL2 (x1_2 + 1) (x2_1 &&& (r_1 ^^^ (-1))) (x4_1 + 1) hf _ _ _ ⟨hP, hD, hS⟩ (lv_sub hl [3, 1, 2, 0] rfl)
theorem inwX7_cellsWithNeighbours_X1 : ∀ w ∈ wsX10, w ∈ wsX7_cellsWithNeighbours := fun _ h => List.mem_cons_of_mem _ (List.mem_append_right _ h)
theorem inwX7_cellsWithNeighbours_X7 : ∀ w ∈ wsX70, w ∈ wsX7_cellsWithNeighbours := fun _ h => List.mem_cons_of_mem _ (List.mem_append_left _ (List.mem_append_right _ h))
abbrev rmX7_cellsWithNeighbours : Room := { frames := 2, cells := 0, slots := 0, locals := 43 }
theorem hdX7_cellsWithNeighbours : yX7_cellsWithNeighbours.cls = RX7 ∧ yX7_cellsWithNeighbours.cls ≠ "java/lang/invoke/MethodHandle" ∧ yX7_cellsWithNeighbours.cls ≠ "java/lang/invoke/VarHandle" ∧ (parseMethodDescriptor yX7_cellsWithNeighbours.desc).map (fun d => d.parameters.length) = some 2 := by decide +kernel
set_option maxHeartbeats 4000000 in
set_option maxRecDepth 100000 in
theorem KX7_cellsWithNeighbours {l : Launch} {D : va_G} {cy : Nat → ClassId} {sv g : Nat} {g_rows : Int32} {g_columns : Int32} {g_a : Int32} {g_b : Int32} {g_cells : Int64} {g_right : Int64} {g_down : Int64} {p1 : Int32} {p2 : Int32} {r : Int32} (hf : fX7_cellsWithNeighbours g_cells g_right g_down p1 p2 = some r) : CtI l yX7_cellsWithNeighbours wsX7_cellsWithNeighbours rmX7_cellsWithNeighbours D cy [.ref sv, .int p1, .int p2] ([oX7 sv g, oX1 g g_rows g_columns g_a g_b g_cells g_right g_down]) ([oX7 sv g, oX1 g g_rows g_columns g_a g_b g_cells g_right g_down]) r := by
  refine CtI.of (cc := cX7_cellsWithNeighbours) (maxL := 6) (ret := some .int) (own := RX7) (by decide) rfl rfl (Nat.le_of_ble_eq_true rfl) ?_
  intro p e s m args below meth c A Q X hQ hK hP hD hS ls hl
  obtain ⟨hx, hb, hml, hown, hts, hr, hlocks, hA, hZ⟩ := id X
  have hl : lv_has ls 6 [(0, .ref sv), (1, .int p1), (2, .int p2)] := hl
  unfold fX7_cellsWithNeighbours at hf
  have hf := qob_top hf
  refine lv_iconst (v := 0) hx hb dX7_cellsWithNeighbours_0 (by decide) ?_
  refine lv_istore_n (lv' := [(3, .int 0), (0, .ref sv), (1, .int p1), (2, .int p2)]) hx hb dX7_cellsWithNeighbours_1 rfl hl (by decide) rfl (fun ls hl => ?_)
  refine lv_iconst (v := 0) hx hb dX7_cellsWithNeighbours_2 (by decide) ?_
  refine lv_istore (lv' := [(4, .int 0), (3, .int 0), (0, .ref sv), (1, .int p1), (2, .int p2)]) hx hb dX7_cellsWithNeighbours_3 hl (by decide) rfl (fun ls hl => ?_)
  refine qjoin1 hf (fun (x3_1 : Int32) => ∀ (H : Heap) (locs : List Loc) (ls : Array Slot), ctW D A s ([oX7 sv g, oX1 g g_rows g_columns g_a g_b g_cells g_right g_down]) H locs → lv_has ls 6 [(3, .int x3_1)] → W p l e rmX7_cellsWithNeighbours s m args below meth c H locs 0 0 Q (F0 m 59 ls [])) ?_ ?_
  · intro x3_1 hf H locs ls ⟨hP, hD, hS⟩ hl
    refine lv_iload_n hx hb dX7_cellsWithNeighbours_59 rfl (lv_at hl 0 rfl) ?_
    cases qob_ret hf
    exact ct_iret X hQ hK hP hD hS rfl dX7_cellsWithNeighbours_60
  · intro J1 hJ1 hf
    refine qwalk2 (fun (x3_2 : Int32) (x4_1 : Int32) => ∀ (H : Heap) (locs : List Loc) (ls : Array Slot), ctW D A s ([oX7 sv g, oX1 g g_rows g_columns g_a g_b g_cells g_right g_down]) H locs → lv_has ls 6 [(0, .ref sv), (1, .int p1), (2, .int p2), (3, .int x3_2), (4, .int x4_1)] → W p l e rmX7_cellsWithNeighbours s m args below meth c H locs 0 0 Q (F0 m 5 ls [])) ?_ _ (0 : Int32) (0 : Int32) hf _ _ _ ⟨hP, hD, hS⟩ (lv_sub hl [2, 3, 4, 1, 0] rfl)
    intro J2 hL2 x3_2 x4_1 hf H locs ls ⟨hP, hD, hS⟩ hl
    refine lv_iload hx hb dX7_cellsWithNeighbours_5 (lv_at hl 4 rfl) ?_
    refine lv_bipush (v := 48) hx hb dX7_cellsWithNeighbours_7 (by decide) ?_
    refine lv_icmp_ge (tgt := 59) hx hb dX7_cellsWithNeighbours_9 (by decide) (fun c3 => ?_) (fun c3 => ?_)
    · have hf := qob_t hf c3
      have hf := qob_esc hf
      exact hJ1 x3_2 hf _ _ _ ⟨hP, hD, hS⟩ (lv_sub hl [3] rfl)
    · have hf := qob_f hf c3
      refine lv_aload_n hx hb dX7_cellsWithNeighbours_12 rfl (lv_at hl 0 rfl) ?_
      refine va_get (D := D) (ci := 7) (v := .ref g) (C := RX7) (T := TX7) (N := 1) hx hb hts inwX7_cellsWithNeighbours_X7 hown hK hP 0 rfl rfl 0 (by decide) (hts (.fieldLink RX7 9 "HedgeWays$Survey" "grid" "LHedgeWays$Grid;") (List.mem_of_getElem? (i := 1) rfl)) (fun _ h9 => h9) rfl dX7_cellsWithNeighbours_13 ?_
      refine lv_iload hx hb dX7_cellsWithNeighbours_16 (lv_at hl 4 rfl) ?_
      refine ctV_i0 (r := (fX1_neighbours g_right g_down x4_1)) (wc := [oX1 g g_rows g_columns g_a g_b g_cells g_right g_down]) (As := [.int x4_1]) (rest := []) (q0 := 1) X hK hP hD hS [1] rfl rfl rfl (KX1_neighbours rfl _) (cwV 1 hts gX7_cellsWithNeighbours_X1_neighbours rfl rfl rfl hdX1_neighbours ⟨Nat.le_of_ble_eq_true rfl, Nat.le_of_ble_eq_true rfl⟩) rfl rfl rfl hl rfl (Nat.le_of_ble_eq_true rfl) dX7_cellsWithNeighbours_18 (Nat.zero_le _) (Nat.zero_le _) (fun H locs hP hS => ?_)
      refine lv_istore (lv' := [(5, .int (fX1_neighbours g_right g_down x4_1)), (0, .ref sv), (1, .int p1), (2, .int p2), (3, .int x3_2), (4, .int x4_1)]) hx hb dX7_cellsWithNeighbours_21 hl (by decide) rfl (fun ls hl => ?_)
      refine lv_aload_n hx hb dX7_cellsWithNeighbours_23 rfl (lv_at hl 1 rfl) ?_
      refine va_get (D := D) (ci := 7) (v := .ref g) (C := RX7) (T := TX7) (N := 1) hx hb hts inwX7_cellsWithNeighbours_X7 hown hK hP 0 rfl rfl 0 (by decide) (hts (.fieldLink RX7 9 "HedgeWays$Survey" "grid" "LHedgeWays$Grid;") (List.mem_of_getElem? (i := 1) rfl)) (fun _ h9 => h9) rfl dX7_cellsWithNeighbours_24 ?_
      refine va_get (D := D) (ci := 1) (v := .long g_cells) (C := RX1) (T := TX1) (N := 7) hx hb hts inwX7_cellsWithNeighbours_X1 hown hK hP 1 rfl rfl 4 (by decide) (hts (.fieldLink RX7 15 "HedgeWays$Grid" "cells" "J") (List.mem_of_getElem? (i := 2) rfl)) (fun _ h9 => h9) rfl dX7_cellsWithNeighbours_27 ?_
      refine lv_iload hx hb dX7_cellsWithNeighbours_30 (lv_at hl 5 rfl) ?_
      refine ctS_i0 (r := (fX1_has g_cells x4_1)) (wc := []) (As := [.long g_cells, .int x4_1]) (rest := []) X hK hP hD hS [] rfl rfl rfl (KX1_has rfl _) (va_cwS 2 hts gX7_cellsWithNeighbours_X1_has rfl rfl rfl hdX1_has ⟨Nat.le_of_ble_eq_true rfl, Nat.le_of_ble_eq_true rfl⟩) rfl hl rfl (Nat.le_of_ble_eq_true rfl) dX7_cellsWithNeighbours_32 (Nat.zero_le _) (Nat.zero_le _) (fun H locs hP hS => ?_)
      refine lv_if_eq (tgt := 53) hx hb dX7_cellsWithNeighbours_35 (by decide) (fun c4 => ?_) (fun c4 => ?_)
      · have hf := qob_t hf c4
        refine lv_iinc (v := (x4_1 + 1)) (lv' := [(4, .int (x4_1 + 1)), (5, .int (fX1_neighbours g_right g_down x4_1)), (0, .ref sv), (1, .int p1), (2, .int p2), (3, .int x3_2)]) hx hb dX7_cellsWithNeighbours_53 hl (k := 5) rfl rfl (by decide) rfl (fun ls hl => ?_)
        refine lv_goto (tgt := 5) hx hb dX7_cellsWithNeighbours_56 (by decide) ?_
        exact hL2 x3_2 (x4_1 + 1) hf _ _ _ ⟨hP, hD, hS⟩ (lv_sub hl [2, 3, 4, 5, 0] rfl)
      · have hf := qob_f hf c4
        refine lv_iload hx hb dX7_cellsWithNeighbours_38 (lv_at hl 0 rfl) ?_
        refine lv_iload_n hx hb dX7_cellsWithNeighbours_40 rfl (lv_at hl 2 rfl) ?_
        refine lv_icmp_lt (tgt := 53) hx hb dX7_cellsWithNeighbours_41 (by decide) (fun c5 => ?_) (fun c5 => ?_)
        · have hf := qob_t hf c5
          refine lv_iinc (v := (x4_1 + 1)) (lv' := [(4, .int (x4_1 + 1)), (5, .int (fX1_neighbours g_right g_down x4_1)), (0, .ref sv), (1, .int p1), (2, .int p2), (3, .int x3_2)]) hx hb dX7_cellsWithNeighbours_53 hl (k := 5) rfl rfl (by decide) rfl (fun ls hl => ?_)
          refine lv_goto (tgt := 5) hx hb dX7_cellsWithNeighbours_56 (by decide) ?_
          exact hL2 x3_2 (x4_1 + 1) hf _ _ _ ⟨hP, hD, hS⟩ (lv_sub hl [2, 3, 4, 5, 0] rfl)
        · have hf := qob_f hf c5
          refine lv_iload hx hb dX7_cellsWithNeighbours_44 (lv_at hl 0 rfl) ?_
          refine lv_iload_n hx hb dX7_cellsWithNeighbours_46 rfl (lv_at hl 3 rfl) ?_
          refine lv_icmp_gt (tgt := 53) hx hb dX7_cellsWithNeighbours_47 (by decide) (fun c6 => ?_) (fun c6 => ?_)
          · have hf := qob_t hf c6
            refine lv_iinc (v := (x4_1 + 1)) (lv' := [(4, .int (x4_1 + 1)), (5, .int (fX1_neighbours g_right g_down x4_1)), (0, .ref sv), (1, .int p1), (2, .int p2), (3, .int x3_2)]) hx hb dX7_cellsWithNeighbours_53 hl (k := 5) rfl rfl (by decide) rfl (fun ls hl => ?_)
            refine lv_goto (tgt := 5) hx hb dX7_cellsWithNeighbours_56 (by decide) ?_
            exact hL2 x3_2 (x4_1 + 1) hf _ _ _ ⟨hP, hD, hS⟩ (lv_sub hl [2, 3, 4, 5, 0] rfl)
          · have hf := qob_f hf c6
            refine lv_iinc (v := (x3_2 + 1)) (lv' := [(3, .int (x3_2 + 1)), (5, .int (fX1_neighbours g_right g_down x4_1)), (0, .ref sv), (1, .int p1), (2, .int p2), (4, .int x4_1)]) hx hb dX7_cellsWithNeighbours_50 hl (k := 4) rfl rfl (by decide) rfl (fun ls hl => ?_)
            refine lv_iinc (v := (x4_1 + 1)) (lv' := [(4, .int (x4_1 + 1)), (3, .int (x3_2 + 1)), (5, .int (fX1_neighbours g_right g_down x4_1)), (0, .ref sv), (1, .int p1), (2, .int p2)]) hx hb dX7_cellsWithNeighbours_53 hl (k := 5) rfl rfl (by decide) rfl (fun ls hl => ?_)
            refine lv_goto (tgt := 5) hx hb dX7_cellsWithNeighbours_56 (by decide) ?_
            exact hL2 (x3_2 + 1) (x4_1 + 1) hf _ _ _ ⟨hP, hD, hS⟩ (lv_sub hl [3, 4, 5, 1, 0] rfl)
theorem inwX7_isBridge_X7 : ∀ w ∈ wsX70, w ∈ wsX7_isBridge := fun _ h => List.mem_cons_of_mem _ (List.mem_append_left _ (List.mem_append_right _ h))
abbrev rmX7_isBridge : Room := { frames := 3, cells := 0, slots := 0, locals := 72 }
theorem hdX7_isBridge : yX7_isBridge.cls = RX7 ∧ yX7_isBridge.cls ≠ "java/lang/invoke/MethodHandle" ∧ yX7_isBridge.cls ≠ "java/lang/invoke/VarHandle" ∧ (parseMethodDescriptor yX7_isBridge.desc).map (fun d => d.parameters.length) = some 2 := by decide +kernel
set_option maxHeartbeats 4000000 in
set_option maxRecDepth 100000 in
theorem KX7_isBridge {l : Launch} {D : va_G} {cy : Nat → ClassId} {sv g : Nat} {g_rows : Int32} {g_columns : Int32} {g_a : Int32} {g_b : Int32} {g_cells : Int64} {g_right : Int64} {g_down : Int64} {p1 : Int32} {p2 : Int32} {r : Int32} {g_right' : Int64} {g_down' : Int64} (hf : fX7_isBridge g_cells g_right g_down p1 p2 = some (r, g_right', g_down')) : CtI l yX7_isBridge wsX7_isBridge rmX7_isBridge D cy [.ref sv, .int p1, .int p2] ([oX7 sv g, oX1 g g_rows g_columns g_a g_b g_cells g_right g_down]) ([oX7 sv g, oX1 g g_rows g_columns g_a g_b g_cells g_right' g_down']) r := by
  refine CtI.of (cc := cX7_isBridge) (maxL := 5) (ret := some .boolean) (own := RX7) (by decide) rfl rfl (Nat.le_of_ble_eq_true rfl) ?_
  intro p e s m args below meth c A Q X hQ hK hP hD hS ls hl
  obtain ⟨hx, hb, hml, hown, hts, hr, hlocks, hA, hZ⟩ := id X
  have hl : lv_has ls 5 [(0, .ref sv), (1, .int p1), (2, .int p2)] := hl
  unfold fX7_isBridge at hf
  have hf := qob_top hf
  refine lv_aload_n hx hb dX7_isBridge_0 rfl (lv_at hl 0 rfl) ?_
  refine va_get (D := D) (ci := 7) (v := .ref g) (C := RX7) (T := TX7) (N := 1) hx hb hts inwX7_isBridge_X7 hown hK hP 0 rfl rfl 0 (by decide) (hts (.fieldLink RX7 9 "HedgeWays$Survey" "grid" "LHedgeWays$Grid;") (List.mem_of_getElem? (i := 1) rfl)) (fun _ h9 => h9) rfl dX7_isBridge_1 ?_
  refine lv_iload_n hx hb dX7_isBridge_4 rfl (lv_at hl 1 rfl) ?_
  refine lv_iload_n hx hb dX7_isBridge_5 rfl (lv_at hl 2 rfl) ?_
  refine ctV_i0 (r := (fX1_neighbour g_cells g_right g_down p1 p2)) (wc := [oX1 g g_rows g_columns g_a g_b g_cells g_right g_down]) (As := [.int p1, .int p2]) (rest := []) (q0 := 1) X hK hP hD hS [1] rfl rfl rfl (KX1_neighbour rfl _) (cwV 2 hts gX7_isBridge_X1_neighbour rfl rfl rfl hdX1_neighbour ⟨Nat.le_of_ble_eq_true rfl, Nat.le_of_ble_eq_true rfl⟩) rfl rfl rfl hl rfl (Nat.le_of_ble_eq_true rfl) dX7_isBridge_6 (Nat.zero_le _) (Nat.zero_le _) (fun H locs hP hS => ?_)
  refine lv_istore_n (lv' := [(3, .int (fX1_neighbour g_cells g_right g_down p1 p2)), (0, .ref sv), (1, .int p1), (2, .int p2)]) hx hb dX7_isBridge_9 rfl hl (by decide) rfl (fun ls hl => ?_)
  refine lv_iload_n hx hb dX7_isBridge_10 rfl (lv_at hl 0 rfl) ?_
  refine lv_iconst (v := (-1)) hx hb dX7_isBridge_11 (by decide) ?_
  refine lv_icmp_ne (tgt := 17) hx hb dX7_isBridge_12 (by decide) (fun c1 => ?_) (fun c1 => ?_)
  · have hf := qob_f hf c1
    refine lv_aload_n hx hb dX7_isBridge_17 rfl (lv_at hl 1 rfl) ?_
    refine va_get (D := D) (ci := 7) (v := .ref g) (C := RX7) (T := TX7) (N := 1) hx hb hts inwX7_isBridge_X7 hown hK hP 0 rfl rfl 0 (by decide) (hts (.fieldLink RX7 9 "HedgeWays$Survey" "grid" "LHedgeWays$Grid;") (List.mem_of_getElem? (i := 1) rfl)) (fun _ h9 => h9) rfl dX7_isBridge_18 ?_
    refine lv_iload_n hx hb dX7_isBridge_21 rfl (lv_at hl 2 rfl) ?_
    refine lv_iload_n hx hb dX7_isBridge_22 rfl (lv_at hl 3 rfl) ?_
    refine lv_iconst (v := 0) hx hb dX7_isBridge_23 (by decide) ?_
    obtain ⟨g_right_1, g_down_1, q2, hf⟩ := qcallT2 hf
    refine ctV_v (wc := [oX1 g g_rows g_columns g_a g_b g_cells g_right g_down]) (w1 := [oX1 g g_rows g_columns g_a g_b g_cells g_right_1 g_down_1]) (wr := [oX7 sv g]) (wn := [oX7 sv g, oX1 g g_rows g_columns g_a g_b g_cells g_right_1 g_down_1]) (As := [.int p1, .int p2, .int 0]) (rest := []) (q0 := 1) X hK hP hD hS [1] [0] [0, 1] rfl rfl rfl rfl rfl (by decide) rfl rfl rfl (KX1_setOpen q2 _) (cwV 3 hts gX7_isBridge_X1_setOpen rfl rfl rfl hdX1_setOpen ⟨Nat.le_of_ble_eq_true rfl, Nat.le_of_ble_eq_true rfl⟩) rfl rfl rfl hl rfl (Nat.le_of_ble_eq_true rfl) dX7_isBridge_24 (Nat.zero_le _) (Nat.zero_le _) (fun H locs hP hD hS => ?_)
    refine lv_aload_n hx hb dX7_isBridge_27 rfl (lv_at hl 1 rfl) ?_
    refine va_get (D := D) (ci := 7) (v := .ref g) (C := RX7) (T := TX7) (N := 1) hx hb hts inwX7_isBridge_X7 hown hK hP 0 rfl rfl 0 (by decide) (hts (.fieldLink RX7 9 "HedgeWays$Survey" "grid" "LHedgeWays$Grid;") (List.mem_of_getElem? (i := 1) rfl)) (fun _ h9 => h9) rfl dX7_isBridge_28 ?_
    refine lv_iload_n hx hb dX7_isBridge_31 rfl (lv_at hl 2 rfl) ?_
    obtain ⟨r_1, q3, hf⟩ := qcall1 hf
    refine ctV_l0 (r := r_1) (wc := [oX1 g g_rows g_columns g_a g_b g_cells g_right_1 g_down_1]) (As := [.int p1]) (rest := []) (q0 := 1) X hK hP hD hS [1] rfl rfl rfl (KX1_partOf q3 _) (cwV 1 hts gX7_isBridge_X1_partOf rfl rfl rfl hdX1_partOf ⟨Nat.le_of_ble_eq_true rfl, Nat.le_of_ble_eq_true rfl⟩) rfl rfl rfl hl rfl (Nat.le_of_ble_eq_true rfl) dX7_isBridge_32 (Nat.zero_le _) (Nat.zero_le _) (fun H locs hP hS => ?_)
    refine lv_iload_n hx hb dX7_isBridge_35 rfl (lv_at hl 0 rfl) ?_
    refine ctS_i0 (r := (fX1_has r_1 (fX1_neighbour g_cells g_right g_down p1 p2))) (wc := []) (As := [.long r_1, .int (fX1_neighbour g_cells g_right g_down p1 p2)]) (rest := []) X hK hP hD hS [] rfl rfl rfl (KX1_has rfl _) (va_cwS 2 hts gX7_isBridge_X1_has rfl rfl rfl hdX1_has ⟨Nat.le_of_ble_eq_true rfl, Nat.le_of_ble_eq_true rfl⟩) rfl hl rfl (Nat.le_of_ble_eq_true rfl) dX7_isBridge_36 (Nat.zero_le _) (Nat.zero_le _) (fun H locs hP hS => ?_)
    refine qjoin1 hf (fun (s_1 : Int32) => ∀ (H : Heap) (locs : List Loc) (ls : Array Slot), ctW D A s ([oX7 sv g, oX1 g g_rows g_columns g_a g_b g_cells g_right_1 g_down_1]) H locs → lv_has ls 5 [(0, .ref sv), (1, .int p1), (2, .int p2)] → W p l e rmX7_isBridge s m args below meth c H locs 0 0 Q (F0 m 47 ls [.int s_1])) ?_ ?_
    · intro s_1 hf H locs ls ⟨hP, hD, hS⟩ hl
      refine lv_istore (lv' := [(4, .int s_1), (0, .ref sv), (1, .int p1), (2, .int p2)]) hx hb dX7_isBridge_47 hl (by decide) rfl (fun ls hl => ?_)
      refine lv_aload_n hx hb dX7_isBridge_49 rfl (lv_at hl 1 rfl) ?_
      refine va_get (D := D) (ci := 7) (v := .ref g) (C := RX7) (T := TX7) (N := 1) hx hb hts inwX7_isBridge_X7 hown hK hP 0 rfl rfl 0 (by decide) (hts (.fieldLink RX7 9 "HedgeWays$Survey" "grid" "LHedgeWays$Grid;") (List.mem_of_getElem? (i := 1) rfl)) (fun _ h9 => h9) rfl dX7_isBridge_50 ?_
      refine lv_iload_n hx hb dX7_isBridge_53 rfl (lv_at hl 2 rfl) ?_
      refine lv_iload_n hx hb dX7_isBridge_54 rfl (lv_at hl 3 rfl) ?_
      refine lv_iconst (v := 1) hx hb dX7_isBridge_55 (by decide) ?_
      obtain ⟨g_right_2, g_down_2, q4, hf⟩ := qcallT2 hf
      refine ctV_v (wc := [oX1 g g_rows g_columns g_a g_b g_cells g_right_1 g_down_1]) (w1 := [oX1 g g_rows g_columns g_a g_b g_cells g_right_2 g_down_2]) (wr := [oX7 sv g]) (wn := [oX7 sv g, oX1 g g_rows g_columns g_a g_b g_cells g_right_2 g_down_2]) (As := [.int p1, .int p2, .int 1]) (rest := []) (q0 := 1) X hK hP hD hS [1] [0] [0, 1] rfl rfl rfl rfl rfl (by decide) rfl rfl rfl (KX1_setOpen q4 _) (cwV 3 hts gX7_isBridge_X1_setOpen rfl rfl rfl hdX1_setOpen ⟨Nat.le_of_ble_eq_true rfl, Nat.le_of_ble_eq_true rfl⟩) rfl rfl rfl hl rfl (Nat.le_of_ble_eq_true rfl) dX7_isBridge_56 (Nat.zero_le _) (Nat.zero_le _) (fun H locs hP hD hS => ?_)
      refine lv_iload hx hb dX7_isBridge_59 (lv_at hl 0 rfl) ?_
      cases qob_ret hf
      exact ct_zret X hQ hK hP hD hS rfl dX7_isBridge_61
    · intro J5 hJ5 hf
      refine lv_if_ne (tgt := 46) hx hb dX7_isBridge_39 (by decide) (fun c6 => ?_) (fun c6 => ?_)
      · have hf := qob_f hf c6
        refine lv_iconst (v := 0) hx hb dX7_isBridge_46 (by decide) ?_
        exact hJ5 0 hf _ _ _ ⟨hP, hD, hS⟩ (lv_sub hl [1, 2, 3] rfl)
      · have hf := qob_t hf c6
        refine lv_iconst (v := 1) hx hb dX7_isBridge_42 (by decide) ?_
        refine lv_goto (tgt := 47) hx hb dX7_isBridge_43 (by decide) ?_
        exact hJ5 1 hf _ _ _ ⟨hP, hD, hS⟩ (lv_sub hl [1, 2, 3] rfl)
  · have hf := qob_t hf c1
    refine lv_iconst (v := 0) hx hb dX7_isBridge_15 (by decide) ?_
    cases qob_ret hf
    exact ct_zret X hQ hK hP hD hS qnb0 dX7_isBridge_16

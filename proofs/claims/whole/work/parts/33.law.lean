set_option maxHeartbeats 4000000 in
set_option maxRecDepth 100000 in
theorem law_loop {p : Program} {l : Launch} {e : Env} {s : State} {m : MethodId} {below : List Frame} {meth : Method} {c : Code} {b L : Nat} {xs : Nat → Int32} {D : va_G} {cy : Nat → ClassId} {hw sc g tn sl mk sv ro wk su ch hu q_sc_bytes q_mk_hedges q_mk_cameFrom q_ro_within q_ro_counts q_wk_cameFrom q_su_order q_su_table q_hu_before q_hu_after mo : Nat} {ma su_tr : Nat → Nat} (X : ctX p s m #[Value.ref b] meth c cL_law 4 ret wsL_law RL (lwA s)) (hXX : va_X b L xs s s.heap) (hbl : b < s.heap.size) (hK : va_K D vwCl (TY cy) s) (hL : L ≤ 3072) :
    ∀ (n i : Nat) (x3 : Int32), i ≤ L → L + 1 ≤ i + n → x3 = nI i → ∀ {sc_length : Int32} {sc_bytes : Nat → Int32} {g_rows : Int32} {g_columns : Int32} {g_a : Int32} {g_b : Int32} {g_cells : Int64} {g_right : Int64} {g_down : Int64} {tn_rows : Int32} {tn_columns : Int32} {tn_a : Int32} {tn_b : Int32} {tn_cells : Int64} {tn_right : Int64} {tn_down : Int64} {sl_f : Nat → Option Nat} {mk_x : Int64} {mk_hedges : Nat → Int32} {mk_cameFrom : Nat → Int32} {ro_within : Nat → Int64} {ro_counts : Nat → Int64} {wk_place : Int32} {wk_look : Int32} {wk_hand : Int32} {wk_visited : Int64} {wk_cameFrom : Nat → Int32} {su_count : Int32} {su_above : Int64} {su_below : Int64} {su_order : Nat → Int32} {hu_before : Nat → Int64} {hu_after : Nat → Int64} {m_thrown : Int32} {m_textSize : Int32} {m_rows : Int32} {m_columns : Int32} {m_a : Int32} {m_b : Int32} {m_readRows : Int32} {m_readColumns : Int32} {m_at : Int32} {m_looks : Int32} {m_came : Int32} {m_draw : Int64} {m_turnedRows : Int32} {m_turnedColumns : Int32} {m_text : Nat → Int32} {m_right : Nat → Int32} {m_down : Nat → Int32} {m_read : Nat → Int32} {m_keptFigures : Nat → Int32} {m_keptNumbers : Nat → Int32} {m_isKept : Nat → Int32} {m_dist : Nat → Int32} {m_queue : Nat → Int32} {m_ways : Nat → Int64} {m_shut : Nat → Int32} {m_parts : Nat → Int32} {m_back : Nat → Int32} {m_was : Nat → Int32} {m_matrix : Nat → Int64} {m_member : Nat → Int32} {m_place : Nat → Int32} {m_turns : Nat → Int32} {m_list : Nat → Int32} {m_turned : Nat → Int32} {su_table : Nat → Nat → Int64} {k0 k1 : Option (Nat × KG)}, Rel sc_length sc_bytes (g_rows, g_columns, g_a, g_b, g_cells, g_right, g_down) sl_f k0 k1 m_textSize m_text m_rows m_columns m_a m_b m_right m_down m_shut m_keptFigures m_keptNumbers m_isKept → ∀ (H : Heap) (locs : List Loc) (ls : Array Slot), ctW D (lwA s) s (LX cy hw sc g tn sl mk sv ro wk su ch hu q_sc_bytes q_mk_hedges q_mk_cameFrom q_ro_within q_ro_counts q_wk_cameFrom q_su_order q_su_table q_hu_before q_hu_after mo ma su_tr sc_length sc_bytes g_rows g_columns g_a g_b g_cells g_right g_down tn_rows tn_columns tn_a tn_b tn_cells tn_right tn_down sl_f mk_x mk_hedges mk_cameFrom ro_within ro_counts wk_place wk_look wk_hand wk_visited wk_cameFrom su_count su_above su_below su_order hu_before hu_after m_thrown m_textSize m_rows m_columns m_a m_b m_readRows m_readColumns m_at m_looks m_came m_draw m_turnedRows m_turnedColumns m_text m_right m_down m_read m_keptFigures m_keptNumbers m_isKept m_dist m_queue m_ways m_shut m_parts m_back m_was m_matrix m_member m_place m_turns m_list m_turned su_table ++ (slW k0 ++ slW k1)) H locs → lv_has ls 4 [(0, .ref b), (1, .ref hw), (2, .ref mo), (3, .int x3)] → W p l e room_1 s m #[Value.ref b] below meth c H locs (60 + nk k0 k1) (3000 + 7 * nk k0 k1) (lw_Z below #[Value.ref b] s) (F0 m 18 ls []) := by
  obtain ⟨hx, hb, hml, hown, hts, hr, hlocks, hA, hZ⟩ := id X
  have hbA : ¬ lwA s b := Nat.not_le.mpr hbl
  intro n
  induction n with
  | zero =>
    intro i x3 h1 h2
    omega
  | succ n ih =>
    intro i x3 hi hin ex3 sc_length sc_bytes g_rows g_columns g_a g_b g_cells g_right g_down tn_rows tn_columns tn_a tn_b tn_cells tn_right tn_down sl_f mk_x mk_hedges mk_cameFrom ro_within ro_counts wk_place wk_look wk_hand wk_visited wk_cameFrom su_count su_above su_below su_order hu_before hu_after m_thrown m_textSize m_rows m_columns m_a m_b m_readRows m_readColumns m_at m_looks m_came m_draw m_turnedRows m_turnedColumns m_text m_right m_down m_read m_keptFigures m_keptNumbers m_isKept m_dist m_queue m_ways m_shut m_parts m_back m_was m_matrix m_member m_place m_turns m_list m_turned su_table k0 k1 hR H locs ls hW hl
    obtain ⟨hP, hD, hS⟩ := hW
    refine lv_iload_n hx hb dL_law_18 rfl (lv_at hl 3 rfl) ?_
    refine lv_aload_n hx hb dL_law_19 rfl (lv_at hl 0 rfl) ?_
    refine va_slen hx hb hXX hbl hbA hS dL_law_20 ?_
    refine lv_bipush (v := 6) hx hb dL_law_21 (by decide) ?_
    refine lv_isub hx hb dL_law_23 ?_
    have hlt : (nI L - 6).toInt = (L : Int) - 6 := pk_sub_toInt (a := L) (b := 6) (by omega) (by decide)
    have hit : x3.toInt = (i : Int) := by rw [ex3]; exact nI_toInt (by omega)
    refine lv_icmp_gt (tgt := 1201) hx hb dL_law_24 (by decide) (fun c9 => ?_) (fun c9 => ?_)
    · refine lv_iconst (v := 1) hx hb dL_law_1201 (by decide) ?_
      refine va_forget (fun q hq => hS.2.2 q hq) ?_
      refine W.widen (k := 600000) (n := 7302250) (by have := nk_le k0 k1; omega) (by have := nk_le k0 k1; omega) ?_
      exact lw_ret hx hb hr hlocks dL_law_1202
    · have h6 : i + 6 ≤ L := by
        rw [Int32.lt_iff_toInt_lt] at c9
        have c9 : ¬ (nI L - 6).toInt < x3.toInt := c9
        rw [hlt, hit] at c9
        omega
      have hik : ∀ k : Nat, k < 6 → vp_in (x3 + nI k) L := fun k hk => by
        rw [ex3, nI_add]
        exact vp_in_nI (by omega) (by omega)
      have ih2 : ∀ {sc_length : Int32} {sc_bytes : Nat → Int32} {g_rows : Int32} {g_columns : Int32} {g_a : Int32} {g_b : Int32} {g_cells : Int64} {g_right : Int64} {g_down : Int64} {tn_rows : Int32} {tn_columns : Int32} {tn_a : Int32} {tn_b : Int32} {tn_cells : Int64} {tn_right : Int64} {tn_down : Int64} {sl_f : Nat → Option Nat} {mk_x : Int64} {mk_hedges : Nat → Int32} {mk_cameFrom : Nat → Int32} {ro_within : Nat → Int64} {ro_counts : Nat → Int64} {wk_place : Int32} {wk_look : Int32} {wk_hand : Int32} {wk_visited : Int64} {wk_cameFrom : Nat → Int32} {su_count : Int32} {su_above : Int64} {su_below : Int64} {su_order : Nat → Int32} {hu_before : Nat → Int64} {hu_after : Nat → Int64} {m_thrown : Int32} {m_textSize : Int32} {m_rows : Int32} {m_columns : Int32} {m_a : Int32} {m_b : Int32} {m_readRows : Int32} {m_readColumns : Int32} {m_at : Int32} {m_looks : Int32} {m_came : Int32} {m_draw : Int64} {m_turnedRows : Int32} {m_turnedColumns : Int32} {m_text : Nat → Int32} {m_right : Nat → Int32} {m_down : Nat → Int32} {m_read : Nat → Int32} {m_keptFigures : Nat → Int32} {m_keptNumbers : Nat → Int32} {m_isKept : Nat → Int32} {m_dist : Nat → Int32} {m_queue : Nat → Int32} {m_ways : Nat → Int64} {m_shut : Nat → Int32} {m_parts : Nat → Int32} {m_back : Nat → Int32} {m_was : Nat → Int32} {m_matrix : Nat → Int64} {m_member : Nat → Int32} {m_place : Nat → Int32} {m_turns : Nat → Int32} {m_list : Nat → Int32} {m_turned : Nat → Int32} {su_table : Nat → Nat → Int64} {k0 k1 : Option (Nat × KG)}, Rel sc_length sc_bytes (g_rows, g_columns, g_a, g_b, g_cells, g_right, g_down) sl_f k0 k1 m_textSize m_text m_rows m_columns m_a m_b m_right m_down m_shut m_keptFigures m_keptNumbers m_isKept → ∀ (H : Heap) (locs : List Loc) (ls : Array Slot), ctW D (lwA s) s (LX cy hw sc g tn sl mk sv ro wk su ch hu q_sc_bytes q_mk_hedges q_mk_cameFrom q_ro_within q_ro_counts q_wk_cameFrom q_su_order q_su_table q_hu_before q_hu_after mo ma su_tr sc_length sc_bytes g_rows g_columns g_a g_b g_cells g_right g_down tn_rows tn_columns tn_a tn_b tn_cells tn_right tn_down sl_f mk_x mk_hedges mk_cameFrom ro_within ro_counts wk_place wk_look wk_hand wk_visited wk_cameFrom su_count su_above su_below su_order hu_before hu_after m_thrown m_textSize m_rows m_columns m_a m_b m_readRows m_readColumns m_at m_looks m_came m_draw m_turnedRows m_turnedColumns m_text m_right m_down m_read m_keptFigures m_keptNumbers m_isKept m_dist m_queue m_ways m_shut m_parts m_back m_was m_matrix m_member m_place m_turns m_list m_turned su_table ++ (slW k0 ++ slW k1)) H locs → lv_has ls 4 [(0, .ref b), (1, .ref hw), (2, .ref mo), (3, .int x3)] → W p l e room_1 s m #[Value.ref b] below meth c H locs (60 + nk k0 k1) (3000 + 7 * nk k0 k1) (lw_Z below #[Value.ref b] s) (F0 m 1195 ls []) := by
        intro sc_length sc_bytes g_rows g_columns g_a g_b g_cells g_right g_down tn_rows tn_columns tn_a tn_b tn_cells tn_right tn_down sl_f mk_x mk_hedges mk_cameFrom ro_within ro_counts wk_place wk_look wk_hand wk_visited wk_cameFrom su_count su_above su_below su_order hu_before hu_after m_thrown m_textSize m_rows m_columns m_a m_b m_readRows m_readColumns m_at m_looks m_came m_draw m_turnedRows m_turnedColumns m_text m_right m_down m_read m_keptFigures m_keptNumbers m_isKept m_dist m_queue m_ways m_shut m_parts m_back m_was m_matrix m_member m_place m_turns m_list m_turned su_table k0 k1 hR H locs ls hW hl
        refine lv_iinc (v := x3 + 6) (lv' := [(3, .int (x3 + 6)), (0, .ref b), (1, .ref hw), (2, .ref mo)]) hx hb dL_law_1195 hl (k := 3) rfl rfl (by decide) rfl (fun ls hl => ?_)
        refine lv_goto (tgt := 18) hx hb dL_law_1198 (by decide) ?_
        exact ih (i + 6) (x3 + 6) (by omega) (by omega) (by rw [ex3]; exact nI_add i 6) hR _ _ _ hW (lv_sub hl [1, 2, 3, 0] rfl)
      refine lv_aload_n hx hb dL_law_27 rfl (lv_at hl 0 rfl) ?_
      refine lv_iload_n hx hb dL_law_28 rfl (lv_at hl 3 rfl) ?_
      refine va_sld hx hb hXX hbl hbA hS (by rw [ex3]; exact vp_in_nI (by omega) (by omega)) dL_law_29 ?_
      refine lv_bipush (v := 31) hx hb dL_law_30 (by decide) ?_
      refine lv_iand hx hb dL_law_32 ?_
      obtain ⟨j, hj, ej⟩ := pk_andE (xs x3.toNatClampNeg) (m := 31) 5 (by decide)
      rw [ej]
      match j, hj with
      | 0, _ =>
        refine lv_tableIn (off := 143) (tgt := 176) hx hb dL_law_33 (by decide) (by decide) rfl (by decide) ?_
        exact law_c0 X hXX hbl hK hik ih2 hR ⟨hP, hD, hS⟩ hl
      | 1, _ =>
        refine lv_tableIn (off := 206) (tgt := 239) hx hb dL_law_33 (by decide) (by decide) rfl (by decide) ?_
        exact law_c1 X hXX hbl hK hik ih2 hR ⟨hP, hD, hS⟩ hl
      | 2, _ =>
        refine lv_tableIn (off := 219) (tgt := 252) hx hb dL_law_33 (by decide) (by decide) rfl (by decide) ?_
        exact law_c2 X hXX hbl hK hik ih2 hR ⟨hP, hD, hS⟩ hl
      | 3, _ =>
        refine lv_tableIn (off := 232) (tgt := 265) hx hb dL_law_33 (by decide) (by decide) rfl (by decide) ?_
        exact law_c3 X hXX hbl hK hik ih2 hR ⟨hP, hD, hS⟩ hl
      | 4, _ =>
        refine lv_tableIn (off := 245) (tgt := 278) hx hb dL_law_33 (by decide) (by decide) rfl (by decide) ?_
        exact law_c4 X hXX hbl hK hik ih2 hR ⟨hP, hD, hS⟩ hl
      | 5, _ =>
        refine lv_tableIn (off := 328) (tgt := 361) hx hb dL_law_33 (by decide) (by decide) rfl (by decide) ?_
        exact law_c5 X hXX hbl hK hik ih2 hR ⟨hP, hD, hS⟩ hl
      | 6, _ =>
        refine lv_tableIn (off := 361) (tgt := 394) hx hb dL_law_33 (by decide) (by decide) rfl (by decide) ?_
        exact law_c6 X hXX hbl hK hik ih2 hR ⟨hP, hD, hS⟩ hl
      | 7, _ =>
        refine lv_tableIn (off := 420) (tgt := 453) hx hb dL_law_33 (by decide) (by decide) rfl (by decide) ?_
        exact law_c7 X hXX hbl hK hik ih2 hR ⟨hP, hD, hS⟩ hl
      | 8, _ =>
        refine lv_tableIn (off := 453) (tgt := 486) hx hb dL_law_33 (by decide) (by decide) rfl (by decide) ?_
        exact law_c8 X hXX hbl hK hik ih2 hR ⟨hP, hD, hS⟩ hl
      | 9, _ =>
        refine lv_tableIn (off := 476) (tgt := 509) hx hb dL_law_33 (by decide) (by decide) rfl (by decide) ?_
        exact law_c9 X hXX hbl hK hik ih2 hR ⟨hP, hD, hS⟩ hl
      | 10, _ =>
        refine lv_tableIn (off := 499) (tgt := 532) hx hb dL_law_33 (by decide) (by decide) rfl (by decide) ?_
        exact law_c10 X hXX hbl hK hik ih2 hR ⟨hP, hD, hS⟩ hl
      | 11, _ =>
        refine lv_tableIn (off := 522) (tgt := 555) hx hb dL_law_33 (by decide) (by decide) rfl (by decide) ?_
        exact law_c11 X hXX hbl hK hik ih2 hR ⟨hP, hD, hS⟩ hl
      | 12, _ =>
        refine lv_tableIn (off := 555) (tgt := 588) hx hb dL_law_33 (by decide) (by decide) rfl (by decide) ?_
        exact law_c12 X hXX hbl hK hik ih2 hR ⟨hP, hD, hS⟩ hl
      | 13, _ =>
        refine lv_tableIn (off := 578) (tgt := 611) hx hb dL_law_33 (by decide) (by decide) rfl (by decide) ?_
        exact law_c13 X hXX hbl hK hik ih2 hR ⟨hP, hD, hS⟩ hl
      | 14, _ =>
        refine lv_tableIn (off := 601) (tgt := 634) hx hb dL_law_33 (by decide) (by decide) rfl (by decide) ?_
        exact law_c14 X hXX hbl hK hik ih2 hR ⟨hP, hD, hS⟩ hl
      | 15, _ =>
        refine lv_tableIn (off := 634) (tgt := 667) hx hb dL_law_33 (by decide) (by decide) rfl (by decide) ?_
        exact law_c15 X hXX hbl hK hik ih2 hR ⟨hP, hD, hS⟩ hl
      | 16, _ =>
        refine lv_tableIn (off := 668) (tgt := 701) hx hb dL_law_33 (by decide) (by decide) rfl (by decide) ?_
        exact law_c16 X hXX hbl hK hik ih2 hR ⟨hP, hD, hS⟩ hl
      | 17, _ =>
        refine lv_tableIn (off := 711) (tgt := 744) hx hb dL_law_33 (by decide) (by decide) rfl (by decide) ?_
        exact law_c17 X hXX hbl hK hik ih2 hR ⟨hP, hD, hS⟩ hl
      | 18, _ =>
        refine lv_tableIn (off := 734) (tgt := 767) hx hb dL_law_33 (by decide) (by decide) rfl (by decide) ?_
        exact law_c18 X hXX hbl hK hik ih2 hR ⟨hP, hD, hS⟩ hl
      | 19, _ =>
        refine lv_tableIn (off := 783) (tgt := 816) hx hb dL_law_33 (by decide) (by decide) rfl (by decide) ?_
        exact law_c19 X hXX hbl hK hik ih2 hR ⟨hP, hD, hS⟩ hl
      | 20, _ =>
        refine lv_tableIn (off := 842) (tgt := 875) hx hb dL_law_33 (by decide) (by decide) rfl (by decide) ?_
        exact law_c20 X hXX hbl hK hik ih2 hR ⟨hP, hD, hS⟩ hl
      | 21, _ =>
        refine lv_tableIn (off := 855) (tgt := 888) hx hb dL_law_33 (by decide) (by decide) rfl (by decide) ?_
        exact law_c21 X hXX hbl hK hik ih2 hR ⟨hP, hD, hS⟩ hl
      | 22, _ =>
        refine lv_tableIn (off := 868) (tgt := 901) hx hb dL_law_33 (by decide) (by decide) rfl (by decide) ?_
        exact law_c22 X hXX hbl hK hik ih2 hR ⟨hP, hD, hS⟩ hl
      | 23, _ =>
        refine lv_tableIn (off := 928) (tgt := 961) hx hb dL_law_33 (by decide) (by decide) rfl (by decide) ?_
        exact law_c23 X hXX hbl hK hik ih2 hR ⟨hP, hD, hS⟩ hl
      | 24, _ =>
        refine lv_tableIn (off := 952) (tgt := 985) hx hb dL_law_33 (by decide) (by decide) rfl (by decide) ?_
        exact law_c24 X hXX hbl hK hik ih2 hR ⟨hP, hD, hS⟩ hl
      | 25, _ =>
        refine lv_tableIn (off := 985) (tgt := 1018) hx hb dL_law_33 (by decide) (by decide) rfl (by decide) ?_
        exact law_c25 X hXX hbl hK hik ih2 hR ⟨hP, hD, hS⟩ hl
      | 26, _ =>
        refine lv_tableIn (off := 998) (tgt := 1031) hx hb dL_law_33 (by decide) (by decide) rfl (by decide) ?_
        exact law_c26 X hXX hbl hK hik ih2 hR ⟨hP, hD, hS⟩ hl
      | 27, _ =>
        refine lv_tableIn (off := 1011) (tgt := 1044) hx hb dL_law_33 (by decide) (by decide) rfl (by decide) ?_
        exact law_c27 X hXX hbl hK hik ih2 hR ⟨hP, hD, hS⟩ hl
      | 28, _ =>
        refine lv_tableIn (off := 1070) (tgt := 1103) hx hb dL_law_33 (by decide) (by decide) rfl (by decide) ?_
        exact law_c28 X hXX hbl hK hik ih2 hR ⟨hP, hD, hS⟩ hl
      | 29, _ =>
        refine lv_tableIn (off := 1093) (tgt := 1126) hx hb dL_law_33 (by decide) (by decide) rfl (by decide) ?_
        exact law_c29 X hXX hbl hK hik ih2 hR ⟨hP, hD, hS⟩ hl
      | 30, _ =>
        refine lv_tableIn (off := 1116) (tgt := 1149) hx hb dL_law_33 (by decide) (by decide) rfl (by decide) ?_
        exact law_c30 X hXX hbl hK hik ih2 hR ⟨hP, hD, hS⟩ hl
      | 31, _ =>
        refine lv_tableIn (off := 1139) (tgt := 1172) hx hb dL_law_33 (by decide) (by decide) rfl (by decide) ?_
        exact law_c31 X hXX hbl hK hik ih2 hR ⟨hP, hD, hS⟩ hl
      | j + 32, hj => exact absurd hj (by omega)
